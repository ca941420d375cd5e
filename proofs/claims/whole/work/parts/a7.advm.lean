/-! ===== the reference: the next token ===== -/
def mkH (h : Hp) (m : Nat) (q : Nat → Int32) (l : Int64) : Hp := (fun f a => if a = m ∧ 1214 ≤ f ∧ f ≤ 1218 then q f else h.1 f a, fun f a => if f = 1219 ∧ a = m then l else h.2.1 f a, h.2.2)
theorem mh_gi {h : Hp} {m : Nat} {q : Nat → Int32} {l : Int64} {f : Nat} (h1 : 1214 ≤ f) (h2 : f ≤ 1218) : hGi (mkH h m q l) f m = q f := if_pos ⟨rfl, h1, h2⟩
theorem mh_go {h : Hp} {m : Nat} {q : Nat → Int32} {l : Int64} {f a : Nat} (n : ¬ (a = m ∧ 1214 ≤ f ∧ f ≤ 1218)) : hGi (mkH h m q l) f a = hGi h f a := if_neg n
theorem mh_gl {h : Hp} {m : Nat} {q : Nat → Int32} {l : Int64} : hGl (mkH h m q l) 1219 m = l := if_pos ⟨rfl, rfl⟩
theorem mh_glo {h : Hp} {m : Nat} {q : Nat → Int32} {l : Int64} {f a : Nat} (n : ¬ (f = 1219 ∧ a = m)) : hGl (mkH h m q l) f a = hGl h f a := if_neg n
theorem mh_si {h : Hp} {m : Nat} {q : Nat → Int32} {l : Int64} {f : Nat} {v : Int32} (h1 : 1214 ≤ f) (h2 : f ≤ 1218) : hSi (mkH h m q l) f m v = mkH h m (upd q f v) l := by
  have : up2 (fun f a => if a = m ∧ 1214 ≤ f ∧ f ≤ 1218 then q f else h.1 f a) f m v = fun f' a => if a = m ∧ 1214 ≤ f' ∧ f' ≤ 1218 then upd q f v f' else h.1 f' a := by
    funext x y
    unfold up2
    by_cases e : x = f ∧ y = m
    · rw [if_pos e, if_pos ⟨e.2, by omega, by omega⟩, e.1, pk_us]
    · rw [if_neg e]
      show (if y = m ∧ 1214 ≤ x ∧ x ≤ 1218 then q x else h.1 x y) = _
      by_cases z : y = m ∧ 1214 ≤ x ∧ x ≤ 1218
      · rw [if_pos z, if_pos z, pk_un (fun w => e ⟨w, z.1⟩)]
      · rw [if_neg z, if_neg z]
  unfold hSi mkH
  rw [this]
theorem mh_sl {h : Hp} {m : Nat} {q : Nat → Int32} {l v : Int64} : hSl (mkH h m q l) 1219 m v = mkH h m q v := by
  have : up2 (fun f a => if f = 1219 ∧ a = m then l else h.2.1 f a) 1219 m v = fun f a => if f = 1219 ∧ a = m then v else h.2.1 f a := by
    funext x y
    unfold up2
    by_cases e : x = 1219 ∧ y = m
    · rw [if_pos e, if_pos e]
    · rw [if_neg e]
      show (if x = 1219 ∧ y = m then l else h.2.1 x y) = _
      rw [if_neg e, if_neg e]
  unfold hSl mkH
  rw [this]
theorem mh_self (h : Hp) (m : Nat) : mkH h m (fun f => hGi h f m) (hGl h 1219 m) = h := by
  have e1 : (fun f a => if a = m ∧ 1214 ≤ f ∧ f ≤ 1218 then hGi h f m else h.1 f a) = h.1 := by
    funext f a
    by_cases z : a = m ∧ 1214 ≤ f ∧ f ≤ 1218
    · rw [if_pos z, z.1]; rfl
    · rw [if_neg z]
  have e2 : (fun f a => if f = 1219 ∧ a = m then hGl h 1219 m else h.2.1 f a) = h.2.1 := by
    funext f a
    by_cases z : f = 1219 ∧ a = m
    · rw [if_pos z, z.1, z.2]; rfl
    · rw [if_neg z]
  unfold mkH
  rw [e1, e2]
theorem til_stop (f : Nat → Bool) (n : Nat) : ∀ k p, n ≤ p + k → til f n k p < n → f (til f n k p) = false := by
  intro k
  induction k with
  | zero => intro p h1 h2; exact absurd h2 (by rw [til]; omega)
  | succ k ih =>
    intro p h1 h2
    rw [til] at h2 ⊢
    by_cases q : p < n ∧ f p = true
    · rw [if_pos q] at h2 ⊢
      exact ih (p + 1) (by omega) h2
    · rw [if_neg q] at h2 ⊢
      cases e : f p with
      | false => rfl
      | true => exact absurd ⟨h2, e⟩ q
section ADM
variable {Y : Ly} {h : Hp} {m n : Nat} {T : Nat → Int32}
def TM (Y : Ly) (h : Hp) (m n : Nat) (T : Nat → Int32) : Prop := lnY Y (hGr h 1207 m) = 900 ∧ n ≤ 900 ∧ hGi h 1209 m = nI n ∧ ∀ i, i < n → hAi h (hGr h 1207 m) i = T i ∧ byO (T i)
theorem MB_lt {i : Nat} (X : TM Y h m n T) (hi : i < n) : BB T i < 256 := (by_s (X.2.2.2 i hi).2).2.2.1
theorem look_s (X : TM Y h m n T) {q : Nat → Int32} {l : Int64} {i : Nat} (hi : i < 901) : M_look2 Y m (nI i) (mkH h m q l) = some (nI (if i < n then BB T i else 0)) := by
  have h900 := X.2.1
  unfold M_look2
  rw [mh_go (by omega), X.2.2.1]
  by_cases z : i < n
  · rw [if_neg (nI_ge z (by omega)), if_pos z, show lnY Y (hGr (mkH h m q l) 1207 m) = 900 from X.1, if_pos (inB_nI (by omega) (by omega)), nI_clamp (by omega), show hAi (mkH h m q l) (hGr (mkH h m q l) 1207 m) i = T i from (X.2.2.2 i z).1, (by_s (X.2.2.2 i z).2).2.1]
    rfl
  · rw [if_pos (nI_le (by omega) (by omega)), if_neg z]; rfl
theorem mlet_all : ∀ b : Fin 256, M_isLetter Y00 (nI b.val) h00 = some (sofN b.val == 1) ∧ M_isDigit Y00 (nI b.val) h00 = some (sofN b.val == 2) ∧ M_isSignByte Y00 0 (nI b.val) h00 = some (sofN b.val == 3) := by decide +kernel
theorem mlet_s {b : Nat} (hb : b < 256) (Y : Ly) (h : Hp) : M_isLetter Y (nI b) h = some (sofN b == 1) := (mlet_all ⟨b, hb⟩).1
theorem mdig_s {b : Nat} (hb : b < 256) (Y : Ly) (h : Hp) : M_isDigit Y (nI b) h = some (sofN b == 2) := (mlet_all ⟨b, hb⟩).2.1
theorem msgn_s {b : Nat} (hb : b < 256) (Y : Ly) (x : Nat) (h : Hp) : M_isSignByte Y x (nI b) h = some (sofN b == 3) := (mlet_all ⟨b, hb⟩).2.2
theorem sof_4 {b : Nat} : sofN b = 4 ↔ b = 10 ∨ b = 32 := by
  unfold sofN
  constructor
  · intro h
    split at h
    · omega
    · split at h
      · omega
      · split at h
        · next q => exact q
        · split at h <;> omega
  · rintro (e | e) <;> (subst e; rfl)
theorem L8_s (X : TM Y h m n T) {l : Int64} : ∀ k i F (q : Nat → Int32), n ≤ i + k → i ≤ n → k < F → q 1215 = nI i →
    M_advance_L8 Y m F (mkH h m q l) = M_advance_J58 Y m (mkH h m (upd q 1215 (nI (til (fun j => sofN (BB T j) == 4) n k i))) l) := by
  have h900 := X.2.1
  intro k
  induction k with
  | zero =>
    intro i F q h1 h2 hF hq
    obtain ⟨F, rfl⟩ : ∃ F', F = F' + 1 := ⟨F - 1, by omega⟩
    rw [M_advance_L8, mh_go (by omega), X.2.2.1, mh_gi (by decide) (by decide), hq, if_pos (nI_le (by omega) (by omega)), til, upd_self hq]
  | succ k ih =>
    intro i F q h1 h2 hF hq
    obtain ⟨F, rfl⟩ : ∃ F', F = F' + 1 := ⟨F - 1, by omega⟩
    rw [M_advance_L8, mh_go (by omega), X.2.2.1, mh_gi (by decide) (by decide), hq, til]
    by_cases hi : i < n
    · have hb := MB_lt X hi
      rw [if_neg (nI_ge hi (by omega)), look_s X (by omega), bind_s, if_pos hi, nI_1, mh_si (by decide) (by decide), letH_e, bind_s]
      by_cases z : sofN (BB T i) = 4
      · rw [if_pos (show i < n ∧ (sofN (BB T i) == 4) = true from ⟨hi, by rw [z]; rfl⟩)]
        have := ih (i + 1) F (upd q 1215 (nI (i + 1))) (by omega) (by omega) (by omega) (by rw [pk_us])
        rw [upd_upd] at this
        rcases sof_4.mp z with e | e
        · rw [if_pos (show nI (BB T i) = 10 by rw [e]; rfl), this]
        · rw [if_neg (show ¬ nI (BB T i) = 10 by rw [e]; decide), if_pos (show nI (BB T i) = 32 by rw [e]; rfl), this]
      · have nz := fun w => z (sof_4.mpr w)
        rw [if_neg (show ¬ nI (BB T i) = 10 from fun w => nz (Or.inl ((nI_eq (b := 10) (by omega) (by decide)).mp w))), if_neg (show ¬ nI (BB T i) = 32 from fun w => nz (Or.inr ((nI_eq (b := 32) (by omega) (by decide)).mp w))), if_neg (fun w => z (by simpa using w.2)), upd_self hq]
    · rw [if_pos (nI_le (by omega) (by omega)), if_neg (fun w => hi w.1), upd_self hq]
/-- the word so far -/
def wdL (T : Nat → Int32) (s i : Nat) : Int64 := if i - s ≤ 8 then lN (wF T s (i - s)) else mL
theorem L109_s (X : TM Y h m n T) {s : Nat} : ∀ k i F (q : Nat → Int32), n ≤ i + k → i ≤ n → s ≤ i → k + 1 < F → q 1216 = nI i → q 1215 = nI s →
    ∃ q', M_advance_L109 Y m F (mkH h m q (wdL T s i)) = some (mkH h m q' (wdL T s (til (fun j => sofN (BB T j) == 1) n k i))) ∧ q' 1216 = nI (til (fun j => sofN (BB T j) == 1) n k i) ∧ q' 1218 = nI (til (fun j => sofN (BB T j) == 1) n k i - s) ∧ ∀ f, f ≠ 1216 → f ≠ 1218 → q' f = q f := by
  have h900 := X.2.1
  have stop : ∀ i F (q : Nat → Int32), i ≤ n → s ≤ i → ¬ (i < n ∧ (sofN (BB T i) == 1) = true) → q 1216 = nI i → q 1215 = nI s → M_advance_L109 Y m (F + 1) (mkH h m q (wdL T s i)) = some (mkH h m (upd q 1218 (nI (i - s))) (wdL T s i)) := by
    intro i F q hi hs hn hq hq5
    rw [M_advance_L109, mh_gi (by decide) (by decide), hq, look_s X (by omega), bind_s]
    have hl : M_isLetter Y (nI (if i < n then BB T i else 0)) (mkH h m q (wdL T s i)) = some false := by
      by_cases z : i < n
      · rw [if_pos z, mlet_s (MB_lt X z)]
        congr 1
        cases e : (sofN (BB T i) == 1) with
        | false => rfl
        | true => exact absurd ⟨z, e⟩ hn
      · rw [if_neg z, mlet_s (by decide)]; rfl
    rw [hl, bind_s, if_neg (by decide), mh_gi (by decide) (by decide), hq5, pk_sub hs, mh_si (by decide) (by decide), letH_e]
  intro k
  induction k with
  | zero =>
    intro i F q h1 h2 hs hF hq hq5
    obtain ⟨F, rfl⟩ : ∃ F', F = F' + 1 := ⟨F - 1, by omega⟩
    refine ⟨_, stop i F q h2 hs (fun w => by omega) hq hq5, by rw [pk_un (by decide)]; exact hq, pk_us, fun f h1 h2 => pk_un h2⟩
  | succ k ih =>
    intro i F q h1 h2 hs hF hq hq5
    obtain ⟨F, rfl⟩ : ∃ F', F = F' + 1 := ⟨F - 1, by omega⟩
    rw [til]
    by_cases z : i < n ∧ (sofN (BB T i) == 1) = true
    · rw [if_pos z]
      have hb := MB_lt X z.1
      have hl := sof_1 (by simpa using z.2)
      obtain ⟨q', e1, e2, e3, e4⟩ := ih (i + 1) F (upd q 1216 (nI (i + 1))) (by omega) (by omega) (by omega) (by omega) (by rw [pk_us]) (by rw [pk_un (by decide)]; exact hq5)
      refine ⟨q', ?_, e2, e3, fun f h1 h2 => by rw [e4 f h1 h2, pk_un h1]⟩
      rw [← e1, M_advance_L109, mh_gi (by decide) (by decide), hq, look_s X (by omega), bind_s, if_pos z.1, mlet_s hb, bind_s, if_pos z.2, mh_gi (by decide) (by decide), hq5, pk_sub hs]
      by_cases w : 8 ≤ i - s
      · rw [if_pos (show (8 : Int32) ≤ nI (i - s) from nI_le (a := 8) w (by omega)), letH_e, letH_e, mh_sl, mh_gi (by decide) (by decide), hq, nI_1, mh_si (by decide) (by decide)]
        rw [show wdL T s (i + 1) = -1 by unfold wdL; rw [if_neg (by omega)]; rfl]
      · have e : wdL T s i = lN (wF T s (i - s)) := by unfold wdL; rw [if_pos (by omega)]
        have e' : lN (wF T s (i - s)) * 32 + (nI (BB T i)).toInt64 - 96 = wdL T s (i + 1) := by
          unfold wdL
          rw [if_pos (by omega), show i + 1 - s = (i - s) + 1 by omega, wF, show s + (i - s) = i by omega, nI_lN (by omega), show (32 : Int64) = lN 32 from rfl, show (96 : Int64) = lN 96 from rfl, lN_mul, lN_add, lN_sub (by omega)]
          congr 1
          omega
        rw [if_neg (show ¬ (8 : Int32) ≤ nI (i - s) from nI_ge (b := 8) (by omega) (by omega)), bind_s, letH_e, letH_e, mh_gl, e, e', mh_sl, mh_gi (by decide) (by decide), hq, nI_1, mh_si (by decide) (by decide)]
    · rw [if_neg z]
      exact ⟨_, stop i F q h2 hs z hq hq5, by rw [pk_un (by decide)]; exact hq, pk_us, fun f h1 h2 => pk_un h2⟩
theorem L210_s (X : TM Y h m n T) {s : Nat} {l : Int64} : ∀ k i F (q : Nat → Int32), n ≤ i + k → i ≤ n → s ≤ i → k + 1 < F → q 1216 = nI i → q 1215 = nI s → (i - s ≤ 4 → q 1217 = nI (nF T s (i - s))) →
    ∃ q', M_advance_L210 Y m F (mkH h m q l) = some (mkH h m q' l) ∧ q' 1216 = nI (til (fun j => sofN (BB T j) == 2) n k i) ∧ q' 1215 = nI s ∧ q' 1214 = nI (if 4 < til (fun j => sofN (BB T j) == 2) n k i - s then 4 else 2) ∧ (til (fun j => sofN (BB T j) == 2) n k i - s ≤ 4 → q' 1217 = nI (nF T s (til (fun j => sofN (BB T j) == 2) n k i - s))) := by
  have h900 := X.2.1
  have stop : ∀ i F (q : Nat → Int32), i ≤ n → s ≤ i → ¬ (i < n ∧ (sofN (BB T i) == 2) = true) → q 1216 = nI i → q 1215 = nI s → M_advance_L210 Y m (F + 1) (mkH h m q l) = some (mkH h m (upd q 1214 (nI (if 4 < i - s then 4 else 2))) l) := by
    intro i F q hi hs hn hq hq5
    rw [M_advance_L210, mh_gi (by decide) (by decide), hq, look_s X (by omega), bind_s]
    have hl : M_isDigit Y (nI (if i < n then BB T i else 0)) (mkH h m q l) = some false := by
      by_cases z : i < n
      · rw [if_pos z, mdig_s (MB_lt X z)]
        congr 1
        cases e : (sofN (BB T i) == 2) with
        | false => rfl
        | true => exact absurd ⟨z, e⟩ hn
      · rw [if_neg z, mdig_s (by decide)]; rfl
    rw [hl, bind_s, if_neg (by decide), mh_gi (by decide) (by decide), hq5, pk_sub hs]
    by_cases w : i - s ≤ 4
    · rw [if_pos (show nI (i - s) ≤ 4 from nI_le (b := 4) w (by decide)), mh_si (by decide) (by decide), letH_e, if_neg (by omega)]; rfl
    · rw [if_neg (show ¬ nI (i - s) ≤ 4 from nI_ge (a := 4) (by omega) (by omega)), mh_si (by decide) (by decide), letH_e, if_pos (by omega)]; rfl
  intro k
  induction k with
  | zero =>
    intro i F q h1 h2 hs hF hq hq5 hq7
    obtain ⟨F, rfl⟩ : ∃ F', F = F' + 1 := ⟨F - 1, by omega⟩
    refine ⟨_, stop i F q h2 hs (fun w => by omega) hq hq5, by rw [pk_un (by decide)]; exact hq, by rw [pk_un (by decide)]; exact hq5, pk_us, fun w => by rw [pk_un (by decide)]; exact hq7 w⟩
  | succ k ih =>
    intro i F q h1 h2 hs hF hq hq5 hq7
    obtain ⟨F, rfl⟩ : ∃ F', F = F' + 1 := ⟨F - 1, by omega⟩
    rw [til]
    by_cases z : i < n ∧ (sofN (BB T i) == 2) = true
    · rw [if_pos z]
      have hb := MB_lt X z.1
      have hl := sof_2 (by simpa using z.2)
      by_cases w : 4 ≤ i - s
      · obtain ⟨q', e1, e2⟩ := ih (i + 1) F (upd q 1216 (nI (i + 1))) (by omega) (by omega) (by omega) (by omega) (by rw [pk_us]) (by rw [pk_un (by decide)]; exact hq5) (fun w' => by omega)
        refine ⟨q', ?_, e2⟩
        rw [← e1, M_advance_L210, mh_gi (by decide) (by decide), hq, look_s X (by omega), bind_s, if_pos z.1, mdig_s hb, bind_s, if_pos z.2, mh_gi (by decide) (by decide), hq5, pk_sub hs, if_pos (show (4 : Int32) ≤ nI (i - s) from nI_le (a := 4) w (by omega)), letH_e, nI_1, mh_si (by decide) (by decide)]
      · have e' : 10 * nI (nF T s (i - s)) + nI (BB T i) - 48 = nI (nF T s (i + 1 - s)) := by
          rw [show i + 1 - s = (i - s) + 1 by omega, nF, show s + (i - s) = i by omega, show (48 : Int32) = nI 48 from rfl, show (10 : Int32) = nI 10 from rfl, pk_mul, nI_add, pk_sub (by omega)]
          congr 1
          omega
        obtain ⟨q', e1, e2⟩ := ih (i + 1) F (upd (upd q 1217 (nI (nF T s (i + 1 - s)))) 1216 (nI (i + 1))) (by omega) (by omega) (by omega) (by omega) (by rw [pk_us]) (by rw [pk_un (by decide), pk_un (by decide)]; exact hq5) (fun w' => by rw [pk_un (by decide), pk_us])
        refine ⟨q', ?_, e2⟩
        rw [← e1, M_advance_L210, mh_gi (by decide) (by decide), hq, look_s X (by omega), bind_s, if_pos z.1, mdig_s hb, bind_s, if_pos z.2, mh_gi (by decide) (by decide), hq5, pk_sub hs, if_neg (show ¬ (4 : Int32) ≤ nI (i - s) from nI_ge (b := 4) (by omega) (by omega)), bind_s, mh_gi (by decide) (by decide), hq7 (by omega), e', letH_e, letH_e, mh_si (by decide) (by decide), mh_gi (by decide) (by decide), pk_un (by decide), hq, nI_1, mh_si (by decide) (by decide)]
    · rw [if_neg z]
      exact ⟨_, stop i F q h2 hs z hq hq5, by rw [pk_un (by decide)]; exact hq, by rw [pk_un (by decide)]; exact hq5, pk_us, fun w => by rw [pk_un (by decide)]; exact hq7 w⟩
/-- the reference's number of a kind -/
def mk4 (k : Nat) : Nat := if k = 5 then 4 else k
theorem M_advance_s (X : TM Y h m n T) {p : Nat} (hp : p ≤ n) (e16 : hGi h 1216 m = nI p) : ∃ q l, M_advance Y m h = some (mkH h m q l) ∧ q 1214 = nI (mk4 (tK T n p)) ∧ q 1215 = nI (tS T n p) ∧ q 1216 = nI (tE T n p) ∧ (tK T n p = 2 → q 1217 = nI (tN T n p)) ∧ (tK T n p = 3 → q 1217 = nI (BB T (tS T n p))) ∧
    (tK T n p = 1 → q 1218 = nI (tE T n p - tS T n p) ∧ l = wdL T (tS T n p) (tE T n p)) := by
  have h900 := X.2.1
  have hsn := tS_le T hp
  have hE := tE_bd T hp
  have fu : n < FU := by unfold FU; omega
  have fu2 : n + 1 < FU := by unfold FU; omega
  have k8 := L8_s X (l := hGl h 1219 m) n p FU (upd (fun f => hGi h f m) 1215 (nI p)) (by omega) hp fu pk_us
  rw [upd_upd, show til (fun j => sofN (BB T j) == 4) n n p = tS T n p from rfl] at k8
  have h1 : hSi h 1215 m (nI p) = mkH h m (upd (fun f => hGi h f m) 1215 (nI p)) (hGl h 1219 m) := by
    rw [← mh_si (by decide) (by decide), mh_self]
  unfold M_advance
  rw [letH_e, e16, h1, k8]
  generalize hq0 : (fun f => hGi h f m) = q0
  unfold M_advance_J58
  rw [letH_e, mh_gi (by decide) (by decide), pk_us, mh_si (by decide) (by decide), mh_gi (by decide) (by decide), pk_un (by decide), pk_us, mh_go (by omega), X.2.2.1]
  by_cases hs : tS T n p < n
  · have hr : tR T n p = sofN (BB T (tS T n p)) := by unfold tR; rw [if_pos hs]
    have hb := MB_lt X hs
    rw [if_pos (nI_lt hs (by omega)), look_s X (by omega), bind_s, if_pos hs, mlet_s hb, bind_s]
    by_cases e1 : sofN (BB T (tS T n p)) = 1
    · have hE' : tE T n p = til (fun j => sofN (BB T j) == 1) n (n + 1) (tS T n p) := by
        rw [til, if_pos ⟨hs, by rw [e1]; rfl⟩]
        unfold tE; rw [if_pos hs, if_pos (by rw [hr, e1]; exact Or.inl rfl), hr, e1]
      have hK : tK T n p = 1 := by unfold tK; rw [hr, e1, if_neg (by omega)]
      rw [if_pos (by rw [e1]; rfl), letH_e, letH_e, mh_si (by decide) (by decide), mh_sl]
      obtain ⟨q', w1, w2, w3, w4⟩ := L109_s X (s := tS T n p) (n + 1) (tS T n p) FU (upd (upd (upd q0 1215 (nI (tS T n p))) 1216 (nI (tS T n p))) 1214 1) (by omega) hsn (Nat.le_refl _) (by unfold FU; omega) (by rw [pk_un (by decide), pk_us]) (by rw [pk_un (by decide), pk_un (by decide), pk_us])
      rw [← hE'] at w1 w2 w3
      rw [show wdL T (tS T n p) (tS T n p) = 0 by unfold wdL; rw [Nat.sub_self]; rfl] at w1
      refine ⟨q', _, w1, ?_, ?_, w2, fun w => by omega, fun w => by omega, fun _ => ⟨w3, rfl⟩⟩
      · rw [w4 1214 (by decide) (by decide), pk_us, hK]; rfl
      · rw [w4 1215 (by decide) (by decide), pk_un (by decide), pk_un (by decide), pk_us]
    · rw [if_neg (by simpa using e1), mdig_s hb, bind_s]
      by_cases e2 : sofN (BB T (tS T n p)) = 2
      · have hE' : tE T n p = til (fun j => sofN (BB T j) == 2) n (n + 1) (tS T n p) := by
          rw [til, if_pos ⟨hs, by rw [e2]; rfl⟩]
          unfold tE; rw [if_pos hs, if_pos (by rw [hr, e2]; exact Or.inr rfl), hr, e2]
        rw [if_pos (by rw [e2]; rfl), letH_e, mh_si (by decide) (by decide)]
        obtain ⟨q', w1, w2, w3, w4, w5⟩ := L210_s X (s := tS T n p) (l := hGl h 1219 m) (n + 1) (tS T n p) FU (upd (upd (upd q0 1215 (nI (tS T n p))) 1216 (nI (tS T n p))) 1217 0) (by omega) hsn (Nat.le_refl _) (by unfold FU; omega) (by rw [pk_un (by decide), pk_us]) (by rw [pk_un (by decide), pk_un (by decide), pk_us]) (fun _ => by rw [pk_us, Nat.sub_self]; rfl)
        rw [← hE'] at w2 w4 w5
        refine ⟨q', _, w1, ?_, w3, w2, fun w => ?_, fun w => ?_, fun w => ?_⟩
        · rw [w4]
          unfold mk4 tK
          rw [hr, e2]
          by_cases z : 4 < tE T n p - tS T n p
          · rw [if_pos z, if_pos (show 2 = 2 ∧ 4 < tE T n p - tS T n p from ⟨rfl, z⟩), if_pos rfl]
          · rw [if_neg z, if_neg (show ¬ (2 = 2 ∧ 4 < tE T n p - tS T n p) from fun w => z w.2), if_neg (by decide)]
        · have z : ¬ 4 < tE T n p - tS T n p := by
            intro z
            unfold tK at w
            rw [hr, e2, if_pos ⟨rfl, z⟩] at w
            omega
          exact w5 (by omega)
        · unfold tK at w; rw [hr, e2] at w; split at w <;> omega
        · unfold tK at w; rw [hr, e2] at w; split at w <;> omega
      · have hE' : tE T n p = tS T n p + 1 := by unfold tE; rw [if_pos hs, if_neg (by rw [hr]; omega)]
        have hK : tK T n p = sofN (BB T (tS T n p)) := by unfold tK; rw [hr, if_neg (by omega)]
        have sl := sof_le (BB T (tS T n p))
        have n4 : sofN (BB T (tS T n p)) ≠ 4 := by
          have := til_stop (fun j => sofN (BB T j) == 4) n n p (by omega) (show til (fun j => sofN (BB T j) == 4) n n p < n from hs)
          intro w
          have w' : (sofN (BB T (tS T n p)) == 4) = true := by rw [w]; rfl
          rw [show (sofN (BB T (tS T n p)) == 4) = false from this] at w'
          cases w'
        rw [if_neg (by simpa using e2), letH_e, letH_e, nI_1, mh_si (by decide) (by decide), mh_si (by decide) (by decide), msgn_s hb, bind_s]
        by_cases e3 : sofN (BB T (tS T n p)) = 3
        · rw [if_pos (by rw [e3]; rfl), letH_e, mh_si (by decide) (by decide)]
          refine ⟨_, _, rfl, by rw [pk_us, hK, e3]; rfl, by rw [pk_un (by decide), pk_un (by decide), pk_un (by decide), pk_un (by decide), pk_us], by rw [pk_un (by decide), pk_un (by decide), pk_us, hE'], fun w => by omega, fun _ => by rw [pk_un (by decide), pk_us], fun w => by omega⟩
        · rw [if_neg (by simpa using e3), letH_e, mh_si (by decide) (by decide)]
          refine ⟨_, _, rfl, ?_, by rw [pk_un (by decide), pk_un (by decide), pk_un (by decide), pk_un (by decide), pk_us], by rw [pk_un (by decide), pk_un (by decide), pk_us, hE'], fun w => by omega, fun w => by omega, fun w => by omega⟩
          rw [pk_us, hK, show sofN (BB T (tS T n p)) = 5 by omega]; rfl
  · have hs' : tS T n p = n := by omega
    have hR : tR T n p = 0 := by unfold tR; rw [if_neg hs]
    have hE' : tE T n p = tS T n p := by unfold tE; rw [if_neg hs]
    have hK : tK T n p = 0 := by unfold tK; rw [hR, if_neg (by omega)]
    rw [if_neg (show ¬ nI (tS T n p) < nI n from fun w => by rw [Int32.lt_iff_toInt_lt, nI_toInt (by omega), nI_toInt (by omega)] at w; omega), letH_e, mh_si (by decide) (by decide)]
    exact ⟨_, _, rfl, by rw [pk_us, hK]; rfl, by rw [pk_un (by decide), pk_un (by decide), pk_us], by rw [pk_un (by decide), pk_us, hE'], fun w => by omega, fun w => by omega, fun w => by omega⟩
end ADM
