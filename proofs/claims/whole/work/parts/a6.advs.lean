/-! ===== the class: advance ===== -/
section ADS
variable {Y : Ly} {h : Hp} {t n : Nat} {T : Nat → Int32}
theorem L115_1 (X : TX Y h t n T) {b : Bool} {F s : Nat} {q : Nat → Int32} {l : Int64} (hs : s < n) (q6 : q 706 = nI s) : To_advance_L115 Y t b (F + 1) (nI s) (tkH h t q l) = To_advance_L115 Y t b F (nI (s + 1)) (tkH h t (upd q 704 (nI (s + 1))) l) := by
  have h900 := X.2.2.1
  rw [To_advance_L115, tk_go (by omega), X.2.2.2.1, if_neg (nI_ge hs (by omega)), tk_gi (by decide) (by decide), q6, if_pos rfl, letH_e, nI_1, tk_si (by decide) (by decide)]
theorem L115_f (X : TX Y h t n T) {F s : Nat} {q : Nat → Int32} {l : Int64} (hs : s < n) (q6 : q 706 = nI s) : To_advance_L115 Y t false (F + 1) (nI (s + 1)) (tkH h t q l) = To_advance_J164 Y t (tkH h t q l) := by
  have h900 := X.2.2.1
  rw [To_advance_L115, tk_go (by omega), X.2.2.2.1, tk_gi (by decide) (by decide), q6]
  by_cases z : nI n ≤ nI (s + 1)
  · rw [if_pos z]
  · rw [if_neg z, if_neg (show ¬ nI (s + 1) = nI s from fun w => by have := (nI_eq (by omega) (by omega)).mp w; omega), if_neg (by decide)]
theorem takeWord_s (X : TX Y h t n T) {s e : Nat} {q : Nat → Int32} (hse : s ≤ e) (he : e ≤ n) (hl : ∀ i, s ≤ i → i < e → sofN (BB T i) = 1) (q4 : q 704 = nI e) (q6 : q 706 = nI s) (q8 : q 708 = m1) :
    ∃ q', To_takeWord Y t (tkH h t q 0) = some (tkH h t q' (lN (if e - s ≤ 8 then wF T s (e - s) else 0))) ∧ (∀ f, f ≠ 708 → q' f = q f) ∧ q' 708 = on (if e - s ≤ 8 then kI (wF T s (e - s)) else none) := by
  have h900 := X.2.2.1
  have hl' : ∀ i, s ≤ i → i < e → 97 ≤ BB T i ∧ BB T i ≤ 122 := fun i h1 h2 => sof_1 (hl i h1 h2)
  unfold To_takeWord
  rw [tk_gi (by decide) (by decide), tk_gi (by decide) (by decide), q4, q6, pk_sub hse]
  by_cases z : e - s ≤ 8
  · have fu : e - s < FU := by unfold FU; omega
    have fu2 : 31 < FU := by unfold FU; omega
    have wl : wF T s (e - s) < 2 ^ 62 := by
      have := wF_lt (T := T) s (e - s) (fun j hj => by have := hl' (s + j) (by omega) (by omega); omega)
      have h3 : 128 ^ (e - s) ≤ 128 ^ 8 := Nat.pow_le_pow_right (by decide) (by omega)
      have h4 : (128 : Nat) ^ 8 = 2 ^ 56 := by decide
      omega
    have k1 := L20_s X (s := s) (e := e) (by omega) he hl' (e - s) s FU q (by omega) (Nat.le_refl _) fu q4
    rw [Nat.sub_self] at k1
    have k2 := L59_s X wl 31 0 FU q (by omega) fu2 (by rw [q8]; rfl)
    rw [if_pos (show nI (e - s) ≤ 8 from nI_le (b := 8) z (by decide)), show tkH h t q 0 = tkH h t q (lN (wF T s 0)) from rfl, k1, if_pos z, if_pos z]
    refine ⟨_, k2, fun f hf => pk_un hf, pk_us⟩
  · rw [if_neg (show ¬ nI (e - s) ≤ 8 from nI_ge (a := 8) (by omega) (by omega)), if_neg z, if_neg z]
    exact ⟨q, rfl, fun _ _ => rfl, q8⟩
theorem takeNum_s (X : TX Y h t n T) {s e : Nat} {q : Nat → Int32} {l : Int64} (hse : s ≤ e) (he : e ≤ n) (hl : ∀ i, s ≤ i → i < e → sofN (BB T i) = 2) (q4 : q 704 = nI e) (q6 : q 706 = nI s) (q5 : q 705 = nI 2) :
    ∃ q', To_takeNumber Y t (tkH h t q l) = some (tkH h t q' l) ∧ (∀ f, f ≠ 707 → f ≠ 705 → q' f = q f) ∧ q' 705 = nI (if 4 < e - s then 5 else 2) ∧ (e - s ≤ 4 → q' 707 = nI (nF T s (e - s))) := by
  have h900 := X.2.2.1
  have hl' : ∀ i, s ≤ i → i < e → 48 ≤ BB T i ∧ BB T i ≤ 57 := fun i h1 h2 => sof_2 (hl i h1 h2)
  unfold To_takeNumber
  rw [letH_e, tk_si (by decide) (by decide), tk_gi (by decide) (by decide), tk_gi (by decide) (by decide), pk_un (by decide), pk_un (by decide), q4, q6, pk_sub hse]
  by_cases z : e - s ≤ 4
  · have fu : e - s < FU := by unfold FU; omega
    have k1 := L29_s X (s := s) (e := e) (l := l) (by omega) he hl' (e - s) s FU (upd q 707 0) (by omega) (Nat.le_refl _) fu (by rw [pk_un (by decide)]; exact q4) (by rw [Nat.sub_self, pk_us]; rfl)
    rw [if_pos (show nI (e - s) ≤ 4 from nI_le (b := 4) z (by decide)), k1, if_neg (by omega)]
    refine ⟨_, rfl, fun f h1 h2 => by rw [pk_un h1, pk_un h1], by rw [pk_un (by decide), pk_un (by decide)]; exact q5, fun _ => pk_us⟩
  · rw [if_neg (show ¬ nI (e - s) ≤ 4 from nI_ge (a := 4) (by omega) (by omega)), letH_e, tk_si (by decide) (by decide), if_pos (by omega)]
    exact ⟨_, rfl, fun f h1 h2 => by rw [pk_un h2, pk_un h1], pk_us, fun w => absurd w z⟩
theorem tS_le (T : Nat → Int32) {n p : Nat} (hp : p ≤ n) : tS T n p ≤ n := til_le _ n n p hp
theorem tS_ge (T : Nat → Int32) (n p : Nat) : p ≤ tS T n p := til_ge _ n n p
theorem tE_bd (T : Nat → Int32) {n p : Nat} (hp : p ≤ n) : tS T n p ≤ tE T n p ∧ tE T n p ≤ n ∧ (tS T n p < n → tS T n p < tE T n p) := by
  have h1 := tS_le T hp
  unfold tE
  split
  · next q =>
    split
    · have h2 := til_ge (fun q => sofN (BB T q) == tR T n p) n n (tS T n p + 1)
      have h3 := til_le (fun q => sofN (BB T q) == tR T n p) n n (tS T n p + 1) (by omega)
      omega
    · omega
  · omega
theorem tE_all {T : Nat → Int32} {n p κ : Nat} (hs : tS T n p < n) (hκ : tR T n p = κ) (h12 : κ = 1 ∨ κ = 2) : ∀ i, tS T n p ≤ i → i < tE T n p → sofN (BB T i) = κ := by
  intro i h1 h2
  by_cases e : i = tS T n p
  · have := hκ
    unfold tR at this
    rw [if_pos hs] at this
    rw [e]; exact this
  · have hE : tE T n p = til (fun q => sofN (BB T q) == tR T n p) n n (tS T n p + 1) := by
      unfold tE
      rw [if_pos hs, if_pos (by rw [hκ]; exact h12)]
    rw [hE] at h2
    have := til_all (fun q => sofN (BB T q) == tR T n p) n n (tS T n p + 1) i (by omega) h2
    rw [hκ] at this
    simpa using this
theorem To_advance_s (X : TX Y h t n T) {p : Nat} (hp : p ≤ n) (e704 : hGi h 704 t = nI p) : ∃ q, To_advance Y t h = some (tkH h t q (lN (tW T n p))) ∧ q 704 = nI (tE T n p) ∧ q 705 = nI (tK T n p) ∧ q 706 = nI (tS T n p) ∧ q 708 = on (tI T n p) ∧ (tK T n p = 2 → q 707 = nI (tN T n p)) := by
  have h900 := X.2.2.1
  have hsn := tS_le T hp
  have hE := tE_bd T hp
  have fu : n < FU := by unfold FU; omega
  have k5 := L5_s X (l := hGl h 709 t) n p FU (fun f => hGi h f t) (by omega) hp fu e704
  rw [tk_self, show til (fun j => sofN (BB T j) == 4) n n p = tS T n p from rfl] at k5
  unfold To_advance
  rw [e704, k5]
  unfold To_advance_J39
  rw [letH_e, letH_e, letH_e, tk_gi (by decide) (by decide), pk_us, tk_si (by decide) (by decide), tk_si (by decide) (by decide), tk_sl, tk_go (by omega), X.2.2.2.1, tk_gi (by decide) (by decide), pk_un (by decide), pk_us, show lnY Y (hGr (tkH h t (upd (upd (upd (fun f => hGi h f t) 704 (nI (tS T n p))) 706 (nI (tS T n p))) 708 (-1)) 0) 700 t) = 900 from X.1]
  generalize hq3 : upd (upd (upd (fun f => hGi h f t) 704 (nI (tS T n p))) 706 (nI (tS T n p))) 708 (-1) = q3
  have a4 : q3 704 = nI (tS T n p) := by rw [← hq3, pk_un (by decide), pk_un (by decide), pk_us]
  have a6 : q3 706 = nI (tS T n p) := by rw [← hq3, pk_un (by decide), pk_us]
  have a8 : q3 708 = m1 := by rw [← hq3, pk_us]; rfl
  have j85 : ∀ κ, κ ≤ 5 → To_advance_J85 Y t (nI κ) t (tkH h t q3 0) = To_advance_L115 Y t (decide (κ = 1 ∨ κ = 2)) FU (nI (tS T n p)) (tkH h t (upd q3 705 (nI κ)) 0) := by
    intro κ hκ
    unfold To_advance_J85 To_advance_J104 To_advance_J109
    rw [letH_e, tk_si (by decide) (by decide), tk_gi (by decide) (by decide), pk_us, tk_gi (by decide) (by decide), pk_un (by decide), a6]
    by_cases e1 : κ = 1
    · subst e1; rw [if_pos (show nI 1 = 1 from rfl)]; rfl
    · rw [if_neg (show ¬ nI κ = 1 from fun w => e1 ((nI_eq (b := 1) (by omega) (by decide)).mp w))]
      by_cases e2 : κ = 2
      · subst e2; rw [if_pos (show nI 2 = 2 from rfl)]; rfl
      · rw [if_neg (show ¬ nI κ = 2 from fun w => e2 ((nI_eq (b := 2) (by omega) (by decide)).mp w)), show decide (κ = 1 ∨ κ = 2) = false by simp [e1, e2]]
  obtain ⟨F, hF, fu2⟩ : ∃ F, FU = F + 1 + 1 ∧ n < F + 1 := ⟨4000000 - 2, by unfold FU; omega, by omega⟩
  by_cases hs : tS T n p < n
  · have hr : tR T n p = sofN (BB T (tS T n p)) := by unfold tR; rw [if_pos hs]
    have sl := sof_le (BB T (tS T n p))
    rw [if_neg (nI_ge hs (by omega)), if_pos (inB_nI (by omega) (by omega)), nI_clamp (by omega), sort_s X hs, bind_s, j85 _ sl.1, hF, L115_1 X hs (by rw [pk_un (by decide)]; exact a6)]
    by_cases e1 : sofN (BB T (tS T n p)) = 1
    · have hE' : tE T n p = til (fun j => sofN (BB T j) == 1) n n (tS T n p + 1) := by
        unfold tE; rw [if_pos hs, if_pos (by rw [hr, e1]; exact Or.inl rfl), hr, e1]
      rw [e1, show decide ((1 : Nat) = 1 ∨ (1 : Nat) = 2) = true by decide, L115_s X (κ := 1) (s := tS T n p) (by decide) n (tS T n p + 1) (F + 1) _ (by omega) (by omega) (by omega) fu2 (by rw [pk_us]) (by rw [pk_un (by decide), pk_un (by decide)]; exact a6) (by rw [pk_un (by decide), pk_us]), ← hE']
      unfold To_advance_J164
      rw [tk_gi (by decide) (by decide), pk_un (by decide), pk_un (by decide), pk_us, if_pos (show nI 1 = 1 from rfl)]
      obtain ⟨q', w1, w2, w3⟩ := takeWord_s X (s := tS T n p) (e := tE T n p) (q := upd (upd (upd q3 705 (nI 1)) 704 (nI (tS T n p + 1))) 704 (nI (tE T n p))) hE.1 hE.2.1 (fun i h1 h2 => tE_all hs (by rw [hr, e1]) (Or.inl rfl) i h1 h2) (pk_us) (by rw [pk_un (by decide), pk_un (by decide), pk_un (by decide)]; exact a6) (by rw [pk_un (by decide), pk_un (by decide), pk_un (by decide)]; exact a8)
      have hK : tK T n p = 1 := by unfold tK; rw [hr, e1, if_neg (by omega)]
      rw [w1, bind_s]
      refine ⟨q', ?_, by rw [w2 704 (by decide), pk_us], ?_, ?_, ?_, fun w => by omega⟩
      · congr 2
        unfold tW
        rw [hr, e1]
        by_cases z : tE T n p - tS T n p ≤ 8
        · rw [if_pos z, if_pos ⟨rfl, z⟩]
        · rw [if_neg z, if_neg (fun w => z w.2)]
      · rw [w2 705 (by decide), pk_un (by decide), pk_un (by decide), pk_us, hK]
      · rw [w2 706 (by decide), pk_un (by decide), pk_un (by decide), pk_un (by decide)]; exact a6
      · rw [w3]
        unfold tI
        rw [hr, e1]
        by_cases z : tE T n p - tS T n p ≤ 8
        · rw [if_pos z, if_pos ⟨rfl, z⟩]
          unfold tW
          rw [hr, e1, if_pos ⟨rfl, z⟩]
        · rw [if_neg z, if_neg (fun w => z w.2)]
    · by_cases e2 : sofN (BB T (tS T n p)) = 2
      · have hE' : tE T n p = til (fun j => sofN (BB T j) == 2) n n (tS T n p + 1) := by
          unfold tE; rw [if_pos hs, if_pos (by rw [hr, e2]; exact Or.inr rfl), hr, e2]
        rw [e2, show decide ((2 : Nat) = 1 ∨ (2 : Nat) = 2) = true by decide, L115_s X (κ := 2) (s := tS T n p) (by decide) n (tS T n p + 1) (F + 1) _ (by omega) (by omega) (by omega) fu2 (by rw [pk_us]) (by rw [pk_un (by decide), pk_un (by decide)]; exact a6) (by rw [pk_un (by decide), pk_us]), ← hE']
        unfold To_advance_J164
        rw [tk_gi (by decide) (by decide), pk_un (by decide), pk_un (by decide), pk_us, if_neg (show ¬ nI 2 = 1 by decide), if_pos (show nI 2 = 2 from rfl)]
        obtain ⟨q', w1, w2, w3, w4⟩ := takeNum_s X (s := tS T n p) (e := tE T n p) (l := 0) (q := upd (upd (upd q3 705 (nI 2)) 704 (nI (tS T n p + 1))) 704 (nI (tE T n p))) hE.1 hE.2.1 (fun i h1 h2 => tE_all hs (by rw [hr, e2]) (Or.inr rfl) i h1 h2) (pk_us) (by rw [pk_un (by decide), pk_un (by decide), pk_un (by decide)]; exact a6) (by rw [pk_un (by decide), pk_un (by decide), pk_us])
        have hW : tW T n p = 0 := by unfold tW; rw [hr, e2, if_neg (by omega)]
        have hI : tI T n p = none := by unfold tI; rw [hr, e2, if_neg (by omega)]
        rw [w1, bind_s, hW, hI]
        refine ⟨q', rfl, by rw [w2 704 (by decide) (by decide), pk_us], ?_, ?_, ?_, fun w => ?_⟩
        · rw [w3]
          unfold tK
          rw [hr, e2]
          by_cases z : 4 < tE T n p - tS T n p
          · rw [if_pos z, if_pos ⟨rfl, z⟩]
          · rw [if_neg z, if_neg (fun w => z w.2)]
        · rw [w2 706 (by decide) (by decide), pk_un (by decide), pk_un (by decide), pk_un (by decide)]; exact a6
        · rw [w2 708 (by decide) (by decide), pk_un (by decide), pk_un (by decide), pk_un (by decide)]; exact a8
        · have z : ¬ 4 < tE T n p - tS T n p := by
            intro z
            unfold tK at w
            rw [hr, e2, if_pos ⟨rfl, z⟩] at w
            omega
          exact w4 (by omega)
      · have hE' : tE T n p = tS T n p + 1 := by unfold tE; rw [if_pos hs, if_neg (by rw [hr]; omega)]
        have hK : tK T n p = sofN (BB T (tS T n p)) := by unfold tK; rw [hr, if_neg (by omega)]
        have hW : tW T n p = 0 := by unfold tW; rw [hr, if_neg (by omega)]
        have hI : tI T n p = none := by unfold tI; rw [hr, if_neg (by omega)]
        rw [show decide (sofN (BB T (tS T n p)) = 1 ∨ sofN (BB T (tS T n p)) = 2) = false by simp [e1, e2], L115_f X hs (by rw [pk_un (by decide), pk_un (by decide)]; exact a6)]
        unfold To_advance_J164
        rw [tk_gi (by decide) (by decide), pk_un (by decide), pk_us, if_neg (show ¬ nI (sofN (BB T (tS T n p))) = 1 from fun w => e1 ((nI_eq (b := 1) (by omega) (by decide)).mp w)), if_neg (show ¬ nI (sofN (BB T (tS T n p))) = 2 from fun w => e2 ((nI_eq (b := 2) (by omega) (by decide)).mp w)), hW, hI]
        refine ⟨_, rfl, by rw [pk_us, hE'], by rw [pk_un (by decide), pk_us, hK], by rw [pk_un (by decide), pk_un (by decide)]; exact a6, by rw [pk_un (by decide), pk_un (by decide)]; exact a8, fun w => by rw [hK] at w; omega⟩
  · have hs' : tS T n p = n := by omega
    have hR : tR T n p = 0 := by unfold tR; rw [if_neg hs]
    have hE' : tE T n p = tS T n p := by unfold tE; rw [if_neg hs]
    have hK : tK T n p = 0 := by unfold tK; rw [hR, if_neg (by omega)]
    have hW : tW T n p = 0 := by unfold tW; rw [hR, if_neg (by omega)]
    have hI : tI T n p = none := by unfold tI; rw [hR, if_neg (by omega)]
    rw [if_pos (nI_le (by omega) (by omega)), show (0 : Int32) = nI 0 from rfl, j85 0 (by decide), hF, To_advance_L115, tk_go (by omega), X.2.2.2.1, if_pos (nI_le (by omega) (by omega))]
    unfold To_advance_J164
    rw [tk_gi (by decide) (by decide), pk_us, if_neg (by decide), if_neg (by decide), hW, hI]
    refine ⟨_, rfl, by rw [pk_un (by decide), hE']; exact a4, by rw [pk_us, hK], by rw [pk_un (by decide)]; exact a6, by rw [pk_un (by decide)]; exact a8, fun w => by omega⟩
end ADS
