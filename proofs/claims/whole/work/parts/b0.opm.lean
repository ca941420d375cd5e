/-! ===== the reference: what it does with a token ===== -/
def Tm (m : Nat) (h h' : Hp) : Prop := (∀ f a, ¬ (a = m ∧ 1212 ≤ f ∧ f ≤ 1218) → hGi h' f a = hGi h f a) ∧ (∀ f a, ¬ (a = m ∧ f = 1219) → hGl h' f a = hGl h f a) ∧ h'.2.2 = h.2.2
theorem Tm_rf (m : Nat) (h : Hp) : Tm m h h := ⟨fun _ _ _ => rfl, fun _ _ _ => rfl, rfl⟩
theorem Tm_tr {m : Nat} {h h1 h2 : Hp} (A : Tm m h h1) (B : Tm m h1 h2) : Tm m h h2 := ⟨fun f a n => (B.1 f a n).trans (A.1 f a n), fun f a n => (B.2.1 f a n).trans (A.2.1 f a n), B.2.2.trans A.2.2⟩
theorem Tm_mk {m : Nat} {h : Hp} {q : Nat → Int32} {l : Int64} : Tm m h (mkH h m q l) := ⟨fun f a n => mh_go (by omega), fun f a n => mh_glo (fun z => n ⟨z.2, z.1⟩), rfl⟩
theorem Tm_si {m : Nat} {h : Hp} {f : Nat} {v : Int32} (h1 : 1212 ≤ f) (h2 : f ≤ 1218) : Tm m h (hSi h f m v) := ⟨fun f' a n => by rw [gi_si, if_neg (by omega)], fun _ _ _ => rfl, rfl⟩
theorem Tm.gr {m : Nat} {h h' : Hp} (A : Tm m h h') (f a : Nat) : hGr h' f a = hGr h f a := by unfold hGr; rw [A.2.2]
theorem Tm.ar {m : Nat} {h h' : Hp} (A : Tm m h h') (f a : Nat) : hAr h' f a = hAr h f a := by unfold hAr; rw [A.2.2]
theorem Tm.ai {m : Nat} {h h' : Hp} (A : Tm m h h') : hAi h' = hAi h := by funext f a; unfold hAi; rw [A.2.2]
theorem Tm.al {m : Nat} {h h' : Hp} (A : Tm m h h') : hAl h' = hAl h := by funext f a; unfold hAl; rw [A.2.2]
/-- the reference's token stands at p -/
def TP (Y : Ly) (h : Hp) (m n : Nat) (T : Nat → Int32) (p : Nat) : Prop := TM Y h m n T ∧ p ≤ n ∧ hGi h 1214 m = nI (mk4 (tK T n p)) ∧ hGi h 1215 m = nI (tS T n p) ∧ hGi h 1216 m = nI (tE T n p) ∧ (tK T n p = 2 → hGi h 1217 m = nI (tN T n p)) ∧ (tK T n p = 3 → hGi h 1217 m = nI (BB T (tS T n p))) ∧
  (tK T n p = 1 → hGi h 1218 m = nI (tE T n p - tS T n p) ∧ hGl h 1219 m = wdL T (tS T n p) (tE T n p))
/-- a fault is told -/
def BF (h : Hp) (m k a : Nat) : Prop := hGi h 1212 m = nI k ∧ hGi h 1213 m = nI a ∧ 0 < k ∧ k < 8
theorem tK_n4 (T : Nat → Int32) (n p : Nat) (hp : p ≤ n) : tK T n p ≠ 4 := by
  intro w
  have h1 := tS_lt (T := T) hp (by omega)
  have hR : tR T n p = 4 := by
    unfold tK at w
    split at w <;> omega
  have e : sofN (BB T (tS T n p)) = 4 := by
    unfold tR at hR
    rw [if_pos h1] at hR
    exact hR
  have := til_stop (fun j => sofN (BB T j) == 4) n n p (by omega) (show til (fun j => sofN (BB T j) == 4) n n p < n from h1)
  rw [show (sofN (BB T (til (fun j => sofN (BB T j) == 4) n n p)) == 4) = true from by rw [show til (fun j => sofN (BB T j) == 4) n n p = tS T n p from rfl, e]; rfl] at this
  cases this
section OPM
variable {Y : Ly} {h h' : Hp} {m n : Nat} {T : Nat → Int32} {p : Nat}
theorem TM_k (A : Tm m h h') (X : TM Y h m n T) : TM Y h' m n T := by
  obtain ⟨x1, x2, x3, x4⟩ := X
  exact ⟨by rw [A.gr]; exact x1, x2, by rw [A.1 1209 m (by omega)]; exact x3, fun i hi => ⟨by rw [A.gr, A.ai]; exact (x4 i hi).1, (x4 i hi).2⟩⟩
theorem TP_adv (C : TP Y h m n T p) : ∃ h', M_advance Y m h = some h' ∧ Tm m h h' ∧ TP Y h' m n T (tE T n p) ∧ hGi h' 1212 m = hGi h 1212 m ∧ hGi h' 1213 m = hGi h 1213 m := by
  obtain ⟨q, l, e1, a4, a5, a6, a7, a8, a9⟩ := M_advance_s C.1 (tE_bd T C.2.1).2.1 C.2.2.2.2.1
  refine ⟨_, e1, Tm_mk, ⟨TM_k Tm_mk C.1, (tE_bd T C.2.1).2.1, ?_, ?_, ?_, fun w => ?_, fun w => ?_, fun w => ⟨?_, ?_⟩⟩, mh_go (by omega), mh_go (by omega)⟩
  · rw [mh_gi (by decide) (by decide)]; exact a4
  · rw [mh_gi (by decide) (by decide)]; exact a5
  · rw [mh_gi (by decide) (by decide)]; exact a6
  · rw [mh_gi (by decide) (by decide)]; exact a7 w
  · rw [mh_gi (by decide) (by decide)]; exact a8 w
  · rw [mh_gi (by decide) (by decide)]; exact (a9 w).1
  · rw [mh_gl]; exact (a9 w).2
theorem m_fail (h0 : hGi h 1212 m = 0) {k a : Nat} (hk : 0 < k) (hk8 : k < 8) : ∃ h', M_fail Y m (nI k) (nI a) h = some h' ∧ Tm m h h' ∧ BF h' m k a := by
  unfold M_fail
  rw [h0, if_pos (by decide), letH_e, letH_e]
  exact ⟨_, rfl, Tm_tr (Tm_si (by decide) (by decide)) (Tm_si (by decide) (by decide)), by rw [gi_si, if_neg (by omega), gi_si, if_pos ⟨rfl, rfl⟩], by rw [gi_si, if_pos ⟨rfl, rfl⟩], hk, hk8⟩
theorem BF_nz {k a : Nat} (B : BF h m k a) : ¬ hGi h 1212 m = 0 ∧ ¬ hGi h 1212 m ≤ 0 := by
  obtain ⟨b1, _, b3, b4⟩ := B
  rw [b1]
  exact ⟨fun w => by have := (nI_eq (b := 0) (by omega) (by decide)).mp w; omega, fun w => nI_ge (a := 0) (b := k) b3 (by omega) w⟩
theorem m_amiss (C : TP Y h m n T p) (h0 : hGi h 1212 m = 0) : ∃ h', M_amiss Y m h = some h' ∧ Tm m h h' ∧ BF h' m (flt T n p 2) (tS T n p) := by
  have kl := tK_le T n p
  unfold M_amiss flt
  rw [C.2.2.1, C.2.2.2.1]
  by_cases z : tK T n p = 5
  · obtain ⟨h', e1, e2, e3⟩ := m_fail (Y := Y) h0 (k := 1) (a := tS T n p) (by decide) (by decide)
    rw [if_pos (show nI (mk4 (tK T n p)) = 4 by rw [z]; rfl), show (1 : Int32) = nI 1 from rfl, e1, bind_s, if_pos z]
    exact ⟨h', rfl, e2, e3⟩
  · obtain ⟨h', e1, e2, e3⟩ := m_fail (Y := Y) h0 (k := 2) (a := tS T n p) (by decide) (by decide)
    have n4 : mk4 (tK T n p) ≠ 4 := by
      unfold mk4
      rw [if_neg z]
      intro w
      have := tK_n4 T n p C.2.1
      exact this w
    rw [if_neg (show ¬ nI (mk4 (tK T n p)) = 4 from fun w => n4 ((nI_eq (b := 4) (by unfold mk4; split <;> omega) (by decide)).mp w)), show (2 : Int32) = nI 2 from rfl, e1, bind_s, if_neg z]
    exact ⟨h', rfl, e2, e3⟩
theorem m_must_t (C : TP Y h m n T p) (h0 : hGi h 1212 m = 0) : ∃ h', M_must Y m true h = some h' ∧ Tm m h h' ∧ TP Y h' m n T (tE T n p) ∧ hGi h' 1212 m = 0 := by
  obtain ⟨h', e1, e2, e3, e4, _⟩ := TP_adv C
  unfold M_must
  rw [h0, if_pos (by decide), if_pos rfl, e1, bind_s]
  exact ⟨h', rfl, e2, e3, e4.trans h0⟩
theorem m_must_f (C : TP Y h m n T p) (h0 : hGi h 1212 m = 0) : ∃ h', M_must Y m false h = some h' ∧ Tm m h h' ∧ BF h' m (flt T n p 2) (tS T n p) := by
  obtain ⟨h', e1, e2, e3⟩ := m_amiss C h0
  unfold M_must
  rw [h0, if_pos (by decide), if_neg (by decide), e1, bind_s]
  exact ⟨h', rfl, e2, e3⟩
theorem m_must_b {k a : Nat} (B : BF h m k a) (b : Bool) : M_must Y m b h = some h := by
  unfold M_must
  rw [if_neg (BF_nz B).2]
theorem m_sign (C : TP Y h m n T p) : M_isSign Y m 59 h = some (isSc T n p) := by
  have kl := tK_le T n p
  unfold M_isSign isSc
  rw [C.2.2.1]
  by_cases z : tK T n p = 3
  · have e7 := C.2.2.2.2.2.2.1 z
    obtain ⟨h1, h2⟩ := tK3 C.2.1 z
    have hb := MB_lt C.1 h1
    rw [if_pos (show nI (mk4 (tK T n p)) = 3 by rw [z]; rfl), e7]
    by_cases w : BB T (tS T n p) = 59
    · rw [if_pos (show nI (BB T (tS T n p)) = 59 by rw [w]; rfl)]; simp [z, w]
    · rw [if_neg (show ¬ nI (BB T (tS T n p)) = 59 from fun q => w ((nI_eq (b := 59) (by omega) (by decide)).mp q))]; simp [z, w]
  · have n3 : mk4 (tK T n p) ≠ 3 := by
      unfold mk4
      split <;> omega
    rw [if_neg (show ¬ nI (mk4 (tK T n p)) = 3 from fun w => n3 ((nI_eq (b := 3) (by unfold mk4; split <;> omega) (by decide)).mp w))]; simp [z]
theorem m_isWord (C : TP Y h m n T p) {i : Nat} (hi : i < 31) : M_isWord Y m (lN (KW i)) h = some (decide (tI T n p = some i)) := by
  have kl := tK_le T n p
  have kwl : ∀ j : Fin 31, KW j.val < 2 ^ 62 := by decide
  have kw := kwl ⟨i, hi⟩
  simp only at kw
  unfold M_isWord
  rw [C.2.2.1]
  by_cases z : tK T n p = 1
  · have hR : tR T n p = 1 := by
      have := z
      unfold tK at this
      split at this <;> omega
    obtain ⟨_, e9⟩ := C.2.2.2.2.2.2.2 z
    rw [if_pos (show nI (mk4 (tK T n p)) = 1 by rw [z]; rfl), e9]
    unfold wdL tI
    by_cases v : tE T n p - tS T n p ≤ 8
    · have wl := tW_lt (T := T) C.2.1
      have ew : tW T n p = wF T (tS T n p) (tE T n p - tS T n p) := by unfold tW; rw [if_pos ⟨hR, v⟩]
      rw [if_pos v, if_pos (show tR T n p = 1 ∧ tE T n p - tS T n p ≤ 8 from ⟨hR, v⟩), ← ew]
      by_cases w : tW T n p = KW i
      · rw [if_pos (by rw [w]), show decide (kI (tW T n p) = some i) = true from decide_eq_true (kI_iff.mpr ⟨hi, w.symm⟩)]
      · rw [if_neg (fun q => w ((pk_lEQ (by omega) (by omega)).mp q)), show decide (kI (tW T n p) = some i) = false from decide_eq_false (fun q => w (kI_iff.mp q).2.symm)]
    · rw [if_neg v, if_neg (show ¬ (tR T n p = 1 ∧ tE T n p - tS T n p ≤ 8) from fun q => v q.2), if_neg]
      · rfl
      · intro q
        have := congrArg Int64.toInt q
        rw [mL_toInt, pk_lT (by omega)] at this
        omega
  · have n1 : mk4 (tK T n p) ≠ 1 := by
      unfold mk4
      split <;> omega
    have hI : tI T n p = none := by
      unfold tI
      rw [if_neg]
      intro q
      apply z
      unfold tK
      rw [if_neg (by omega)]
      exact q.1
    rw [if_neg (show ¬ nI (mk4 (tK T n p)) = 1 from fun w => n1 ((nI_eq (b := 1) (by unfold mk4; split <;> omega) (by decide)).mp w)), hI]
    rfl

theorem sp_State : M_spelled Y00 115 116 97 116 101 0 h00 = some (lN (KW 0)) := by decide +kernel
theorem isState_s (C : TP Y h m n T p) : M_isState Y m h = some (decide (tI T n p = some 0)) := by
  unfold M_isState
  rw [show M_spelled Y 115 116 97 116 101 0 h = some (lN (KW 0)) from sp_State, bind_s, m_isWord C (by decide), bind_s]
theorem sp_Final : M_spelled Y00 102 105 110 97 108 0 h00 = some (lN (KW 1)) := by decide +kernel
theorem isFinal_s (C : TP Y h m n T p) : M_isFinal Y m h = some (decide (tI T n p = some 1)) := by
  unfold M_isFinal
  rw [show M_spelled Y 102 105 110 97 108 0 h = some (lN (KW 1)) from sp_Final, bind_s, m_isWord C (by decide), bind_s]
theorem sp_Turn : M_spelled Y00 116 117 114 110 0 0 h00 = some (lN (KW 2)) := by decide +kernel
theorem isTurn_s (C : TP Y h m n T p) : M_isTurn Y m h = some (decide (tI T n p = some 2)) := by
  unfold M_isTurn
  rw [show M_spelled Y 116 117 114 110 0 0 h = some (lN (KW 2)) from sp_Turn, bind_s, m_isWord C (by decide), bind_s]
theorem sp_Odd : M_spelled Y00 111 100 100 0 0 0 h00 = some (lN (KW 3)) := by decide +kernel
theorem isOdd_s (C : TP Y h m n T p) : M_isOdd Y m h = some (decide (tI T n p = some 3)) := by
  unfold M_isOdd
  rw [show M_spelled Y 111 100 100 0 0 0 h = some (lN (KW 3)) from sp_Odd, bind_s, m_isWord C (by decide), bind_s]
theorem sp_Rule : M_spelled Y00 114 117 108 101 0 0 h00 = some (lN (KW 4)) := by decide +kernel
theorem isRule_s (C : TP Y h m n T p) : M_isRule Y m h = some (decide (tI T n p = some 4)) := by
  unfold M_isRule
  rw [show M_spelled Y 114 117 108 101 0 0 h = some (lN (KW 4)) from sp_Rule, bind_s, m_isWord C (by decide), bind_s]
theorem sp_To : M_spelled Y00 116 111 0 0 0 0 h00 = some (lN (KW 5)) := by decide +kernel
theorem isTo_s (C : TP Y h m n T p) : M_isTo Y m h = some (decide (tI T n p = some 5)) := by
  unfold M_isTo
  rw [show M_spelled Y 116 111 0 0 0 0 h = some (lN (KW 5)) from sp_To, bind_s, m_isWord C (by decide), bind_s]
theorem sp_Book : M_spelled Y00 98 111 111 107 0 0 h00 = some (lN (KW 6)) := by decide +kernel
theorem isBook_s (C : TP Y h m n T p) : M_isBook Y m h = some (decide (tI T n p = some 6)) := by
  unfold M_isBook
  rw [show M_spelled Y 98 111 111 107 0 0 h = some (lN (KW 6)) from sp_Book, bind_s, m_isWord C (by decide), bind_s]
theorem sp_From : M_spelled Y00 102 114 111 109 0 0 h00 = some (lN (KW 7)) := by decide +kernel
theorem isFrom_s (C : TP Y h m n T p) : M_isFrom Y m h = some (decide (tI T n p = some 7)) := by
  unfold M_isFrom
  rw [show M_spelled Y 102 114 111 109 0 0 h = some (lN (KW 7)) from sp_From, bind_s, m_isWord C (by decide), bind_s]
theorem sp_Misses : M_spelled Y00 109 105 115 115 101 115 h00 = some (lN (KW 8)) := by decide +kernel
theorem isMisses_s (C : TP Y h m n T p) : M_isMisses Y m h = some (decide (tI T n p = some 8)) := by
  unfold M_isMisses
  rw [show M_spelled Y 109 105 115 115 101 115 h = some (lN (KW 8)) from sp_Misses, bind_s, m_isWord C (by decide), bind_s]
theorem sp_Finale : M_spelled Y00 102 105 110 97 108 101 h00 = some (lN (KW 9)) := by decide +kernel
theorem isFinale_s (C : TP Y h m n T p) : M_isFinale Y m h = some (decide (tI T n p = some 9)) := by
  unfold M_isFinale
  rw [show M_spelled Y 102 105 110 97 108 101 h = some (lN (KW 9)) from sp_Finale, bind_s, m_isWord C (by decide), bind_s]
theorem sp_Hint : M_spelled Y00 104 105 110 116 0 0 h00 = some (lN (KW 10)) := by decide +kernel
theorem isHint_s (C : TP Y h m n T p) : M_isHint Y m h = some (decide (tI T n p = some 10)) := by
  unfold M_isHint
  rw [show M_spelled Y 104 105 110 116 0 0 h = some (lN (KW 10)) from sp_Hint, bind_s, m_isWord C (by decide), bind_s]
theorem sp_At : M_spelled Y00 97 116 0 0 0 0 h00 = some (lN (KW 11)) := by decide +kernel
theorem isAt_s (C : TP Y h m n T p) : M_isAt Y m h = some (decide (tI T n p = some 11)) := by
  unfold M_isAt
  rw [show M_spelled Y 97 116 0 0 0 0 h = some (lN (KW 11)) from sp_At, bind_s, m_isWord C (by decide), bind_s]
theorem sp_Is : M_spelled Y00 105 115 0 0 0 0 h00 = some (lN (KW 12)) := by decide +kernel
theorem isIs_s (C : TP Y h m n T p) : M_isIs Y m h = some (decide (tI T n p = some 12)) := by
  unfold M_isIs
  rw [show M_spelled Y 105 115 0 0 0 0 h = some (lN (KW 12)) from sp_Is, bind_s, m_isWord C (by decide), bind_s]
theorem sp_By : M_spelled Y00 98 121 0 0 0 0 h00 = some (lN (KW 13)) := by decide +kernel
theorem isBy_s (C : TP Y h m n T p) : M_isBy Y m h = some (decide (tI T n p = some 13)) := by
  unfold M_isBy
  rw [show M_spelled Y 98 121 0 0 0 0 h = some (lN (KW 13)) from sp_By, bind_s, m_isWord C (by decide), bind_s]
theorem sp_Reader : M_spelled Y00 114 101 97 100 101 114 h00 = some (lN (KW 14)) := by decide +kernel
theorem isReader_s (C : TP Y h m n T p) : M_isReader Y m h = some (decide (tI T n p = some 14)) := by
  unfold M_isReader
  rw [show M_spelled Y 114 101 97 100 101 114 h = some (lN (KW 14)) from sp_Reader, bind_s, m_isWord C (by decide), bind_s]
theorem sp_Offer : M_spelled Y00 111 102 102 101 114 0 h00 = some (lN (KW 15)) := by decide +kernel
theorem isOffer_s (C : TP Y h m n T p) : M_isOffer Y m h = some (decide (tI T n p = some 15)) := by
  unfold M_isOffer
  rw [show M_spelled Y 111 102 102 101 114 0 h = some (lN (KW 15)) from sp_Offer, bind_s, m_isWord C (by decide), bind_s]
theorem sp_Costs : M_spelled Y00 99 111 115 116 115 0 h00 = some (lN (KW 16)) := by decide +kernel
theorem isCosts_s (C : TP Y h m n T p) : M_isCosts Y m h = some (decide (tI T n p = some 16)) := by
  unfold M_isCosts
  rw [show M_spelled Y 99 111 115 116 115 0 h = some (lN (KW 16)) from sp_Costs, bind_s, m_isWord C (by decide), bind_s]
theorem sp_Tells : M_spelled Y00 116 101 108 108 115 0 h00 = some (lN (KW 17)) := by decide +kernel
theorem isTells_s (C : TP Y h m n T p) : M_isTells Y m h = some (decide (tI T n p = some 17)) := by
  unfold M_isTells
  rw [show M_spelled Y 116 101 108 108 115 0 h = some (lN (KW 17)) from sp_Tells, bind_s, m_isWord C (by decide), bind_s]
theorem sp_Watch : M_spelled Y00 119 97 116 99 104 0 h00 = some (lN (KW 18)) := by decide +kernel
theorem isWatch_s (C : TP Y h m n T p) : M_isWatch Y m h = some (decide (tI T n p = some 18)) := by
  unfold M_isWatch
  rw [show M_spelled Y 119 97 116 99 104 0 h = some (lN (KW 18)) from sp_Watch, bind_s, m_isWord C (by decide), bind_s]
theorem sp_Guards : M_spelled Y00 103 117 97 114 100 115 h00 = some (lN (KW 19)) := by decide +kernel
theorem isGuards_s (C : TP Y h m n T p) : M_isGuards Y m h = some (decide (tI T n p = some 19)) := by
  unfold M_isGuards
  rw [show M_spelled Y 103 117 97 114 100 115 h = some (lN (KW 19)) from sp_Guards, bind_s, m_isWord C (by decide), bind_s]
theorem sp_End : M_spelled Y00 101 110 100 0 0 0 h00 = some (lN (KW 29)) := by decide +kernel
theorem isEnd_s (C : TP Y h m n T p) : M_isEnd Y m h = some (decide (tI T n p = some 29)) := by
  unfold M_isEnd
  rw [show M_spelled Y 101 110 100 0 0 0 h = some (lN (KW 29)) from sp_End, bind_s, m_isWord C (by decide), bind_s]
theorem sp_Follow : M_spelled Y00 102 111 108 108 111 119 h00 = some (lN 217461239) := by decide +kernel
theorem isFollows_s (C : TP Y h m n T p) : M_isFollows Y m h = some (decide (tI T n p = some 20)) := by
  unfold M_isFollows
  rw [show M_spelled Y 102 111 108 108 111 119 h = some (lN 217461239) from sp_Follow, bind_s, show lN 217461239 * 32 + 19 = lN (KW 20) by decide +kernel, m_isWord C (by decide), bind_s]
theorem sp_bind : M_spelled Y00 98 105 110 100 0 0 h00 = some (lN (KW 21)) := by decide +kernel
theorem sp_loose : M_spelled Y00 108 111 111 115 101 0 h00 = some (lN (KW 22)) := by decide +kernel
theorem sp_call : M_spelled Y00 99 97 108 108 0 0 h00 = some (lN (KW 23)) := by decide +kernel
theorem sp_guess : M_spelled Y00 103 117 101 115 115 0 h00 = some (lN (KW 24)) := by decide +kernel
theorem sp_when : M_spelled Y00 119 104 101 110 0 0 h00 = some (lN (KW 25)) := by decide +kernel
theorem sp_loop : M_spelled Y00 108 111 111 112 0 0 h00 = some (lN (KW 28)) := by decide +kernel
theorem sp_stop : M_spelled Y00 115 116 111 112 0 0 h00 = some (lN (KW 30)) := by decide +kernel
theorem sp_done : M_spelled Y00 100 111 110 101 0 0 h00 = some (lN (KW 26)) := by decide +kernel
theorem sp_left : M_spelled Y00 108 101 102 116 0 0 h00 = some (lN (KW 27)) := by decide +kernel
def stW : Option Nat → Int32
  | some 21 => 0
  | some 22 => 1
  | some 23 => 2
  | some 24 => 3
  | some 25 => 4
  | some 28 => 5
  | some 30 => 6
  | _ => -1
def teW : Option Nat → Int32
  | some 26 => 0
  | some 27 => 1
  | some 3 => 2
  | _ => -1
theorem kc {P : Option Nat → Prop} (o : Option Nat) (ho : ∀ k, o = some k → k < 31) (h0 : P none) (h1 : ∀ i : Fin 31, P (some i.val)) : P o := by
  cases o with
  | none => exact h0
  | some k => exact h1 ⟨k, ho k rfl⟩
theorem st_all : ∀ i : Fin 31, (fun o : Option Nat => (if decide (o = some 21) = true then some (0 : Int32) else if decide (o = some 22) = true then some 1 else if decide (o = some 23) = true then some 2 else if decide (o = some 24) = true then some 3 else if decide (o = some 25) = true then some 4 else if decide (o = some 28) = true then some 5 else if decide (o = some 30) = true then some 6 else some (-1))) (some i.val) = some (stW (some i.val)) := by decide +kernel
theorem stepWord_s (C : TP Y h m n T p) : M_stepWord Y m h = some (stW (tI T n p)) := by
  unfold M_stepWord
  rw [show M_spelled Y 98 105 110 100 0 0 h = some (lN (KW 21)) from sp_bind, bind_s, m_isWord C (i := 21) (by decide), bind_s, show M_spelled Y 108 111 111 115 101 0 h = some (lN (KW 22)) from sp_loose, bind_s, m_isWord C (i := 22) (by decide), bind_s, show M_spelled Y 99 97 108 108 0 0 h = some (lN (KW 23)) from sp_call, bind_s, m_isWord C (i := 23) (by decide), bind_s, show M_spelled Y 103 117 101 115 115 0 h = some (lN (KW 24)) from sp_guess, bind_s, m_isWord C (i := 24) (by decide), bind_s, show M_spelled Y 119 104 101 110 0 0 h = some (lN (KW 25)) from sp_when, bind_s, m_isWord C (i := 25) (by decide), bind_s, show M_spelled Y 108 111 111 112 0 0 h = some (lN (KW 28)) from sp_loop, bind_s, m_isWord C (i := 28) (by decide), bind_s, show M_spelled Y 115 116 111 112 0 0 h = some (lN (KW 30)) from sp_stop, bind_s, m_isWord C (i := 30) (by decide), bind_s]
  exact kc (P := fun o => (if decide (o = some 21) = true then some (0 : Int32) else if decide (o = some 22) = true then some 1 else if decide (o = some 23) = true then some 2 else if decide (o = some 24) = true then some 3 else if decide (o = some 25) = true then some 4 else if decide (o = some 28) = true then some 5 else if decide (o = some 30) = true then some 6 else some (-1)) = some (stW o)) (tI T n p) (fun k hk => tI_lt hk) rfl st_all
theorem te_all : ∀ i : Fin 31, (fun o : Option Nat => (if decide (o = some 26) = true then some (0 : Int32) else if decide (o = some 27) = true then some 1 else if decide (o = some 3) = true then some 2 else some (-1))) (some i.val) = some (teW (some i.val)) := by decide +kernel
theorem testWord_s (C : TP Y h m n T p) : M_testWord Y m h = some (teW (tI T n p)) := by
  unfold M_testWord
  rw [show M_spelled Y 100 111 110 101 0 0 h = some (lN (KW 26)) from sp_done, bind_s, m_isWord C (i := 26) (by decide), bind_s, show M_spelled Y 108 101 102 116 0 0 h = some (lN (KW 27)) from sp_left, bind_s, m_isWord C (i := 27) (by decide), bind_s, isOdd_s C, bind_s]
  exact kc (P := fun o => (if decide (o = some 26) = true then some (0 : Int32) else if decide (o = some 27) = true then some 1 else if decide (o = some 3) = true then some 2 else some (-1)) = some (teW o)) (tI T n p) (fun k hk => tI_lt hk) rfl te_all
theorem kept_all : ∀ i : Fin 31, (fun o : Option Nat => (if decide (o = some 0) = true then some true else if decide (o = some 1) = true then some true else if decide (o = some 2) = true then some true else if decide (o = some 4) = true then some true else if decide (o = some 5) = true then some true else if decide (o = some 6) = true then some true else if decide (o = some 7) = true then some true else if decide (o = some 8) = true then some true else if decide (o = some 9) = true then some true else if decide (o = some 10) = true then some true else if decide (o = some 11) = true then some true else if decide (o = some 12) = true then some true else if decide (o = some 13) = true then some true else if decide (o = some 14) = true then some true else if decide (o = some 15) = true then some true else if decide (o = some 16) = true then some true else if decide (o = some 17) = true then some true else if decide (o = some 18) = true then some true else if decide (o = some 19) = true then some true else if decide (o = some 20) = true then some true else if (0 : Int32) ≤ stW o then some true else if (0 : Int32) ≤ teW o then some true else if decide (o = some 29) = true then some true else some false)) (some i.val) = some (some i.val).isSome := by decide +kernel
theorem isKept_s (C : TP Y h m n T p) : M_isKept Y m h = some (tI T n p).isSome := by
  unfold M_isKept
  rw [isState_s C, bind_s, isFinal_s C, bind_s, isTurn_s C, bind_s, isRule_s C, bind_s, isTo_s C, bind_s, isBook_s C, bind_s, isFrom_s C, bind_s, isMisses_s C, bind_s, isFinale_s C, bind_s, isHint_s C, bind_s, isAt_s C, bind_s, isIs_s C, bind_s, isBy_s C, bind_s, isReader_s C, bind_s, isOffer_s C, bind_s, isCosts_s C, bind_s, isTells_s C, bind_s, isWatch_s C, bind_s, isGuards_s C, bind_s, isFollows_s C, bind_s, stepWord_s C, bind_s, testWord_s C, bind_s, isEnd_s C, bind_s]
  exact kc (P := fun o => (if decide (o = some 0) = true then some true else if decide (o = some 1) = true then some true else if decide (o = some 2) = true then some true else if decide (o = some 4) = true then some true else if decide (o = some 5) = true then some true else if decide (o = some 6) = true then some true else if decide (o = some 7) = true then some true else if decide (o = some 8) = true then some true else if decide (o = some 9) = true then some true else if decide (o = some 10) = true then some true else if decide (o = some 11) = true then some true else if decide (o = some 12) = true then some true else if decide (o = some 13) = true then some true else if decide (o = some 14) = true then some true else if decide (o = some 15) = true then some true else if decide (o = some 16) = true then some true else if decide (o = some 17) = true then some true else if decide (o = some 18) = true then some true else if decide (o = some 19) = true then some true else if decide (o = some 20) = true then some true else if (0 : Int32) ≤ stW o then some true else if (0 : Int32) ≤ teW o then some true else if decide (o = some 29) = true then some true else some false) = some o.isSome) (tI T n p) (fun k hk => tI_lt hk) rfl kept_all
theorem m_isName (C : TP Y h m n T p) : M_isName Y m h = some (isNm T n p) := by
  have kl := tK_le T n p
  unfold M_isName isNm
  rw [C.2.2.1]
  by_cases z : tK T n p = 1
  · have hR : tR T n p = 1 := by
      have := z
      unfold tK at this
      split at this <;> omega
    have hE := tE_bd T C.2.1
    have hs := tS_lt (T := T) C.2.1 (by omega)
    obtain ⟨e8, _⟩ := C.2.2.2.2.2.2.2 z
    have h900 := C.1.2.1
    rw [if_pos (show nI (mk4 (tK T n p)) = 1 by rw [z]; rfl), e8]
    by_cases v : tE T n p - tS T n p ≤ 8
    · rw [if_neg (show ¬ (8 : Int32) < nI (tE T n p - tS T n p) from fun w => by rw [Int32.lt_iff_toInt_lt, nI_toInt (by omega), show (8 : Int32).toInt = 8 by decide] at w; omega), isKept_s C, bind_s]
      have wp : tW T n p ≠ 0 := by
        unfold tW
        rw [if_pos ⟨hR, v⟩]
        obtain ⟨j, hj⟩ : ∃ j, tE T n p - tS T n p = j + 1 := ⟨tE T n p - tS T n p - 1, by omega⟩
        rw [hj, wF]
        have := sof_1 (tE_all hs hR (Or.inl rfl) (tS T n p + j) (by omega) (by omega))
        omega
      cases e : tI T n p with
      | none => simp [z, wp]
      | some k => simp
    · rw [if_pos (show (8 : Int32) < nI (tE T n p - tS T n p) from nI_lt (a := 8) (by omega) (by omega))]
      have : tW T n p = 0 := by unfold tW; rw [if_neg (fun q => v q.2)]
      simp [this]
  · have n1 : mk4 (tK T n p) ≠ 1 := by
      unfold mk4
      split <;> omega
    rw [if_neg (show ¬ nI (mk4 (tK T n p)) = 1 from fun w => n1 ((nI_eq (b := 1) (by unfold mk4; split <;> omega) (by decide)).mp w))]; simp [z]
theorem m_count_b {k a : Nat} (B : BF h m k a) (lo hi : Int32) : M_count Y m lo hi h = some (0, h) := by
  unfold M_count M_count_J19 M_count_J50
  rw [if_neg (BF_nz B).1, if_neg (BF_nz B).1, if_neg (BF_nz B).2]
theorem m_count_s (C : TP Y h m n T p) (h0 : hGi h 1212 m = 0) {lo hi : Nat} (hl : lo < 2 ^ 30) (hh : hi < 2 ^ 30) : (okNum T n p lo hi = true → ∃ h', M_count Y m (nI lo) (nI hi) h = some (nI (tN T n p), h') ∧ Tm m h h' ∧ TP Y h' m n T (tE T n p) ∧ hGi h' 1212 m = 0) ∧ (okNum T n p lo hi = false → ∃ h', M_count Y m (nI lo) (nI hi) h = some (0, h') ∧ Tm m h h' ∧ BF h' m (fltN T n p) (tS T n p)) := by
  have kl := tK_le T n p
  unfold M_count
  rw [if_pos h0, C.2.2.1]
  by_cases z : tK T n p = 2
  · have nl := tN_lt C.2.1 z
    have e7 := C.2.2.2.2.2.1 z
    have io : (decide ((nI lo).toInt64 ≤ (nI (tN T n p)).toInt64) && decide ((nI (tN T n p)).toInt64 ≤ (nI hi).toInt64)) = okNum T n p lo hi := by
      rw [nI_lN (by omega), nI_lN (by omega), nI_lN (by omega)]
      unfold okNum
      have a1 := pk_lLE (a := lo) (b := tN T n p) (by omega) (by omega)
      have a2 := pk_lLE (a := tN T n p) (b := hi) (by omega) (by omega)
      simp [a1, a2, z]
    rw [if_pos (show nI (mk4 (tK T n p)) = 2 by rw [z]; rfl), M_count_J19, if_pos h0, M_isIn_s, bind_s, e7, io]
    constructor
    · intro ok
      obtain ⟨h', e1, e2, e3, e4, _⟩ := TP_adv C
      rw [if_pos ok, M_count_J50, h0, if_pos (by decide), e1, bind_s, e7]
      exact ⟨h', rfl, e2, e3, e4.trans h0⟩
    · intro ok
      obtain ⟨h', e1, e2, e3⟩ := m_fail (Y := Y) h0 (k := 4) (a := tS T n p) (by decide) (by decide)
      rw [ok, if_neg (by decide), C.2.2.2.1, show (4 : Int32) = nI 4 from rfl, e1, bind_s, M_count_J50, if_neg (BF_nz e3).2, fltN, if_pos z]
      exact ⟨h', rfl, e2, e3⟩
  · have n2 : mk4 (tK T n p) ≠ 2 := by
      unfold mk4
      split <;> omega
    have no : okNum T n p lo hi = false := by unfold okNum; simp [z]
    rw [if_neg (show ¬ nI (mk4 (tK T n p)) = 2 from fun w => n2 ((nI_eq (b := 2) (by unfold mk4; split <;> omega) (by decide)).mp w))]
    refine ⟨fun w => absurd (no.symm.trans w) Bool.false_ne_true, fun _ => ?_⟩
    obtain ⟨h', e1, e2, e3⟩ := m_amiss C h0
    rw [e1, bind_s, M_count_J19, if_neg (BF_nz e3).1, M_count_J50, if_neg (BF_nz e3).2, fltN, if_neg z]
    exact ⟨h', rfl, e2, e3⟩
end OPM
