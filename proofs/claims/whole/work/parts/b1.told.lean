/-! ===== names that are told, on both sides ===== -/
def oldN (T : Nat → Int32) (n p : Nat) (c : Nat → Int32) (w : Nat → Int64) (so : Nat) : Option Nat := if isNm T n p = true then nmF c w so (lN (tW T n p)) else none
def fltO (T : Nat → Int32) (n p : Nat) : Nat := if isNm T n p = true then 3 else flt T n p 2
section TOL
variable {Y : Ly} {h h' : Hp} {x t s m n : Nat} {T : Nat → Int32} {p : Nat} {c : Nat → Int32} {w : Nat → Int64}
theorem isNm_1 (z : isNm T n p = true) : tK T n p = 1 ∧ tI T n p = none ∧ tW T n p ≠ 0 := by
  unfold isNm at z
  exact of_decide_eq_true z
theorem c_see (S : CS Y h x) (os : isO Y 4 s) (C : TC Y h t n T p) (R : RN h s c w) (hT : nmT c ≤ 50) (V : VN c w) {so : Nat} (hso : so < 7) (hc8 : cN c (manyI so) ≤ 8) :
    (∀ k, oldN T n p c w so = some k → ∃ h', To_seeOld Y t s (nI (kindOf so)) h = some (true, h') ∧ Tk t h h' ∧ TC Y h' t n T p ∧ hGi h' 710 t = nI k) ∧
    (oldN T n p c w so = none → ∃ h', To_seeOld Y t s (nI (kindOf so)) h = some (false, h') ∧ Tk t h h' ∧ FL h' t (fltO T n p) (tS T n p)) := by
  have C' : ∀ v, TC Y (hSi h 710 t v) t n T p := by
    intro v
    refine ⟨TX_k (Tk_si (by decide) (by decide)) C.1, C.2.1, ?_, ?_, ?_, ?_, C.2.2.2.2.2.2.1, fun w => ?_⟩
    · rw [gi_si, if_neg (by omega)]; exact C.2.2.1
    · rw [gi_si, if_neg (by omega)]; exact C.2.2.2.1
    · rw [gi_si, if_neg (by omega)]; exact C.2.2.2.2.1
    · rw [gi_si, if_neg (by omega)]; exact C.2.2.2.2.2.1
    · rw [gi_si, if_neg (by omega)]; exact C.2.2.2.2.2.2.2 w
  unfold To_seeOld oldN fltO
  rw [c_isName C, bind_s]
  by_cases z : isNm T n p = true
  · have z1 := isNm_1 z
    rw [if_pos z, if_pos z, if_pos z, C.2.2.2.2.2.2.1, numberOf_s S os R hT V hso, bind_s, letH_e, gi_si, if_pos (show 710 = 710 ∧ t = t from ⟨rfl, rfl⟩)]
    constructor
    · intro k e
      have kl := (nmF_some e).1
      rw [e, if_neg (show ¬ on (some k) = -1 from fun q => by have q' : nI k = m1 := q; rw [ne_m1 (by omega)] at q'; exact q')]
      exact ⟨_, rfl, Tk_si (by decide) (by decide), C' _, by rw [gi_si, if_pos ⟨rfl, rfl⟩]; rfl⟩
    · intro e
      rw [e, if_pos (show on none = -1 from rfl)]
      obtain ⟨h', e1, e2, e3⟩ := c_blame (C' (on none)) 3
      rw [show (3 : Int32) = nI 3 from rfl, e1, bind_s, if_neg (show ¬ (false, h').1 = true from fun w => by cases w)]
      have f3 : flt T n p 3 = 3 := by unfold flt; rw [if_neg (by omega)]
      rw [f3] at e3
      exact ⟨h', rfl, Tk_tr (Tk_si (by decide) (by decide)) e2, e3⟩
  · rw [if_neg z, if_neg z, if_neg z]
    refine ⟨fun k e => absurd e (by simp), fun _ => ?_⟩
    obtain ⟨h', e1, e2, e3⟩ := c_blame C 2
    rw [show (2 : Int32) = nI 2 from rfl, e1, bind_s]
    exact ⟨h', rfl, e2, e3⟩
theorem c_old (S : CS Y h x) (os : isO Y 4 s) (C : TC Y h t n T p) (R : RN h s c w) (hT : nmT c ≤ 50) (V : VN c w) {so : Nat} (hso : so < 7) (hc8 : cN c (manyI so) ≤ 8) :
    (∀ k, oldN T n p c w so = some k → ∃ h', To_passOld Y t s (nI (kindOf so)) h = some (true, h') ∧ Tk t h h' ∧ TC Y h' t n T (tE T n p) ∧ hGi h' 710 t = nI k) ∧
    (oldN T n p c w so = none → ∃ h', To_passOld Y t s (nI (kindOf so)) h = some (false, h') ∧ Tk t h h' ∧ FL h' t (fltO T n p) (tS T n p)) := by
  obtain ⟨A, B⟩ := c_see S os C R hT V hso hc8
  unfold To_passOld
  constructor
  · intro k e
    obtain ⟨h1, e1, e2, e3, e4⟩ := A k e
    obtain ⟨h2, f1, f2, f3, f4⟩ := TC_adv e3
    rw [e1, bind_s, if_pos rfl, f1, bind_s]
    exact ⟨h2, rfl, Tk_tr e2 f2, f3, f4.trans e4⟩
  · intro e
    obtain ⟨h1, e1, e2, e3⟩ := B e
    rw [e1, bind_s, if_neg (show ¬ (false, h1).1 = true from fun w => by cases w)]
    exact ⟨h1, rfl, e2, e3⟩
theorem m_told_b {k a : Nat} (B : BF h m k a) (j so : Int32) : M_told Y m j so h = some (0, h) := by
  unfold M_told M_told_J18
  rw [if_neg (BF_nz B).1, if_neg (BF_nz B).2]
theorem m_readTold_b {k a : Nat} (B : BF h m k a) (j so : Int32) : M_readTold Y m j so h = some (0, h) := by
  unfold M_readTold
  rw [m_told_b B, bind_s, m_must_b B, bind_s]
theorem wd_nm (C : TP Y h m n T p) (z : isNm T n p = true) : hGl h 1219 m = lN (tW T n p) := by
  have z1 := isNm_1 z
  rw [(C.2.2.2.2.2.2.2 z1.1).2]
  have w := z1.2.2
  unfold wdL
  unfold tW at w ⊢
  by_cases v : tR T n p = 1 ∧ tE T n p - tS T n p ≤ 8
  · rw [if_pos v, if_pos v.2]
  · rw [if_neg v] at w; exact absurd rfl w
theorem m_told_s (S : MS Y h m) (C : TP Y h m n T p) (h0 : hGi h 1212 m = 0) {j : Nat} (hj : j ≤ 4) (B : BN h m j c w) {so : Nat} (hso : so < 7) :
    (∀ k, oldN T n p c w so = some k → M_told Y m (nI j) (nI so) h = some (nI k, h)) ∧ (oldN T n p c w so = none → ∃ h', M_told Y m (nI j) (nI so) h = some (0, h') ∧ Tm m h h' ∧ BF h' m (fltO T n p) (tS T n p)) := by
  unfold M_told oldN fltO
  rw [if_pos h0, m_isName C, bind_s]
  by_cases z : isNm T n p = true
  · rw [if_pos z, if_pos z, if_pos z, M_told_J18, h0, if_pos (by decide), named_s S hj B hso, bind_s, wd_nm C z]
    constructor
    · intro k e
      have kl := (nmF_some e).1
      have := (B so hso).2.1
      rw [e, if_pos (show (0 : Int32) ≤ on (some k) from nI_pos' (by omega))]
      by_cases k0 : k = 0
      · subst k0; rw [if_neg (show ¬ (0 : Int32) < on (some 0) by decide)]; rfl
      · rw [if_pos (show (0 : Int32) < on (some k) from nI_lt (a := 0) (by omega) (by omega))]; rfl
    · intro e
      obtain ⟨h', e1, e2, e3⟩ := m_fail (Y := Y) h0 (k := 3) (a := tS T n p) (by decide) (by decide)
      rw [e, if_neg (show ¬ (0 : Int32) ≤ on none by decide), C.2.2.2.1, show (3 : Int32) = nI 3 from rfl, e1, bind_s]
      exact ⟨h', rfl, e2, e3⟩
  · rw [if_neg z, if_neg z, if_neg z]
    refine ⟨fun k e => absurd e (by simp), fun _ => ?_⟩
    obtain ⟨h', e1, e2, e3⟩ := m_amiss C h0
    rw [e1, bind_s, M_told_J18, if_neg (BF_nz e3).2]
    exact ⟨h', rfl, e2, e3⟩
theorem m_readTold_s (S : MS Y h m) (C : TP Y h m n T p) (h0 : hGi h 1212 m = 0) {j : Nat} (hj : j ≤ 4) (B : BN h m j c w) {so : Nat} (hso : so < 7) :
    (∀ k, oldN T n p c w so = some k → ∃ h', M_readTold Y m (nI j) (nI so) h = some (nI k, h') ∧ Tm m h h' ∧ TP Y h' m n T (tE T n p) ∧ hGi h' 1212 m = 0) ∧ (oldN T n p c w so = none → ∃ h', M_readTold Y m (nI j) (nI so) h = some (0, h') ∧ Tm m h h' ∧ BF h' m (fltO T n p) (tS T n p)) := by
  obtain ⟨A, B'⟩ := m_told_s S C h0 hj B hso
  unfold M_readTold
  constructor
  · intro k e
    obtain ⟨h1, f1, f2, f3, f4⟩ := m_must_t C h0
    rw [A k e, bind_s, f1, bind_s]
    exact ⟨h1, rfl, f2, f3, f4⟩
  · intro e
    obtain ⟨h1, e1, e2, e3⟩ := B' e
    rw [e1, bind_s, m_must_b e3, bind_s]
    exact ⟨h1, rfl, e2, e3⟩
theorem m_readTurns_b {k a : Nat} (B : BF h m k a) (l1 l2 : Int32) : M_readTurns Y m l1 l2 h = some (0, h) := by
  obtain ⟨F, hF⟩ : ∃ F, FU = F + 1 := ⟨4000000 - 1, by unfold FU; omega⟩
  unfold M_readTurns
  rw [hF, M_readTurns_L2, if_neg (BF_nz B).1]
theorem m_readBooks_b {k a : Nat} (B : BF h m k a) : M_readBooks Y m h = some (0, h) := by
  obtain ⟨F, hF⟩ : ∃ F, FU = F + 1 := ⟨4000000 - 1, by unfold FU; omega⟩
  unfold M_readBooks
  rw [hF, M_readBooks_L2, if_neg (BF_nz B).1]
theorem isWord_tot (v : Int64) : ∃ b, M_isWord Y m v h = some b := by
  unfold M_isWord
  split
  · split <;> exact ⟨_, rfl⟩
  · exact ⟨_, rfl⟩
theorem isSign_tot (v : Int32) : ∃ b, M_isSign Y m v h = some b := by
  unfold M_isSign
  split
  · split <;> exact ⟨_, rfl⟩
  · exact ⟨_, rfl⟩
theorem totFrom : ∃ b, M_isFrom Y m h = some b := by
  obtain ⟨b, e⟩ := isWord_tot (Y := Y) (h := h) (m := m) (lN (KW 7))
  unfold M_isFrom
  rw [show M_spelled Y 102 114 111 109 0 0 h = some (lN (KW 7)) from sp_From, bind_s, e, bind_s]
  exact ⟨b, rfl⟩
theorem totMisses : ∃ b, M_isMisses Y m h = some b := by
  obtain ⟨b, e⟩ := isWord_tot (Y := Y) (h := h) (m := m) (lN (KW 8))
  unfold M_isMisses
  rw [show M_spelled Y 109 105 115 115 101 115 h = some (lN (KW 8)) from sp_Misses, bind_s, e, bind_s]
  exact ⟨b, rfl⟩
theorem totTo : ∃ b, M_isTo Y m h = some b := by
  obtain ⟨b, e⟩ := isWord_tot (Y := Y) (h := h) (m := m) (lN (KW 5))
  unfold M_isTo
  rw [show M_spelled Y 116 111 0 0 0 0 h = some (lN (KW 5)) from sp_To, bind_s, e, bind_s]
  exact ⟨b, rfl⟩
theorem totAt : ∃ b, M_isAt Y m h = some b := by
  obtain ⟨b, e⟩ := isWord_tot (Y := Y) (h := h) (m := m) (lN (KW 11))
  unfold M_isAt
  rw [show M_spelled Y 97 116 0 0 0 0 h = some (lN (KW 11)) from sp_At, bind_s, e, bind_s]
  exact ⟨b, rfl⟩
theorem totIs : ∃ b, M_isIs Y m h = some b := by
  obtain ⟨b, e⟩ := isWord_tot (Y := Y) (h := h) (m := m) (lN (KW 12))
  unfold M_isIs
  rw [show M_spelled Y 105 115 0 0 0 0 h = some (lN (KW 12)) from sp_Is, bind_s, e, bind_s]
  exact ⟨b, rfl⟩
theorem totBy : ∃ b, M_isBy Y m h = some b := by
  obtain ⟨b, e⟩ := isWord_tot (Y := Y) (h := h) (m := m) (lN (KW 13))
  unfold M_isBy
  rw [show M_spelled Y 98 121 0 0 0 0 h = some (lN (KW 13)) from sp_By, bind_s, e, bind_s]
  exact ⟨b, rfl⟩
theorem totCosts : ∃ b, M_isCosts Y m h = some b := by
  obtain ⟨b, e⟩ := isWord_tot (Y := Y) (h := h) (m := m) (lN (KW 16))
  unfold M_isCosts
  rw [show M_spelled Y 99 111 115 116 115 0 h = some (lN (KW 16)) from sp_Costs, bind_s, e, bind_s]
  exact ⟨b, rfl⟩
theorem totTells : ∃ b, M_isTells Y m h = some b := by
  obtain ⟨b, e⟩ := isWord_tot (Y := Y) (h := h) (m := m) (lN (KW 17))
  unfold M_isTells
  rw [show M_spelled Y 116 101 108 108 115 0 h = some (lN (KW 17)) from sp_Tells, bind_s, e, bind_s]
  exact ⟨b, rfl⟩
theorem totGuards : ∃ b, M_isGuards Y m h = some b := by
  obtain ⟨b, e⟩ := isWord_tot (Y := Y) (h := h) (m := m) (lN (KW 19))
  unfold M_isGuards
  rw [show M_spelled Y 103 117 97 114 100 115 h = some (lN (KW 19)) from sp_Guards, bind_s, e, bind_s]
  exact ⟨b, rfl⟩
theorem totOdd : ∃ b, M_isOdd Y m h = some b := by
  obtain ⟨b, e⟩ := isWord_tot (Y := Y) (h := h) (m := m) (lN (KW 3))
  unfold M_isOdd
  rw [show M_spelled Y 111 100 100 0 0 0 h = some (lN (KW 3)) from sp_Odd, bind_s, e, bind_s]
  exact ⟨b, rfl⟩
theorem totFinal : ∃ b, M_isFinal Y m h = some b := by
  obtain ⟨b, e⟩ := isWord_tot (Y := Y) (h := h) (m := m) (lN (KW 1))
  unfold M_isFinal
  rw [show M_spelled Y 102 105 110 97 108 0 h = some (lN (KW 1)) from sp_Final, bind_s, e, bind_s]
  exact ⟨b, rfl⟩
theorem totEnd : ∃ b, M_isEnd Y m h = some b := by
  obtain ⟨b, e⟩ := isWord_tot (Y := Y) (h := h) (m := m) (lN (KW 29))
  unfold M_isEnd
  rw [show M_spelled Y 101 110 100 0 0 0 h = some (lN (KW 29)) from sp_End, bind_s, e, bind_s]
  exact ⟨b, rfl⟩
end TOL
