/-! ===== looking things up ===== -/
theorem isIn_at2 {x : Int32} {n : Nat} (hn : n < 2 ^ 31) : (decide ((0 : Int64) ≤ x.toInt64) && decide (x.toInt64 ≤ (nI n - nI 1).toInt64)) = isAt x n := isIn_at hn
theorem VC_l0 {c : Nat → Int32} (V : VB c) : cN c 0 < 9 := V.1.1.2
theorem VC_l1 {c : Nat → Int32} (V : VB c) : cN c 1 < 9 := V.1.2.1.2
theorem VC_l2 {c : Nat → Int32} (V : VB c) : cN c 2 < 7 := V.1.2.2.1.2
theorem VC_l3 {c : Nat → Int32} (V : VB c) : cN c 3 < 9 := V.1.2.2.2.1.2
theorem VC_l4 {c : Nat → Int32} (V : VB c) : cN c 4 < 7 := V.1.2.2.2.2.1.2
theorem VC_l5 {c : Nat → Int32} (V : VB c) : cN c 5 < 13 := V.1.2.2.2.2.2.1.2
theorem VC_l6 {c : Nat → Int32} (V : VB c) : cN c 6 < 7 := V.1.2.2.2.2.2.2.1.2
theorem VC_l7 {c : Nat → Int32} (V : VB c) : cN c 7 < 9 := V.1.2.2.2.2.2.2.2.2
theorem VC_e0 {c : Nat → Int32} (V : VB c) : c 0 = nI (cN c 0) := V.1.1.1
theorem VC_e1 {c : Nat → Int32} (V : VB c) : c 1 = nI (cN c 1) := V.1.2.1.1
theorem VC_e2 {c : Nat → Int32} (V : VB c) : c 2 = nI (cN c 2) := V.1.2.2.1.1
theorem VC_e3 {c : Nat → Int32} (V : VB c) : c 3 = nI (cN c 3) := V.1.2.2.2.1.1
theorem VC_e4 {c : Nat → Int32} (V : VB c) : c 4 = nI (cN c 4) := V.1.2.2.2.2.1.1
theorem VC_e5 {c : Nat → Int32} (V : VB c) : c 5 = nI (cN c 5) := V.1.2.2.2.2.2.1.1
theorem VC_e6 {c : Nat → Int32} (V : VB c) : c 6 = nI (cN c 6) := V.1.2.2.2.2.2.2.1.1
theorem VC_e7 {c : Nat → Int32} (V : VB c) : c 7 = nI (cN c 7) := V.1.2.2.2.2.2.2.2.1
section ML
variable {Y : Ly} {h : Hp} {m : Nat} {c : Nat → Int32}
theorem M_isStateAt_s (S : MS Y h m) (B : MB h m 0 c) (V : VB c) (x : Int32) : M_isStateAt Y m x h = some (isAt x (cN c 0)) := by
  have l := VC_l0 V
  unfold M_isStateAt
  simp (disch := omega) only [zlit, ml1220 S, inB_nI, if_true, nI_clamp, MB0 B, VC_e0 V, M_isIn_s, bind_s, isIn_at2]
theorem M_isTurnAt_s (S : MS Y h m) (B : MB h m 0 c) (V : VB c) (x : Int32) : M_isTurnAt Y m x h = some (isAt x (cN c 1)) := by
  have l := VC_l1 V
  unfold M_isTurnAt
  simp (disch := omega) only [zlit, ml1220 S, inB_nI, if_true, nI_clamp, MB0 B, VC_e1 V, M_isIn_s, bind_s, isIn_at2]
theorem M_isBookAt_s (S : MS Y h m) (B : MB h m 0 c) (V : VB c) (x : Int32) : M_isBookAt Y m x h = some (isAt x (cN c 2)) := by
  have l := VC_l2 V
  unfold M_isBookAt
  simp (disch := omega) only [zlit, ml1220 S, inB_nI, if_true, nI_clamp, MB0 B, VC_e2 V, M_isIn_s, bind_s, isIn_at2]
theorem M_isFinaleAt_s (S : MS Y h m) (B : MB h m 0 c) (V : VB c) (x : Int32) : M_isFinaleAt Y m x h = some (isAt x (cN c 3)) := by
  have l := VC_l3 V
  unfold M_isFinaleAt
  simp (disch := omega) only [zlit, ml1220 S, inB_nI, if_true, nI_clamp, MB0 B, VC_e3 V, M_isIn_s, bind_s, isIn_at2]
end ML
section CL
variable {Y : Ly} {h : Hp} {s : Nat} {c : Nat → Int32}
theorem has_s {x : Int32} {n : Nat} : (if x < 0 then some false else if nI n ≤ x then some false else some true) = some (isAt x n) := by
  unfold isAt
  by_cases h1 : x < 0
  · have : ¬ 0 ≤ x := by rw [Int32.lt_iff_toInt_lt] at h1; rw [Int32.le_iff_toInt_le]; omega
    simp [h1, this]
  · have h1' : 0 ≤ x := by rw [Int32.lt_iff_toInt_lt] at h1; rw [Int32.le_iff_toInt_le]; omega
    by_cases h2 : nI n ≤ x
    · have : ¬ x < nI n := by rw [Int32.le_iff_toInt_le] at h2; rw [Int32.lt_iff_toInt_lt]; omega
      simp [h1, h2, this]
    · have : x < nI n := by rw [Int32.le_iff_toInt_le] at h2; rw [Int32.lt_iff_toInt_lt]; omega
      simp [h1, h1', h2, this]
theorem Sh_hasBook_s (R : RS h s c) (V : VB c) (x : Int32) : Sh_hasBook Y s x h = some (isAt x (cN c 2)) := by
  unfold Sh_hasBook
  rw [R.1.2.2.1, VC_e2 V]
  exact has_s
theorem Sh_hasReader_s (R : RS h s c) (V : VB c) (x : Int32) : Sh_hasReader Y s x h = some (isAt x (cN c 4)) := by
  unfold Sh_hasReader
  rw [R.1.2.2.2.2.1, VC_e4 V]
  exact has_s
theorem St_hasState_s (R : RS h s c) (V : VB c) (x : Int32) : St_hasState Y (hGr h 400 s) x h = some (isAt x (cN c 0)) := by
  unfold St_hasState
  rw [R.1.1, VC_e0 V]
  exact has_s
theorem St_hasTurn_s (R : RS h s c) (V : VB c) (x : Int32) : St_hasTurn Y (hGr h 400 s) x h = some (isAt x (cN c 1)) := by
  unfold St_hasTurn
  rw [R.1.2.1, VC_e1 V]
  exact has_s
theorem St_hasFinale_s (R : RS h s c) (V : VB c) (x : Int32) : St_hasFinale Y (hGr h 400 s) x h = some (isAt x (cN c 3)) := by
  unfold St_hasFinale
  rw [R.1.2.2.2.1, VC_e3 V]
  exact has_s
end CL
