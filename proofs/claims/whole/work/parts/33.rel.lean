/-! ===== a block of the reference: what holds of it; a shelf of the class that is the same ===== -/
def cN (c : Nat → Int32) (i : Nat) : Nat := (c i).toNatClampNeg
/-- the cell i is a number below n -/
def nB (c : Nat → Int32) (i n : Nat) : Prop := c i = nI (cN c i) ∧ cN c i < n
def VC (c : Nat → Int32) : Prop := nB c 0 9 ∧ nB c 1 9 ∧ nB c 2 7 ∧ nB c 3 9 ∧ nB c 4 7 ∧ nB c 5 13 ∧ nB c 6 7 ∧ nB c 7 9
def VS (c : Nat → Int32) : Prop := nB c 8 (2 ^ cN c 0) ∧ nB c 9 (2 ^ cN c 4)
def VO (c : Nat → Int32) : Prop := ∀ t, t < cN c 1 → nB c (10 + t) 10
def VR (c : Nat → Int32) : Prop := ∀ s t, s < 8 → t < 8 → c (18 + 8 * s + t) = m1 ∨ (s < cN c 0 ∧ t < cN c 1 ∧ nB c (18 + 8 * s + t) (cN c 0))
def VK (c : Nat → Int32) : Prop := ∀ b, b < cN c 2 → nB c (82 + b) (cN c 0) ∧ (nB c (88 + b) 7 ∧ 1 ≤ cN c (88 + b)) ∧ nB c (94 + b) 11 ∧ (c (100 + b) = m1 ∨ nB c (100 + b) (cN c 3)) ∧ ∀ p, p < cN c (94 + b) → nB c (106 + 10 * b + p) (cN c 1)
def VF (c : Nat → Int32) : Prop := ∀ f, f < cN c 3 → (nB c (166 + f) 7 ∧ 1 ≤ cN c (166 + f)) ∧ ∀ k, k < cN c (166 + f) → nB c (174 + 6 * f + k) (cN c 1)
def VH (c : Nat → Int32) : Prop := ∀ i, i < cN c 5 → nB c (222 + i) (cN c 2) ∧ (nB c (234 + i) (cN c (88 + cN c (222 + i)) + 1) ∧ 1 ≤ cN c (234 + i)) ∧ nB c (246 + i) (cN c 1) ∧ nB c (258 + i) (cN c 4)
def VL (c : Nat → Int32) : Prop := (∀ o, o < cN c 6 → nB c (270 + o) 100 ∧ nB c (276 + o) (2 ^ cN c 2)) ∧ (∀ k, k < cN c 7 → nB c (282 + k) 100 ∧ nB c (290 + k) (2 ^ cN c 2)) ∧ ∀ b, b < cN c 2 → nB c (298 + b) (2 ^ cN c 2)
def VB (c : Nat → Int32) : Prop := VC c ∧ VS c ∧ VO c ∧ VR c ∧ VK c ∧ VF c ∧ VH c ∧ VL c
/-- a shelf at s is the block c -/
def RC (h : Hp) (s : Nat) (c : Nat → Int32) : Prop := hGi h 604 (hGr h 400 s) = c 0 ∧ hGi h 605 (hGr h 400 s) = c 1 ∧ hGi h 415 s = c 2 ∧ hGi h 607 (hGr h 400 s) = c 3 ∧ hGi h 416 s = c 4 ∧ hGi h 418 s = c 5 ∧ hGi h 302 (hGr h 401 s) = c 6 ∧ hGi h 302 (hGr h 402 s) = c 7 ∧ hGi h 606 (hGr h 400 s) = c 8 ∧ hGi h 417 s = c 9
def RO (h : Hp) (s : Nat) (c : Nat → Int32) : Prop := (∀ t, t < cN c 1 → hAi h (hGr h 600 (hGr h 400 s)) t = c (10 + t)) ∧ (∀ i, i < 64 → 0 < cN c 0 → hAi h (hGr h 601 (hGr h 400 s)) i = c (18 + i)) ∧
  ∀ f, f < cN c 3 → hAi h (hGr h 602 (hGr h 400 s)) f = c (166 + f) ∧ ∀ k, k < cN c (166 + f) → hAi h (hGr h 603 (hGr h 400 s)) (6 * f + k) = c (174 + 6 * f + k)
def RK (h : Hp) (s : Nat) (c : Nat → Int32) : Prop := ∀ b, b < cN c 2 → hAi h (hGr h 406 s) b = c (82 + b) ∧ hAi h (hGr h 407 s) b = c (88 + b) ∧ hAi h (hGr h 408 s) b = c (94 + b) ∧ hAi h (hGr h 410 s) b = c (100 + b) ∧ hAi h (hGr h 411 s) b = c (298 + b) ∧ ∀ p, p < cN c (94 + b) → hAi h (hGr h 409 s) (10 * b + p) = c (106 + 10 * b + p)
def RH (h : Hp) (s : Nat) (c : Nat → Int32) : Prop := ∀ i, i < cN c 5 → hAi h (hGr h 412 s) (4 * i) = c (222 + i) ∧ hAi h (hGr h 412 s) (4 * i + 1) = c (234 + i) ∧ hAi h (hGr h 412 s) (4 * i + 2) = c (246 + i) ∧ hAi h (hGr h 412 s) (4 * i + 3) = c (258 + i)
def RL (h : Hp) (s : Nat) (c : Nat → Int32) : Prop := (∀ o, o < cN c 6 → hAi h (hGr h 300 (hGr h 401 s)) o = c (270 + o) ∧ hAi h (hGr h 301 (hGr h 401 s)) o = c (276 + o)) ∧ ∀ k, k < cN c 7 → hAi h (hGr h 300 (hGr h 402 s)) k = c (282 + k) ∧ hAi h (hGr h 301 (hGr h 402 s)) k = c (290 + k)
def RS (h : Hp) (s : Nat) (c : Nat → Int32) : Prop := RC h s c ∧ RO h s c ∧ RK h s c ∧ RH h s c ∧ RL h s c
/-- block j of the reference is c -/
def MB (h : Hp) (m j : Nat) (c : Nat → Int32) : Prop := ∀ i, i < 576 → hAi h (hGr h 1220 m) (576 * j + i) = c i
theorem MB0 {h : Hp} {m : Nat} {c : Nat → Int32} (H : MB h m 0 c) {i : Nat} (hi : i < 576) : hAi h (hGr h 1220 m) i = c i := by
  have := H i hi
  simpa using this
theorem nB.e {c : Nat → Int32} {i n : Nat} (h : nB c i n) : c i = nI (cN c i) := h.1
theorem nB.l {c : Nat → Int32} {i n : Nat} (h : nB c i n) : cN c i < n := h.2
