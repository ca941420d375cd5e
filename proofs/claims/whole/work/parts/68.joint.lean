/-! ===== the state that class and reference share ===== -/
abbrev Sg : Type := (Nat → Nat → Int32) × (Nat → Nat → Int64) × (Nat → Int32) × (Nat → Int32) × (Nat → Nat → Int64) × Nat × (Nat → Int32) × (Option (Nat → Int32)) × Nat × Int32 × Int32 × Int32 × Int64 × Int64
def sC (g : Sg) : Nat → Nat → Int32 := g.1
def sW (g : Sg) : Nat → Nat → Int64 := g.2.1
def sTs (g : Sg) : Nat → Int32 := g.2.2.1
def sTm (g : Sg) : Nat → Int32 := g.2.2.2.1
def sTn (g : Sg) : Nat → Nat → Int64 := g.2.2.2.2.1
def sTl (g : Sg) : Nat := g.2.2.2.2.2.1
def sTp (g : Sg) : Nat → Int32 := g.2.2.2.2.2.2.1
def sLv (g : Sg) : Option (Nat → Int32) := g.2.2.2.2.2.2.2.1
def sK (g : Sg) : Nat := g.2.2.2.2.2.2.2.2.1
def sSt (g : Sg) : Int32 := g.2.2.2.2.2.2.2.2.2.1
def sFk (g : Sg) : Int32 := g.2.2.2.2.2.2.2.2.2.2.1
def sFp (g : Sg) : Int32 := g.2.2.2.2.2.2.2.2.2.2.2.1
def sTo (g : Sg) : Int64 := g.2.2.2.2.2.2.2.2.2.2.2.2.1
def sBo (g : Sg) : Int64 := g.2.2.2.2.2.2.2.2.2.2.2.2.2
def wSt (g : Sg) (v : Int32) : Sg := (sC g, sW g, sTs g, sTm g, sTn g, sTl g, sTp g, sLv g, sK g, v, sFk g, sFp g, sTo g, sBo g)
def wFr (g : Sg) (q : Int64 × Int64) : Sg := (sC g, sW g, sTs g, sTm g, sTn g, sTl g, sTp g, sLv g, sK g, sSt g, sFk g, sFp g, q.1, q.2)
def wC0 (g : Sg) (c : Nat → Int32) : Sg := (fun j => if j = 0 then c else sC g j, sW g, sTs g, sTm g, sTn g, sTl g, sTp g, sLv g, sK g, sSt g, sFk g, sFp g, sTo g, sBo g)
def wTr (g : Sg) (ts tm : Nat → Int32) (tn : Nat → Nat → Int64) : Sg := (sC g, sW g, ts, tm, tn, sTl g, sTp g, sLv g, sK g, sSt g, sFk g, sFp g, sTo g, sBo g)
def wTp (g : Sg) (tl : Nat) (tp : Nat → Int32) : Sg := (sC g, sW g, sTs g, sTm g, sTn g, tl, tp, sLv g, sK g, sSt g, sFk g, sFp g, sTo g, sBo g)
def wLv (g : Sg) (f : Nat → Int32) : Sg := (sC g, sW g, sTs g, sTm g, sTn g, sTl g, sTp g, some f, sK g, sSt g, sFk g, sFp g, sTo g, sBo g)
def wFt (g : Sg) (a b : Int32) : Sg := (sC g, sW g, sTs g, sTm g, sTn g, sTl g, sTp g, sLv g, sK g, sSt g, a, b, sTo g, sBo g)
/-- names: the sorts' words and where their counts stand -/
def kindOf : Nat → Nat
  | 0 => 0
  | 1 => 2
  | 2 => 6
  | 3 => 9
  | 4 => 14
  | 5 => 15
  | _ => 18
def manyI (s : Nat) : Nat := if s < 5 then s else s + 1
def nmT (c : Nat → Int32) : Nat := sm (fun s => cN c (manyI s)) 7
def RN (h : Hp) (s : Nat) (c : Nat → Int32) (w : Nat → Int64) : Prop := hGi h 414 s = nI (nmT c) ∧
  (∀ i, i < nmT c → ∃ so k, so < 7 ∧ k < cN c (manyI so) ∧ hAl h (hGr h 403 s) i = w (8 * so + k) ∧ hAi h (hGr h 404 s) i = nI (kindOf so) ∧ hAi h (hGr h 405 s) i = nI k) ∧
  (∀ so k, so < 7 → k < cN c (manyI so) → ∃ i, i < nmT c ∧ hAl h (hGr h 403 s) i = w (8 * so + k) ∧ hAi h (hGr h 404 s) i = nI (kindOf so) ∧ hAi h (hGr h 405 s) i = nI k)
/-- no name of two things -/
def VN (c : Nat → Int32) (w : Nat → Int64) : Prop := ∀ so k so' k', so < 7 → k < cN c (manyI so) → so' < 7 → k' < cN c (manyI so') → w (8 * so + k) = w (8 * so' + k') → so = so' ∧ k = k'
/-- a row of the class's weeks is a step of the reference's -/
def rowOk (wd sg th nm : Nat → Int32) (c : Nat → Int32) (r a : Nat) : Prop :=
  (c (306 + 9 * a) = nI 0 ∧ wd r = nI 21 ∧ th r = c (307 + 9 * a) ∧ nm r = c (308 + 9 * a) ∧ nB c (307 + 9 * a) (cN c 2) ∧ nB c (308 + 9 * a) (cN c 3)) ∨
  (c (306 + 9 * a) = nI 1 ∧ wd r = nI 22 ∧ th r = c (307 + 9 * a) ∧ nB c (307 + 9 * a) (cN c 2)) ∨
  (c (306 + 9 * a) = nI 2 ∧ wd r = nI 23 ∧ th r = c (307 + 9 * a) ∧ nB c (307 + 9 * a) (cN c 4)) ∨
  (c (306 + 9 * a) = nI 3 ∧ wd r = nI 24 ∧ th r = c (307 + 9 * a) ∧ nB c (307 + 9 * a) (cN c 2)) ∨
  (c (306 + 9 * a) = nI 6 ∧ wd r = nI 30)
def blkOk (wd sg th nm : Nat → Int32) (c : Nat → Int32) (r a : Nat) : Prop :=
  (c (306 + 9 * a) = nI 5 ∧ wd r = nI 28 ∧ nm r = c (307 + 9 * a) ∧ nB c (307 + 9 * a) 100 ∧ 1 ≤ cN c (307 + 9 * a)) ∨
  (c (306 + 9 * a) = nI 4 ∧ c (312 + 9 * a) = nI 0 ∧ wd r = nI 26 ∧ th r = c (307 + 9 * a) ∧ nB c (307 + 9 * a) (cN c 2)) ∨
  (c (306 + 9 * a) = nI 4 ∧ c (312 + 9 * a) = nI 1 ∧ wd r = nI 27 ∧ sg r = c (313 + 9 * a) ∧ nm r = c (308 + 9 * a) ∧ nB c (308 + 9 * a) 10 ∧ (c (313 + 9 * a) = nI 60 ∨ c (313 + 9 * a) = nI 61 ∨ c (313 + 9 * a) = nI 62)) ∨
  (c (306 + 9 * a) = nI 4 ∧ c (312 + 9 * a) = nI 2 ∧ wd r = nI 3 ∧ th r = c (307 + 9 * a) ∧ sg r = c (313 + 9 * a) ∧ nm r = c (308 + 9 * a) ∧ nB c (307 + 9 * a) (cN c 2) ∧ nB c (308 + 9 * a) 100 ∧ (c (313 + 9 * a) = nI 60 ∨ c (313 + 9 * a) = nI 61 ∨ c (313 + 9 * a) = nI 62))
/-- rows lo to hi are the steps a to b, one behind the other; d: how deep blocks may be -/
def SQ (wd sg th nm pt : Nat → Int32) (c : Nat → Int32) : Nat → Nat → Nat → Nat → Nat → Nat → Prop
  | 0, _, lo, hi, a, b => lo = hi ∧ a = b
  | n + 1, d, lo, hi, a, b => (lo = hi ∧ a = b) ∨ (a < b ∧ lo < hi ∧
      ((rowOk wd sg th nm c lo a ∧ c (314 + 9 * a) = nI (a + 1) ∧ SQ wd sg th nm pt c n d (lo + 1) hi (a + 1) b) ∨
       (blkOk wd sg th nm c lo a ∧ 0 < d ∧ ∃ p e, lo < p ∧ p < hi ∧ a < e ∧ e ≤ b ∧ c (314 + 9 * a) = nI e ∧ pt lo = nI p ∧ wd p = nI 29 ∧ pt p = nI lo ∧ SQ wd sg th nm pt c n (d - 1) (lo + 1) p (a + 1) e ∧ SQ wd sg th nm pt c n d (p + 1) hi e b)))
def RW (h : Hp) (w : Nat) (c : Nat → Int32) : Prop := (c 304 = nI 0 ∧ hGi h 905 w = 0) ∨
  (c 304 = nI 1 ∧ hGi h 905 w = 1 ∧ ∃ R T, R ≤ 60 ∧ T ≤ 30 ∧ hGi h 906 w = nI R ∧ hGi h 907 w = nI T ∧ c 305 = nI T ∧
    SQ (hAi h (hGr h 900 w)) (hAi h (hGr h 901 w)) (hAi h (hGr h 902 w)) (hAi h (hGr h 903 w)) (hAi h (hGr h 904 w)) c 64 3 0 R 0 T)
def shA (h : Hp) (x i : Nat) : Nat := if i = 0 then hGr h 1109 x else if i = 4 then hGr h 1110 x else hAr h (hGr h 1104 x) (i - 1)
def wkA (h : Hp) (x i : Nat) : Nat := if i = 5 then hGr h 1111 x else hGr h 413 (shA h x i)
def trA (h : Hp) (x t : Nat) : Nat := hAr h (hGr h 1100 x) t
def SCc (h : Hp) (x : Nat) (g : Sg) : Prop := hGi h 1112 x = sSt g ∧ hGi h 1115 x = sFk g ∧ hGi h 1116 x = sFp g ∧ hGi h 1117 x = nI (sK g) ∧ hGl h 1113 x = sTo g ∧ hGl h 1114 x = sBo g
def LVc (h : Hp) (x : Nat) (g : Sg) : Prop := ∀ i, i < 5 → hAi h (hGr h 1108 x) i = match sLv g with
  | none => m1
  | some f => f i
def TPc (h : Hp) (x : Nat) (g : Sg) : Prop := hGi h 702 (hGr h 1101 x) = nI (sTl g) ∧ ∀ i, i < sTl g → hAi h (hGr h 700 (hGr h 1101 x)) i = sTp g i
def TRc (h : Hp) (x : Nat) (g : Sg) : Prop := (∀ t t', t < 4 → t' < 4 → trA h x t = trA h x t' → t = t') ∧ ∀ t, t < 4 → (sTm g t = m1 ∧ hGi h 801 (trA h x t) = 0) ∨
  ∃ n s, n ≤ 60 ∧ s < 4 ∧ sTm g t = nI n ∧ sTs g t = nI s ∧ hGi h 801 (trA h x t) = 1 ∧ hGi h 803 (trA h x t) = nI n ∧ hGi h 802 (trA h x t) = nI s ∧ ∀ i, i < n → hAl h (hGr h 800 (trA h x t)) i = sTn g t i
def SHc (h : Hp) (x : Nat) (g : Sg) : Prop := (∀ i j, i < 5 → j < 5 → shA h x i = shA h x j → i = j) ∧ (∀ i j, i < 6 → j < 6 → wkA h x i = wkA h x j → i = j) ∧
  ∀ j, j ≤ sK g → RS h (shA h x j) (sC g j) ∧ RN h (shA h x j) (sC g j) (sW g j) ∧ RW h (wkA h x j) (sC g j)
/-- the class is in the state g; kw: the words that are no names -/
def CR (Y : Ly) (h : Hp) (x : Nat) (kw : Nat → Int64) (g : Sg) : Prop := CS Y h x ∧ Ty Y h ∧ SHc h x g ∧ TRc h x g ∧ TPc h x g ∧ LVc h x g ∧ SCc h x g ∧ ∀ i, i < 31 → hAl h (hGr h 701 (hGr h 1101 x)) i = kw i
def VG (g : Sg) : Prop := sK g ≤ 3 ∧ (∀ j, j ≤ sK g → VB (sC g j) ∧ VN (sC g j) (sW g j)) ∧ sTl g ≤ 900 ∧ (∀ i, i < sTl g → ∃ z : Int8, sTp g i = z.toInt32) ∧ ∀ f, sLv g = some f → ∀ i, i < 5 → numI (f i) ∧ f i ≠ m1
/-- the reference is in the state g -/
def MR (Y : Ly) (h : Hp) (m : Nat) (g : Sg) : Prop := MS Y h m ∧ Ty Y h ∧ (∀ j, j ≤ sK g → MB h m j (sC g j) ∧ ∀ i, i < 56 → hAl h (hGr h 1222 m) (56 * j + i) = sW g j i) ∧
  (∀ t, t < 4 → hAi h (hGr h 1204 m) t = sTs g t ∧ hAi h (hGr h 1205 m) t = sTm g t ∧ ∀ i, i < 60 → hAl h (hGr h 1206 m) (60 * t + i) = sTn g t i) ∧
  (hGi h 1208 m = nI (sTl g) ∧ ∀ i, i < sTl g → hAi h (hGr h 1207 m) i = sTp g i) ∧
  ((sLv g = none ∧ hGi h 1235 m = 0) ∨ ∃ f, sLv g = some f ∧ hGi h 1235 m = 1 ∧ ∀ i, i < 5 → hAi h (hGr h 1234 m) i = f i) ∧
  hGi h 1200 m = sSt g ∧ hGi h 1210 m = sFk g ∧ hGi h 1211 m = sFp g ∧ hGi h 1223 m = nI (sK g) ∧ hGl h 1202 m = sTo g ∧ hGl h 1203 m = sBo g
