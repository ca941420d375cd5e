/-! ===== naming of heaps, switches ===== -/
def FU : Nat := 4000000
def letH {α : Type} (h : Hp) (k : Hp → Option α) : Option α := k h
section AWM
variable {Y : Ly} {n : Nat} {K : Mk} {pc : Nat} {lv lv' : List (Nat × Value)} {st : List Value} {h : Hp} {α : Type} {o o1 o2 : Option α} {r : α → Option Value × Hp}
theorem aw_letH {Kt : Hp → Option α} (k : ∀ h1 : Hp, AW Y n K pc lv st h1 (Kt h1) r) : AW Y n K pc lv st h (letH h Kt) r := k h
theorem aw_tblX {x : Int32} {d lo hi : Int} {offs : Array Int} {len tgt : Nat} (hd : decode K.2.1 pc = .ok (.tableswitch d lo hi offs, len)) (hcov : ∀ k : Nat, k < offs.size → offs[k]? = some d ∨ x ≠ Int32.ofInt (lo + (k : Int))) (hsz : (offs.size : Int) = hi - lo + 1) (ht : (pc : Int) + d = (tgt : Int)) (k : AW Y n K tgt lv st h o r) : AW Y n K pc lv (.int x :: st) h o r := by
  by_cases h1 : x.toInt < lo
  · exact aw_tblD hd (Or.inl h1) ht k
  by_cases h2 : hi < x.toInt
  · exact aw_tblD hd (Or.inr h2) ht k
  have hk : (x.toInt - lo).toNat < offs.size := by omega
  rcases hcov _ hk with hc | hc
  · exact aw_tbl hd h1 h2 hc ht k
  · exact absurd (by rw [show lo + (((x.toInt - lo).toNat : Nat) : Int) = x.toInt by omega]; exact (Int32.ofInt_toInt x).symm) hc
theorem toInt_inj_lit {x y : Int32} {j : Int} (q : x.toInt = j) (hy : y.toInt = j) : x = y := Int32.toInt_inj.mp (q.trans hy.symm)
def allNe (j : Int) : List (Int × Int) → Prop
  | [] => True
  | p :: ps => j ≠ p.1 ∧ allNe j ps
theorem lks_d (d j : Int) : ∀ (ps : List (Int × Int)), allNe j ps → Op.lookupswitch.offset ps d j = d
  | [], _ => rfl
  | (a, o) :: ps, hh => by
    rw [Op.lookupswitch.offset_cons, if_neg (fun q => hh.1 q.symm)]
    exact lks_d d j ps hh.2
theorem aw_lksX {x : Int32} {d : Int} {ps : Array (Int × Int)} {len tgt : Nat} (hd : decode K.2.1 pc = .ok (.lookupswitch d ps, len)) (hp : (ps.toList.zip (ps.toList.drop 1)).all (fun (a, next) => a.1 < next.1) = true) (hne : allNe x.toInt ps.toList) (ht : (pc : Int) + d = (tgt : Int)) (k : AW Y n K tgt lv st h o r) : AW Y n K pc lv (.int x :: st) h o r :=
  aw_lks hd hp (lks_d d x.toInt ps.toList hne) ht k
theorem aw_mmax {x y : Int32} {idx : Nat} (hd : decode K.2.1 pc = .ok (.invokestatic idx, 3)) (hw : Cond.methodLink K.1.cls idx Lib.Math.max.name ∈ lw_gd) (w1 : Cond.static Lib.Math.max.name ∈ lw_gd) (w2 : Cond.initialized "java/lang/Math" ∈ lw_gd) (w3 : Cond.code Lib.Math.max.name Lib.Math.max.code 2 (some .int) ∈ lw_gd) (hn : 1 ≤ n) (hst : (st.map fun v => v.category).sum ≤ 8) (k : AW Y n K (pc + 3) lv (.int (if x < y then y else x) :: st) h o r) : AW Y n K pc lv (.int y :: .int x :: st) h o r := by
  intro v hv p l e s m args below meth c C H locs ls hP hD hS hT hl
  have T := C.2.2.2.2.1
  refine va_mmax C.1 C.2.1 (by rw [C.2.2.1]; exact hl.1.symm) C.2.2.2.1 (wd_use T hw) (wd_use T w1) (wd_use T w2) (wd_use T w3) hn ?_ (Nat.le_refl _) (Nat.le_refl _) hd (k v hv p l e s m args below meth c C H locs ls hP hD hS hT hl)
  show _ + 13 ≤ 120 * n
  omega
theorem aw_mmin {x y : Int32} {idx : Nat} (hd : decode K.2.1 pc = .ok (.invokestatic idx, 3)) (hw : Cond.methodLink K.1.cls idx Lib.Math.min.name ∈ lw_gd) (w1 : Cond.static Lib.Math.min.name ∈ lw_gd) (w2 : Cond.initialized "java/lang/Math" ∈ lw_gd) (w3 : Cond.code Lib.Math.min.name Lib.Math.min.code 2 (some .int) ∈ lw_gd) (hn : 1 ≤ n) (hst : (st.map fun v => v.category).sum ≤ 8) (k : AW Y n K (pc + 3) lv (.int (if y < x then y else x) :: st) h o r) : AW Y n K pc lv (.int y :: .int x :: st) h o r := by
  intro v hv p l e s m args below meth c C H locs ls hP hD hS hT hl
  have T := C.2.2.2.2.1
  refine va_mmin C.1 C.2.1 (by rw [C.2.2.1]; exact hl.1.symm) C.2.2.2.1 (wd_use T hw) (wd_use T w1) (wd_use T w2) (wd_use T w3) hn ?_ (Nat.le_refl _) (Nat.le_refl _) hd (k v hv p l e s m args below meth c C H locs ls hP hD hS hT hl)
  show _ + 13 ≤ 120 * n
  omega
theorem aw_mmaxl {x y : Int64} {idx : Nat} (hd : decode K.2.1 pc = .ok (.invokestatic idx, 3)) (hw : Cond.methodLink K.1.cls idx Lib.MathLoose.max_long.x ∈ lw_gd) (w1 : Cond.static Lib.MathLoose.max_long.x ∈ lw_gd) (w2 : Cond.initialized "java/lang/Math" ∈ lw_gd) (w3 : Cond.code Lib.MathLoose.max_long.x Lib.MathLoose.max_long.code 4 (some .long) ∈ lw_gd) (hn : 1 ≤ n) (hst : (st.map fun v => v.category).sum ≤ 8) (k : AW Y n K (pc + 3) lv (.long (if y < x then x else y) :: st) h o r) : AW Y n K pc lv (.long y :: .long x :: st) h o r := by
  intro v hv p l e s m args below meth c C H locs ls hP hD hS hT hl
  have T := C.2.2.2.2.1
  refine va_mmax_long C.1 C.2.1 (by rw [C.2.2.1]; exact hl.1.symm) C.2.2.2.1 (wd_use T hw) (wd_use T w1) (wd_use T w2) (wd_use T w3) hn ?_ (Nat.le_refl _) (Nat.le_refl _) hd (k v hv p l e s m args below meth c C H locs ls hP hD hS hT hl)
  show _ + 15 ≤ 120 * n
  omega
theorem aw_mabsl {x : Int64} {idx : Nat} (hd : decode K.2.1 pc = .ok (.invokestatic idx, 3)) (hw : Cond.methodLink K.1.cls idx Lib.MathLoose.abs_long.x ∈ lw_gd) (w1 : Cond.static Lib.MathLoose.abs_long.x ∈ lw_gd) (w2 : Cond.initialized "java/lang/Math" ∈ lw_gd) (w3 : Cond.code Lib.MathLoose.abs_long.x Lib.MathLoose.abs_long.code 2 (some .long) ∈ lw_gd) (hn : 1 ≤ n) (hst : (st.map fun v => v.category).sum ≤ 8) (k : AW Y n K (pc + 3) lv (.long (if 0 < x then x else -x) :: st) h o r) : AW Y n K pc lv (.long x :: st) h o r := by
  intro v hv p l e s m args below meth c C H locs ls hP hD hS hT hl
  have T := C.2.2.2.2.1
  refine va_mabs_long C.1 C.2.1 (by rw [C.2.2.1]; exact hl.1.symm) C.2.2.2.1 (wd_use T hw) (wd_use T w1) (wd_use T w2) (wd_use T w3) hn ?_ (Nat.le_refl _) (Nat.le_refl _) hd (k v hv p l e s m args below meth c C H locs ls hP hD hS hT hl)
  show _ + 13 ≤ 120 * n
  omega
end AWM
