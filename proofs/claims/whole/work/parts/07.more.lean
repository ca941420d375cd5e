/-! ===== naming of heaps, switches ===== -/
def FU : Nat := 4000000
def letH {α : Type} (h : Hp) (k : Hp → Option α) : Option α := k h
section AWM
variable {Y : Ly} {n : Nat} {K : Mk} {pc : Nat} {lv lv' : List (Nat × Value)} {st : List Value} {h : Hp} {α : Type} {o o1 o2 : Option α} {r : α → Option Value × Hp}
theorem aw_letH {Kt : Hp → Option α} (k : ∀ h1 : Hp, AW Y n K pc lv st h1 (Kt h1) r) : AW Y n K pc lv st h (letH h Kt) r := k h
theorem aw_tblX {x : Int32} {d lo hi : Int} {offs : Array Int} {len tgt : Nat} (hd : decode K.2.1 pc = .ok (.tableswitch d lo hi offs, len)) (hcov : ∀ k : Nat, k < offs.size → offs[k]? = some d ∨ x ≠ Int32.ofInt (lo + (k : Int))) (hsz : (offs.size : Int) = hi - lo + 1) (ht : (pc : Int) + d = (tgt : Int)) (k : AW Y n K tgt lv st h o r) : AW Y n K pc lv (.int x :: st) h o r := by
  by_cases h1 : x.toInt < lo
  · exact aw_tblD hd (Or.inl h1) ht k
  by_cases h2 : hi < x.toInt
  · exact aw_tblD hd (Or.inr h2) ht k
  have hk : (x.toInt - lo).toNat < offs.size := by omega
  rcases hcov _ hk with hc | hc
  · exact aw_tbl hd h1 h2 hc ht k
  · exact absurd (by rw [show lo + (((x.toInt - lo).toNat : Nat) : Int) = x.toInt by omega]; exact (Int32.ofInt_toInt x).symm) hc
theorem toInt_inj_lit {x y : Int32} {j : Int} (q : x.toInt = j) (hy : y.toInt = j) : x = y := Int32.toInt_inj.mp (q.trans hy.symm)
def allNe (j : Int) : List (Int × Int) → Prop
  | [] => True
  | p :: ps => j ≠ p.1 ∧ allNe j ps
theorem lks_d (d j : Int) : ∀ (ps : List (Int × Int)), allNe j ps → Op.lookupswitch.offset ps d j = d
  | [], _ => rfl
  | (a, o) :: ps, hh => by
    rw [Op.lookupswitch.offset_cons, if_neg (fun q => hh.1 q.symm)]
    exact lks_d d j ps hh.2
theorem aw_lksX {x : Int32} {d : Int} {ps : Array (Int × Int)} {len tgt : Nat} (hd : decode K.2.1 pc = .ok (.lookupswitch d ps, len)) (hp : (ps.toList.zip (ps.toList.drop 1)).all (fun (a, next) => a.1 < next.1) = true) (hne : allNe x.toInt ps.toList) (ht : (pc : Int) + d = (tgt : Int)) (k : AW Y n K tgt lv st h o r) : AW Y n K pc lv (.int x :: st) h o r :=
  aw_lks hd hp (lks_d d x.toInt ps.toList hne) ht k
end AWM
