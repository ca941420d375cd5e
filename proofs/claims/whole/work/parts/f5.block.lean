/-! ===== a row of made cells as a layout and a heap ===== -/
def adr : Nat → Nat → List Nat
  | _, 0 => []
  | a, n + 1 => a :: adr (a + 1) n
theorem mem_adr : ∀ (n a x : Nat), x ∈ adr a n ↔ a ≤ x ∧ x < a + n
  | 0, a, x => by
    constructor
    · intro h; cases h
    · intro h; omega
  | n + 1, a, x => by
    show x ∈ a :: adr (a + 1) n ↔ _
    rw [List.mem_cons, mem_adr n (a + 1) x]
    omega
theorem pl_adr (e : Nat → va_E) : ∀ (n a k : Nat) (q : Nat × va_E), (va_pl (adr a n) e)[k]? = some q → q = (a + k, e (a + k)) ∧ k < n
  | 0, a, k, q, h => by simp [adr, va_pl] at h
  | n + 1, a, 0, q, h => by
    have h : some (a, e a) = some q := h
    cases h
    exact ⟨rfl, by omega⟩
  | n + 1, a, k + 1, q, h => by
    obtain ⟨h1, h2⟩ := pl_adr e n (a + 1) k q h
    rw [show a + 1 + k = a + (k + 1) by omega] at h1
    exact ⟨h1, by omega⟩
def cell (sp : List Sp) (i : Nat) : Sp := sp.getD i (99, 0, [])
def spY (G : Gm) (a : Nat) (sp : List Sp) : Ly := (adr a sp.length, fun x => (cell sp (x - a)).1, fun x => (cell sp (x - a)).2.1, G.1, G.2)
def spH (a : Nat) (sp : List Sp) : Hp := (fun f x => Int32.ofInt ((cell sp (x - a)).2.2.getD (f % 100) 0), fun f x => Int64.ofInt ((cell sp (x - a)).2.2.getD (f % 100) 0), fun f x => a + ((cell sp (x - a)).2.2.getD (f % 100) 0).toNat, fun x i => Int32.ofInt ((cell sp (x - a)).2.2.getD i 0), fun x i => Int64.ofInt ((cell sp (x - a)).2.2.getD i 0), fun x i => a + ((cell sp (x - a)).2.2.getD i (-1)).toNat)
/-- the cell that a field's reference, or a row's, stands for -/
def tg (sp : List Sp) (i j : Nat) : Nat := ((cell sp i).2.2.getD j 0).toNat
section SPB
variable {G : Gm} {a : Nat} {sp : List Sp}
theorem sp_gi (f i : Nat) : hGi (spH a sp) f (a + i) = Int32.ofInt ((cell sp i).2.2.getD (f % 100) 0) := by
  show Int32.ofInt ((cell sp (a + i - a)).2.2.getD (f % 100) 0) = _
  rw [Nat.add_sub_cancel_left]
theorem sp_gl (f i : Nat) : hGl (spH a sp) f (a + i) = Int64.ofInt ((cell sp i).2.2.getD (f % 100) 0) := by
  show Int64.ofInt ((cell sp (a + i - a)).2.2.getD (f % 100) 0) = _
  rw [Nat.add_sub_cancel_left]
theorem sp_gr (f i : Nat) : hGr (spH a sp) f (a + i) = a + tg sp i (f % 100) := by
  show a + ((cell sp (a + i - a)).2.2.getD (f % 100) 0).toNat = _
  rw [Nat.add_sub_cancel_left]
  rfl
theorem sp_ai (i j : Nat) : hAi (spH a sp) (a + i) j = Int32.ofInt ((cell sp i).2.2.getD j 0) := by
  show Int32.ofInt ((cell sp (a + i - a)).2.2.getD j 0) = _
  rw [Nat.add_sub_cancel_left]
theorem sp_al (i j : Nat) : hAl (spH a sp) (a + i) j = Int64.ofInt ((cell sp i).2.2.getD j 0) := by
  show Int64.ofInt ((cell sp (a + i - a)).2.2.getD j 0) = _
  rw [Nat.add_sub_cancel_left]
theorem sp_ar (i j : Nat) : hAr (spH a sp) (a + i) j = a + ((cell sp i).2.2.getD j (-1)).toNat := by
  show a + ((cell sp (a + i - a)).2.2.getD j (-1)).toNat = _
  rw [Nat.add_sub_cancel_left]
theorem sp_ln (i : Nat) : lnY (spY G a sp) (a + i) = (cell sp i).2.1 := by
  show (cell sp (a + i - a)).2.1 = _
  rw [Nat.add_sub_cancel_left]
theorem sp_o {k x : Nat} (h : isO (spY G a sp) k x) : ∃ i, i < sp.length ∧ x = a + i ∧ (cell sp i).1 = k := by
  obtain ⟨h1, h2⟩ := h
  have h1 := (mem_adr _ _ _).mp h1
  have h2 : (cell sp (x - a)).1 = k := h2
  exact ⟨x - a, by omega, by omega, h2⟩
theorem sp_oi {k i : Nat} (hi : i < sp.length) (hk : (cell sp i).1 = k) : isO (spY G a sp) k (a + i) := by
  refine ⟨(mem_adr _ _ _).mpr ⟨by omega, by omega⟩, ?_⟩
  show (cell sp (a + i - a)).1 = k
  rw [Nat.add_sub_cancel_left]
  exact hk
/-- the fields of an object: as many as the class has, no reference null -/
def okF : List Nat → List Int → Bool
  | [], [] => true
  | t :: T, v :: vs => (t < 2 || (0 ≤ v : Bool)) && okF T vs
  | _, _ => false
def okCl (s : Sp) : Bool := if s.1 < 13 then okF (ftab s.1) s.2.2 && decide ((ftab s.1).length ≤ 100) else if s.1 = 23 ∨ s.1 = 24 then decide (s.2.2.length = s.2.1) && s.2.2.all (fun v => decide (0 ≤ v)) else decide (s.1 = 20) || (decide (s.1 = 21) || decide (s.1 = 22))
theorem fvs_sp (ci i : Nat) (vals : List Int) (hv : (cell sp i).2.2 = vals) : ∀ (T : List Nat) (vs : List Int) (j : Nat), okF T vs = true → j + T.length ≤ 100 → (∀ k, vals.getD (j + k) 0 = vs.getD k 0) → fvs (spH a sp) (a + i) (100 * ci + j) T = List.zipWith (fvS a) T vs
  | [], [], _, _, _, _ => rfl
  | [], _ :: _, _, h, _, _ => by simp [okF] at h
  | _ :: _, [], _, h, _, _ => by simp [okF] at h
  | t :: T, v :: vs, j, h, hj, hk => by
    simp only [okF, Bool.and_eq_true] at h
    have hj : j + (T.length + 1) ≤ 100 := hj
    have h0 : vals.getD j 0 = v := hk 0
    have hm : (100 * ci + j) % 100 = j := by omega
    have hr := fvs_sp ci i vals hv T vs (j + 1) h.2 (by omega) (fun k => by
      have := hk (k + 1)
      rw [show j + (k + 1) = j + 1 + k by omega] at this
      exact this)
    show fv (spH a sp) (100 * ci + j) (a + i) t :: fvs (spH a sp) (a + i) (100 * ci + j + 1) T = fvS a t v :: List.zipWith (fvS a) T vs
    rw [show 100 * ci + j + 1 = 100 * ci + (j + 1) from rfl, hr]
    congr 1
    match t with
    | 0 =>
      show Value.int (hGi (spH a sp) (100 * ci + j) (a + i)) = Value.int (Int32.ofInt v)
      rw [sp_gi, hm, hv, h0]
    | 1 =>
      show Value.long (hGl (spH a sp) (100 * ci + j) (a + i)) = Value.long (Int64.ofInt v)
      rw [sp_gl, hm, hv, h0]
    | t + 2 =>
      have h1 : ¬ v < 0 := by
        have h2 := h.1
        simp at h2
        omega
      show Value.ref (hGr (spH a sp) (100 * ci + j) (a + i)) = (if v < 0 then Value.null else Value.ref (a + v.toNat))
      rw [if_neg h1, sp_gr, hm]
      unfold tg
      rw [hv, h0]
theorem cell_some {i : Nat} {s : Sp} (h : sp[i]? = some s) : cell sp i = s := by
  unfold cell
  rw [List.getD_eq_getElem?_getD, h]
  rfl
theorem enc_sp (i : Nat) {H : Heap} (h : okCl (cell sp i) = true) (hat : va_at G.1 cls_ (a + i, cE G a (cell sp i)) H) : va_at G.1 cls_ (a + i, enc (spY G a sp) (spH a sp) (a + i)) H := by
  have hk : (spY G a sp).2.1 (a + i) = (cell sp i).1 := by
    show (cell sp (a + i - a)).1 = _
    rw [Nat.add_sub_cancel_left]
  have hn : (spY G a sp).2.2.1 (a + i) = (cell sp i).2.1 := sp_ln (G := G) i
  have hq : hAi (spH a sp) (a + i) = (fun j => Int32.ofInt ((cell sp i).2.2.getD j 0)) := funext fun j => sp_ai i j
  have hl : hAl (spH a sp) (a + i) = (fun j => Int64.ofInt ((cell sp i).2.2.getD j 0)) := funext fun j => sp_al i j
  have hr : hAr (spH a sp) (a + i) = (fun j => a + ((cell sp i).2.2.getD j (-1)).toNat) := funext fun j => sp_ar i j
  have rows : ∀ cA : ClassId, ((cell sp i).2.2.length = (cell sp i).2.1 ∧ (cell sp i).2.2.all (fun v => decide (0 ≤ v)) = true) → H[a + i]? = some (arrV cA (cell sp i).2.1 (fun j => va_rf (rfS a ((cell sp i).2.2.getD j (-1))))) → H[a + i]? = some (arrV cA (cell sp i).2.1 (fun j => va_rf (some (a + ((cell sp i).2.2.getD j (-1)).toNat)))) := by
    intro cA hh h1
    rw [h1]
    refine congrArg some (arrV_eq _ _ fun j hj => ?_)
    have h2 : 0 ≤ (cell sp i).2.2.getD j (-1) := by
      rw [List.getD_eq_getElem?_getD, List.getElem?_eq_getElem (by omega)]
      have := List.all_eq_true.mp hh.2 _ (List.getElem_mem (l := (cell sp i).2.2) (n := j) (by omega))
      simpa using this
    unfold rfS
    rw [if_neg (by omega)]
  unfold okCl at h
  unfold cE at hat
  unfold enc
  rw [hk, hn, hq, hl, hr]
  by_cases h20 : (cell sp i).1 = 20
  · rw [if_pos h20] at hat ⊢
    exact hat
  rw [if_neg h20] at hat ⊢
  by_cases h21 : (cell sp i).1 = 21
  · rw [if_pos h21] at hat ⊢
    exact hat
  rw [if_neg h21] at hat ⊢
  by_cases h22 : (cell sp i).1 = 22
  · rw [if_pos h22] at hat ⊢
    exact hat
  rw [if_neg h22] at hat ⊢
  by_cases h13 : (cell sp i).1 < 13
  · rw [if_pos h13, Bool.and_eq_true] at h
    rw [if_neg (by omega), if_neg (by omega)] at hat ⊢
    have := fvs_sp (a := a) (cell sp i).1 i _ rfl (ftab (cell sp i).1) (cell sp i).2.2 0 h.1 (by have := of_decide_eq_true h.2; omega) (fun k => by rw [Nat.zero_add])
    rw [Nat.add_zero] at this
    rw [this]
    exact hat
  rw [if_neg h13] at h
  by_cases h23 : (cell sp i).1 = 23
  · rw [if_pos (Or.inl h23), Bool.and_eq_true] at h
    rw [if_pos h23] at hat ⊢
    exact rows _ ⟨of_decide_eq_true h.1, h.2⟩ hat
  rw [if_neg h23] at hat ⊢
  by_cases h24 : (cell sp i).1 = 24
  · rw [if_pos (Or.inr h24), Bool.and_eq_true] at h
    rw [if_pos h24] at hat ⊢
    exact rows _ ⟨of_decide_eq_true h.1, h.2⟩ hat
  · rw [if_neg (by omega)] at h
    simp [h20, h21, h22] at h
theorem sp_P {H : Heap} (h : sp.all okCl = true) (hP : va_P G.1 cls_ (zw G a a sp) H) : va_P (spY G a sp).2.2.2.1 cls_ (va_pl (spY G a sp).1 (enc (spY G a sp) (spH a sp))) H := by
  intro k q hk
  obtain ⟨rfl, hlt⟩ := pl_adr _ _ _ _ _ hk
  have hs : sp[k]? = some (cell sp k) := by
    rw [List.getElem?_eq_getElem hlt]
    unfold cell
    rw [List.getD_eq_getElem?_getD, List.getElem?_eq_getElem hlt]
    rfl
  refine enc_sp k (List.all_eq_true.mp h _ (List.mem_of_getElem? hs)) (hP k _ ?_)
  rw [zw_get, hs]
  rfl
theorem sp_D (h : Hp) : va_D (inY (spY G a sp)) (va_pl (spY G a sp).1 (enc (spY G a sp) h)) := by
  refine ⟨fun i j p q hi hj e => ?_, fun k q hk => ?_⟩
  · obtain ⟨rfl, -⟩ := pl_adr _ _ _ _ _ hi
    obtain ⟨rfl, -⟩ := pl_adr _ _ _ _ _ hj
    have e : a + i = a + j := e
    omega
  · obtain ⟨rfl, hlt⟩ := pl_adr _ _ _ _ _ hk
    exact (mem_adr _ _ _).mpr ⟨by omega, by show a + k < a + _; exact Nat.add_lt_add_left hlt a⟩
/-! the checks that a program does -/
def chTy (sp : List Sp) : Bool := (List.range sp.length).all fun i => decide (13 ≤ (cell sp i).1) || (List.range (ftab (cell sp i).1).length).all fun j =>
  (match rk (100 * (cell sp i).1 + j) with
   | none => true
   | some kt => decide (tg sp i j < sp.length) && decide ((cell sp (tg sp i j)).1 = kt)) && (!(zk (100 * (cell sp i).1 + j)) || (decide ((cell sp i).2.2.getD j 0 = 0) || decide ((cell sp i).2.2.getD j 0 = 1)))
def chRow (sp : List Sp) (k kt : Nat) : Bool := (List.range sp.length).all fun i => !(decide ((cell sp i).1 = k)) || (List.range (cell sp i).2.1).all fun j => decide (((cell sp i).2.2.getD j (-1)).toNat < sp.length) && decide ((cell sp ((cell sp i).2.2.getD j (-1)).toNat).1 = kt)
theorem rk_lt : ∀ k, k < 25 → ∀ j, j < 100 → (ftab k).length ≤ j → rk (100 * k + j) = none ∧ zk (100 * k + j) = false := by decide +kernel
theorem ftab_13 : ∀ k, k < 25 → 13 ≤ k → ftab k = [] := by decide +kernel
theorem kd_ok {i : Nat} (h : sp.all okCl = true) (hi : i < sp.length) : (cell sp i).1 < 25 := by
  have hs : sp[i]? = some (cell sp i) := by
    rw [List.getElem?_eq_getElem hi]
    unfold cell
    rw [List.getD_eq_getElem?_getD, List.getElem?_eq_getElem hi]
    rfl
  have := List.all_eq_true.mp h _ (List.mem_of_getElem? hs)
  unfold okCl at this
  by_cases h1 : (cell sp i).1 < 13
  · omega
  rw [if_neg h1] at this
  by_cases h2 : (cell sp i).1 = 23 ∨ (cell sp i).1 = 24
  · omega
  rw [if_neg h2] at this
  simp at this
  omega
theorem chTy_use (hc : sp.all okCl = true) (h : chTy sp = true) {f i : Nat} (hi : i < sp.length) (hf : (cell sp i).1 = f / 100) : (∀ kt, rk f = some kt → tg sp i (f % 100) < sp.length ∧ (cell sp (tg sp i (f % 100))).1 = kt) ∧ (zk f = true → (cell sp i).2.2.getD (f % 100) 0 = 0 ∨ (cell sp i).2.2.getD (f % 100) 0 = 1) := by
  have hk := kd_ok hc hi
  have he : f = 100 * (cell sp i).1 + f % 100 := by omega
  have hm : f % 100 < 100 := Nat.mod_lt _ (by decide)
  by_cases hj : (ftab (cell sp i).1).length ≤ f % 100
  · have hr := rk_lt _ hk _ hm hj
    rw [← he] at hr
    exact ⟨fun kt q => by rw [hr.1] at q; (cases q), fun q => by rw [hr.2] at q; cases q⟩
  · have h13 : ¬ 13 ≤ (cell sp i).1 := fun q => by
      rw [ftab_13 _ hk q] at hj
      exact hj (Nat.zero_le _)
    have h1 := List.all_eq_true.mp h i (List.mem_range.mpr hi)
    rw [decide_eq_false h13, Bool.false_or] at h1
    have h2 := List.all_eq_true.mp h1 (f % 100) (List.mem_range.mpr (by omega))
    rw [← he, Bool.and_eq_true] at h2
    refine ⟨fun kt q => ?_, fun q => ?_⟩
    · have h3 := h2.1
      rw [q] at h3
      simpa using h3
    · have h3 := h2.2
      rw [q] at h3
      simpa using h3
theorem chRow_use {k kt : Nat} (h : chRow sp k kt = true) {i j : Nat} (hi : i < sp.length) (hk : (cell sp i).1 = k) (hj : j < (cell sp i).2.1) : ((cell sp i).2.2.getD j (-1)).toNat < sp.length ∧ (cell sp ((cell sp i).2.2.getD j (-1)).toNat).1 = kt := by
  have h1 := List.all_eq_true.mp h i (List.mem_range.mpr hi)
  rw [decide_eq_true hk] at h1
  have h2 := List.all_eq_true.mp h1 j (List.mem_range.mpr hj)
  simpa using h2
theorem sp_Ty (hc : sp.all okCl = true) (h : chTy sp = true) (h3 : chRow sp 23 4 = true) (h4 : chRow sp 24 8 = true) : Ty (spY G a sp) (spH a sp) := by
  refine ⟨fun f kt hf x hx => ?_, fun f hf x hx => ?_, fun x hx j hj => ?_, fun x hx j hj => ?_⟩
  · obtain ⟨i, hi, rfl, hk⟩ := sp_o hx
    have := (chTy_use hc h hi hk).1 kt hf
    rw [sp_gr]
    exact sp_oi this.1 this.2
  · obtain ⟨i, hi, rfl, hk⟩ := sp_o hx
    have := (chTy_use hc h hi hk).2 hf
    rw [sp_gi]
    rcases this with e | e
    · rw [e]; exact Or.inl rfl
    · rw [e]; exact Or.inr rfl
  · obtain ⟨i, hi, rfl, hk⟩ := sp_o hx
    rw [sp_ln] at hj
    have := chRow_use h3 hi hk hj
    rw [sp_ar]
    exact sp_oi this.1 this.2
  · obtain ⟨i, hi, rfl, hk⟩ := sp_o hx
    rw [sp_ln] at hj
    have := chRow_use h4 hi hk hj
    rw [sp_ar]
    exact sp_oi this.1 this.2
end SPB
