/-! ===== shelf ===== -/
section SHL
variable {Yc Ym : Ly} {hc hm h h' : Hp} {x m s t n : Nat} {kw : Nat → Int64} {g : Sg} {P : Nat → Prop} {c : Nat → Int32} {w : Nat → Int64}
theorem em_all (S : CS Yc h x) (Tt : Ty Yc h) (os : isO Yc 4 s) : ∃ h', Sh_empty Yc s h = some h' ∧ Kg Yc (shP h s) h h' ∧ RF h' s c00 ∧ (∀ w, RN h' s c00 w) ∧ hGi h' 905 (hGr h 413 s) = 0 := by
  obtain ⟨g, a1, a2⟩ := em_1 S Tt os
  exact ⟨_, a1, em_K Tt os, em_RS a2, fun w => em_RN, em_0.2.2.2.2.2.2.1⟩
theorem sh4 (h : Hp) (x : Nat) : shA h x 4 = hGr h 1110 x := by unfold shA; rw [if_neg (by decide), if_pos rfl]
theorem off_shelf (R : CR Yc hc x kw g) (V : VG g) : offG Yc hc x g (fun a => shP hc (hGr hc 1110 x) a ∨ a = hGr hc 1102 x) := by
  have hx := R.1.1
  have T := R.2.1
  have k3 := V.1
  have os : isO Yc 4 (hGr hc 1110 x) := by rw [← sh4]; exact R.o4 (by decide)
  have ord : isO Yc 5 (hGr hc 1102 x) := T.1 1102 5 rfl x hx
  have kd : ∀ k a, isO Yc k a → k ≠ 3 → k ≠ 4 → k ≠ 5 → k ≠ 6 → k ≠ 9 → ¬ (shP hc (hGr hc 1110 x) a ∨ a = hGr hc 1102 x) := by
    intro k a ha k3 k4 k5 k6 k9
    rintro ((e | e | e | e | e) | e)
    · exact isO_ne ha os k4 e
    · exact isO_ne ha (T.1 400 6 rfl _ os) k6 e
    · exact isO_ne ha (T.1 401 3 rfl _ os) k3 e
    · exact isO_ne ha (T.1 402 3 rfl _ os) k3 e
    · exact isO_ne ha (T.1 413 9 rfl _ os) k9 e
    · exact isO_ne ha ord k5 e
  refine ⟨fun j hj => ?_, fun a ha => kd 8 a ha (by decide) (by decide) (by decide) (by decide) (by decide), kd 11 x hx (by decide) (by decide) (by decide) (by decide) (by decide), kd 7 _ R.o7 (by decide) (by decide) (by decide) (by decide) (by decide)⟩
  have oj := R.o4 (i := j) (by omega)
  have nsd : shA hc x j ≠ hGr hc 1110 x := by
    rw [← sh4]
    exact fun z => by have := R.2.2.1.1 j 4 (by omega) (by omega) z; omega
  have wj : wkA hc x j = hGr hc 413 (shA hc x j) := by unfold wkA; rw [if_neg (by omega)]
  have w4 : wkA hc x 4 = hGr hc 413 (hGr hc 1110 x) := by unfold wkA; rw [if_neg (by omega), sh4]
  have nwd : hGr hc 413 (shA hc x j) ≠ hGr hc 413 (hGr hc 1110 x) := by
    rw [← wj, ← w4]
    exact fun z => by have := R.2.2.1.2.1 j 4 (by omega) (by omega) z; omega
  obtain ⟨u0, u6, u1, u2, u9⟩ := shP_src R.1 T os oj nsd nwd
  rw [wj]
  have nr : ∀ {k : Nat} {a : Nat}, isO Yc k a → k ≠ 5 → ¬ shP hc (hGr hc 1110 x) a → ¬ (shP hc (hGr hc 1110 x) a ∨ a = hGr hc 1102 x) := fun ha hk np z => z.elim np (fun e => isO_ne ha ord hk e)
  exact ⟨nr oj (by decide) u0, nr (T.1 400 6 rfl _ oj) (by decide) u6, nr (T.1 401 3 rfl _ oj) (by decide) u1, nr (T.1 402 3 rfl _ oj) (by decide) u2, nr (T.1 413 9 rfl _ oj) (by decide) u9⟩
theorem mem2 (S : MS Ym h m) : (if inB 2 (lnY Ym (hGr h 1220 m)) = true then some (hAi h (hGr h 1220 m) (Int32.toNatClampNeg 2), h) else none) = some (hAi h (hGr h 1220 m) 2, h) := by
  rw [ml1220 S, if_pos (by decide)]
  rfl
theorem tx_by (V : VG g) {n : Nat} (hn : n ≤ sTl g) {i : Nat} (hi : i < n) : byO (sTp g i) := V.2.2.2.1 i (by omega)
theorem wq_ok (g : Sg) (tp : Nat → Int32) (a b : Int32) (c : Nat → Int32) (w : Nat → Int64) : wSh (wFt (wTp (wSt g (nI 0)) 0 tp) a b) c w = wSt (wSh (wFt (wTp g 0 tp) a b) c w) 0 := by
  obtain ⟨g1, g2, g3, g4, g5, g6, g7, g8, g9, g10, g11, g12, g13, g14⟩ := g
  rfl
theorem wq_bad (g : Sg) (tp : Nat → Int32) (a b v : Int32) : wSt (wFt (wTp (wSt g (nI 0)) 0 tp) a b) v = wSt (wFt (wTp g 0 tp) a b) v := by
  obtain ⟨g1, g2, g3, g4, g5, g6, g7, g8, g9, g10, g11, g12, g13, g14⟩ := g
  rfl
def ftH (h : Hp) (x : Nat) (a b : Int32) : Hp := hSi (hSi h 1115 x a) 1116 x b
theorem ft_gi {f y : Nat} {a b : Int32} (hf : f < 1115) : hGi (ftH h x a b) f y = hGi h f y := by
  unfold ftH
  rw [gi_si, if_neg (by omega), gi_si, if_neg (by omega)]
theorem ft_gr {f y : Nat} {a b : Int32} : hGr (ftH h x a b) f y = hGr h f y := rfl
theorem kf_t : LP_keepFault Yc x true h = some (ftH h x 0 (-1)) := by
  unfold LP_keepFault LP_keepFault_J16 ftH
  rw [if_pos rfl, letH_e, if_pos rfl, letH_e]
theorem kf_f {k a : Nat} (F : FL h (hGr h 1101 x) k a) : LP_keepFault Yc x false h = some (ftH h x (nI k) (nI a)) := by
  have q : hGi (hSi h 1115 x (nI k)) 712 (hGr (hSi h 1115 x (nI k)) 1101 x) = nI a := by
    rw [gi_si, if_neg (by omega), gr_si]
    exact F.2
  unfold LP_keepFault LP_keepFault_J16 ftH
  rw [if_neg bff, letH_e, if_neg bff, F.1, q, letH_e]
theorem ft_rs {a b : Int32} (R : RS h s c) : RS (ftH h x a b) s c := by
  refine RS_same (h := h) ⟨fun f y hf => ft_gi ?_, fun f y hf => rfl, fun i => rfl, fun i => rfl, fun i => rfl, fun i => rfl, fun f i _ _ => rfl, fun f i _ _ => ⟨rfl, rfl⟩⟩ R
  simp only [rsF, Bool.or_eq_true, beq_iff_eq] at hf
  omega
theorem ft_rn {a b : Int32} (R : RN h s c w) : RN (ftH h x a b) s c w := RN_eq (h := h) R (ft_gi (by decide)) (fun i => rfl) (fun i => rfl) (fun i => rfl)
theorem sw_15 : hGi (swH h x) 415 (hGr (swH h x) 1109 x) = hGi h 415 (hGr h 1110 x) := by
  have g9 : hGr (swH h x) 1109 x = hGr h 1110 x := by unfold swH; rw [gr_sr, if_neg (by omega), gr_sr, if_pos ⟨rfl, rfl⟩]
  rw [g9]
  rfl
/-- the class's end: the shelf taken -/
theorem sh_c1 (R1 : CR Yc h x kw g) (V1 : VG g) (q1 : RS h (hGr h 1110 x) c) (q2 : RN h (hGr h 1110 x) c w) (q3 : hGi h 905 (hGr h 413 (hGr h 1110 x)) = 0) (G : GB c w) :
    ∃ h', ((LP_keepFault Yc x true h).bind fun q9 => if true = true then letH (hSr q9 1109 x (hGr q9 1110 x)) fun h13 => letH (hSr h13 1110 x (hGr q9 1109 x)) fun h14 => (LP_give Yc x (hGi h14 415 (hGr h14 1109 x)) h14).bind fun q16 => some (q16.1, q16.2) else (LP_fail Yc x 10 q9).bind fun q17 => some (q17.1, q17.2)) = some (c 2, h') ∧ CR Yc h' x kw (wSt (wSh (wFt g 0 (-1)) c w) 0) := by
  have R2 : CR Yc (ftH h x 0 (-1)) x kw (wFt g 0 (-1)) := CR_ft R1 0 (-1)
  have V2 := VG_ft (a := 0) (b := -1) V1
  have a1 : RS (ftH h x 0 (-1)) (shA (ftH h x 0 (-1)) x 4) c := by rw [sh4, ft_gr]; exact ft_rs q1
  have a2 : RN (ftH h x 0 (-1)) (shA (ftH h x 0 (-1)) x 4) c w := by rw [sh4, ft_gr]; exact ft_rn q2
  have e4 : wkA (ftH h x 0 (-1)) x 4 = hGr h 413 (hGr h 1110 x) := by
    unfold wkA
    rw [if_neg (by decide), sh4, ft_gr, ft_gr]
  have a3 : RW (ftH h x 0 (-1)) (wkA (ftH h x 0 (-1)) x 4) c := by
    rw [e4]
    exact Or.inl ⟨G.2.2.1, (ft_gi (by decide)).trans q3⟩
  have R3 := CR_sw R2 V2 a1 a2 a3
  have R4 := CR_C R3 (VG_sh V2 G.1 G.2.1) (Cf_si (x := x) (v := 0))
  rw [gi_si, if_pos ⟨rfl, rfl⟩] at R4
  have e15 : hGi (swH (ftH h x 0 (-1)) x) 415 (hGr (swH (ftH h x 0 (-1)) x) 1109 x) = c 2 := by
    rw [sw_15, ft_gr, ft_gi (by decide)]
    exact q1.1.2.2.1
  refine ⟨_, ?_, R4⟩
  rw [kf_t, bind_s, if_pos rfl, letH_e, letH_e, show hSr (hSr (ftH h x 0 (-1)) 1109 x (hGr (ftH h x 0 (-1)) 1110 x)) 1110 x (hGr (ftH h x 0 (-1)) 1109 x) = swH (ftH h x 0 (-1)) x from rfl, e15]
  rfl
theorem sh_c2 (R1 : CR Yc h x kw g) (V1 : VG g) {k a : Nat} (F : FL h (hGr h 1101 x) k a) : ∃ q9, LP_keepFault Yc x false h = some q9 ∧ CR Yc (hSi q9 1112 x 10) x kw (wSt (wFt g (nI k) (nI a)) 10) := by
  have R2 : CR Yc (ftH h x (nI k) (nI a)) x kw (wFt g (nI k) (nI a)) := CR_ft R1 (nI k) (nI a)
  have R4 := CR_C R2 (VG_ft (a := nI k) (b := nI a) V1) (Cf_si (x := x) (v := 10))
  rw [gi_si, if_pos ⟨rfl, rfl⟩] at R4
  exact ⟨_, kf_f F, R4⟩
theorem sh_m1 (R : MR Ym h m g) (V : VG g) (z : hGi h 1212 m = 0) (b4 : ∀ i, i < 576 → hAi h (hGr h 1220 m) (2304 + i) = c i) (w4 : ∀ i, i < 56 → hAl h (hGr h 1222 m) (224 + i) = w i) : ∃ h', M_shelf_J59 Ym m h = some (c 2, h') ∧ MR Ym h' m (wSh (wFt g 0 (-1)) c w) := by
  have N2 := MR_ft R 0 (-1)
  obtain ⟨hz, z1, z2, z3⟩ := MR_cp (c := c) (w := w) N2 (VG_ft V) b4 w4
  unfold M_shelf_J59
  rw [isWell_t z, bind_s, if_pos rfl, z1, bind_s, mem2 z3]
  refine ⟨hz, ?_, z2⟩
  have := (z2.2.2.1 0 (Nat.zero_le _)).1 2 (by decide)
  rw [show 576 * 0 + 2 = 2 from rfl] at this
  rw [this]
  rfl
theorem well_2 (R : MR Ym h m g) {k a : Nat} (B : BF h m k a) : ∃ h', M_isWell Ym m h = some (false, h') ∧ MR Ym h' m (wSt (wFt g (nI k) (nI a)) 10) := by
  have N3 := MR_M (MR_ft R (nI k) (nI a)) (Mf_0 (Y := Ym) (m := m) (a := m) (v := 10))
  rw [gi_si, if_pos ⟨rfl, rfl⟩] at N3
  exact ⟨_, isWell_f B, N3⟩
theorem sh_m2 (R : MR Ym h m g) {k a : Nat} (B : BF h m k a) : ∃ h', M_shelf_J59 Ym m h = some (-1, h') ∧ MR Ym h' m (wSt (wFt g (nI k) (nI a)) 10) := by
  obtain ⟨h', e1, R'⟩ := well_2 R B
  unfold M_shelf_J59
  rw [e1, bind_s, if_neg bff]
  exact ⟨h', rfl, R'⟩
theorem so_shelf (J : JJ Yc Ym hc x hm m kw) (hkw : ∀ i, i < 31 → kw i = lN (KW i)) (v : Int32) : SO Yc Ym x m kw (LP_shelf Yc x v hc) (M_shelf Ym m v hm) := by
  obtain ⟨g, RC, RM, V⟩ := J
  have R0 := MR_M RM (mst_f (Y := Ym) (h := hm) (m := m))
  rw [mst_0] at R0
  have hl := V.2.2.1
  have e7 : hGi hc 702 (hGr hc 1101 x) = nI (sTl g) := RC.2.2.2.2.1.1
  have e8 : hGi (mst hm m) 1208 m = nI (sTl g) := R0.2.2.2.2.1.1
  unfold LP_shelf M_shelf M_starts
  rw [letH_e, letH_e, show hSi (hSi hm 1201 m 0) 1200 m 0 = mst hm m from rfl, e7, e8]
  have no5 : ((M_no Ym m 5 (mst hm m)).bind fun q2 => some (q2.1, q2.2)) = some (false, hSi (mst hm m) 1200 m 5) := rfl
  have mq5 : mQ Ym m hm (some ((-1 : Int32), hSi (mst hm m) 1200 m 5)) m1 5 := ⟨_, rfl, Mf_tr mst_f Mf_0, by rw [gi_si, if_pos ⟨rfl, rfl⟩]⟩
  by_cases n0 : v < 0
  · rw [if_pos n0, if_pos n0, no5, bind_s, if_neg bff]
    exact SO_q RC RM V (CQ_fail (Cf_rf Yc hc)) mq5
  rcases pk_ix v (n := sTl g + 1) (by omega) with q | q | ⟨k, hk, rfl⟩
  · exact absurd q n0
  · have h1 : nI (sTl g) < v := by rw [Int32.lt_iff_toInt_lt, nI_toInt (by omega)]; rw [Int32.le_iff_toInt_le, nI_toInt (by omega)] at q; omega
    have h2 : ¬ v ≤ nI (sTl g) := by rw [Int32.le_iff_toInt_le]; rw [Int32.lt_iff_toInt_lt] at h1; omega
    rw [if_neg n0, if_neg n0, if_neg h2, if_pos h1, no5, bind_s, if_neg bff]
    exact SO_q RC RM V (CQ_fail (Cf_rf Yc hc)) mq5
  have hx := RC.1.1
  have S := RC.1
  have Tt := RC.2.1
  have k9 : k ≤ 900 := by omega
  have os : isO Yc 4 (hGr hc 1110 x) := by rw [← sh4]; exact RC.o4 (by decide)
  have ot := RC.o7
  have ord : isO Yc 5 (hGr hc 1102 x) := Tt.1 1102 5 rfl x hx
  have OF := off_shelf RC V
  have nt : ¬ shP hc (hGr hc 1110 x) (hGr hc 1101 x) := fun z => OF.2.2.2 (Or.inl z)
  obtain ⟨h1, a1, K1, rs1, rn1, w1⟩ := em_all S Tt os
  have g1 : ∀ f a, hGr h1 f a = hGr hc f a := K1.2.2.1
  have S1 := Kg_cs K1 S
  have T1 : Ty Yc h1 := K1.2.2.2.2.2 Tt
  have a7 := Kg_ai K1 S nt (f := 700) rfl ot
  have a71 := Kg_ai K1 S nt (f := 701) rfl ot
  obtain ⟨h2, b1, b2, b3, b4, b5, b6⟩ := begin_s (T := sTp g) (n := k) S1 ot k9 (fun i hi => ⟨by rw [g1, a7.1]; exact RC.2.2.2.2.1.2 i (by omega), tx_by V (by omega) hi⟩) (fun i hi => by rw [g1, a71.2]; exact (RC.2.2.2.2.2.2.2 i hi).trans (hkw i hi))
  have g2 : ∀ f a, hGr h2 f a = hGr h1 f a := fun f a => by unfold hGr; rw [b4]
  have ai2 : hAi h2 = hAi h1 := by funext f a; unfold hAi; rw [b4]
  have al2 : hAl h2 = hAl h1 := by funext f a; unfold hAl; rw [b4]
  obtain ⟨k1, d1, d2, d3, d4⟩ := m_begin (T := sTp g) (n := k) R0.1 k9 (fun i hi => ⟨R0.2.2.2.2.1.2 i (by have : sTl (wSt g (nI 0)) = sTl g := rfl; omega), tx_by V (by omega) hi⟩)
  have Sk : MS Ym k1 m := MS_congr (h := mst hm m) R0.1 (fun f => d2.gr f m)
  obtain ⟨k2, w0, f1, M⟩ := PM_start Sk d2 d3 d4
  have C : PC Yc x (hGr hc 1101 x) (hGr hc 1110 x) k (sTp g) (fun a => shR hc (hGr hc 1110 x) a ∨ a = hGr hc 1102 x) (hSi h1 702 (hGr hc 1101 x) 0) h2 0 c00 c00 w0 := by
    refine ⟨b3 _, CS_congr S1 (fun f a _ => g2 f a), (b3 (fun _ => False)).2.2.2.2.2 (Ty_si T1 (Or.inl rfl)), b2, RF_same (h := h1) ⟨fun f a hf => b5 f a ?_, fun f a _ => g2 f a, fun i => by rw [ai2], fun i => by rw [ai2], fun i => by rw [ai2], fun i => by rw [ai2], fun f i _ _ => by rw [ai2], fun f i _ _ => ⟨by rw [ai2], by rw [ai2]⟩⟩ rs1, RN_eq (h := h1) (rn1 w0) (b5 414 _ (by omega)) (fun i => by rw [g2, al2]) (fun i => by rw [g2, ai2]) (fun i => by rw [g2, ai2])⟩
    simp only [rsF, Bool.or_eq_true, beq_iff_eq] at hf
    omega
  have hP : ∀ a, shR (hSi h1 702 (hGr hc 1101 x) 0) (hGr hc 1110 x) a → (shR hc (hGr hc 1110 x) a ∨ a = hGr hc 1102 x) := by
    intro a ha
    refine Or.inl ?_
    unfold shR at ha ⊢
    simp only [gr_si, g1] at ha
    exact ha
  have KW0 : Kw Yc (fun a => shP hc (hGr hc 1110 x) a ∨ a = hGr hc 1102 x) (hGr hc 1101 x) hc (hSi h1 702 (hGr hc 1101 x) 0) := Kw_tr (Kw_mo (Kw_g K1) (fun a z => Or.inl z)) (Kw_si rfl)
  have pq : ∀ a, (shR hc (hGr hc 1110 x) a ∨ a = hGr hc 1102 x) → (shP hc (hGr hc 1110 x) a ∨ a = hGr hc 1102 x) := by
    rintro a ((e | e | e | e | e) | e)
    · exact Or.inl (Or.inl e)
    · exact Or.inl (Or.inr (Or.inl e))
    · exact Or.inl (Or.inr (Or.inr (Or.inl e)))
    · exact Or.inl (Or.inr (Or.inr (Or.inr (Or.inl e))))
    · exact Or.inl (Or.inr (Or.inr (Or.inr (Or.inl e))))
    · exact Or.inr e
  have aft : ∀ {h3 : Hp}, Kp Yc (fun a => shR hc (hGr hc 1110 x) a ∨ a = hGr hc 1102 x) (hGr hc 1101 x) (hSi h1 702 (hGr hc 1101 x) 0) h3 → CR Yc h3 x kw (wTp g 0 (sTp g)) := by
    intro h3 K
    refine CR_kp RC V OF (Kw_tr KW0 (Kw_mo (Kw_p K) pq)) ?_
    rw [K.1 702 _ (fun z => OF.2.2.2 (pq _ z)) (fun z => by omega), gi_si, if_pos ⟨rfl, rfl⟩]
    rfl
  have FUn : FU = 4000000 := rfl
  have E := r_parts (Yc := Yc) (Ym := Ym) (x := x) (hc0 := hSi h1 702 (hGr hc 1101 x) 0) (hm0 := mbH (mst hm m) m k) os ot ord (Or.inr rfl) hP k9 FU 0 FU 0 (Nat.le_refl _) (by omega) (by omega) h2 k2 c00 w0 C M (GB_00 w0)
  rw [if_neg n0, if_neg n0, if_pos (nI_le (by omega) (by omega)), if_neg (show ¬ nI (sTl g) < nI k from fun z => by have := (nI_ltI (a := sTl g) (b := k) (by omega) (by omega)).mp z; omega), if_pos (show nI k ≤ 900 from nI_le (b := 900) k9 (by omega)), letH_e, letH_e, letH_e, letH_e, show M_advance Ym m (hSi (hSi (hSi (hSi (mst hm m) 1209 m (nI k)) 1208 m 0) 1216 m 0) 1212 m 0) = some k1 from d1, bind_s, bind_s, if_pos rfl, f1, bind_s]
  unfold SR_readShelf
  rw [a1, bind_s, b1, bind_s]
  rcases E with ⟨hc', hm', p, c, w, e1, e2, C', M', G'⟩ | ⟨hc', hm', kk, aa, e1, e2, F, F'⟩
  · have e1' : SR_readShelf_L12 Yc (hGr hc 1102 x) (hGr hc 1101 x) (hGr hc 1110 x) FU 0 h2 = some (true, hc') := e1
    have r10 : hGr hc' 1110 x = hGr hc 1110 x := (C'.1.2.2.1 1110 x).trans (g1 1110 x)
    have r13 : hGr hc' 413 (hGr hc 1110 x) = hGr hc 413 (hGr hc 1110 x) := (C'.1.2.2.1 413 _).trans (g1 413 _)
    have wq : hGi hc' 905 (hGr hc 413 (hGr hc 1110 x)) = 0 := by
      have o9 := Tt.1 413 9 rfl _ os
      rw [C'.1.1 905 _ ?_ (fun z => isO_ne o9 ot (by decide) z.1), gi_si, if_neg (by omega)]
      · exact w1
      · rintro ((e | e | e | e | e) | e)
        · exact isO_ne o9 os (by decide) e
        · exact isO_ne o9 (Tt.1 400 6 rfl _ os) (by decide) e
        · exact isO_ne o9 (Tt.1 401 3 rfl _ os) (by decide) e
        · exact isO_ne o9 (Tt.1 402 3 rfl _ os) (by decide) e
        · exact isO_ne o9 (Tt.1 402 3 rfl _ os) (by decide) e
        · exact isO_ne o9 ord (by decide) e
    obtain ⟨hz, z1, z2⟩ := sh_c1 (aft C'.1) (VG_tp V) (by rw [r10]; exact C'.2.2.2.2.1.w) (by rw [r10]; exact C'.2.2.2.2.2) (by rw [r10, r13]; exact wq) G'
    obtain ⟨mz, y1, y2⟩ := sh_m1 (MR_mp (MR_tp (n := k) (tp := sTp g) R0) (VG_tp V) M'.1) (VG_tp V) M'.2.2.2.1 M'.2.2.2.2.1 M'.2.2.2.2.2
    rw [wq_ok] at y2
    rw [e1', bind_s, z1, e2, y1]
    exact ⟨c 2, hz, mz, rfl, rfl, _, z2, y2, VG_st (VG_sh (VG_ft (VG_tp V)) G'.1 G'.2.1)⟩
  · have e1' : SR_readShelf_L12 Yc (hGr hc 1102 x) (hGr hc 1101 x) (hGr hc 1110 x) FU 0 h2 = some (false, hc') := e1
    have e01 : hGr hc' 1101 x = hGr hc 1101 x := (F.1.2.2.1 1101 x).trans (g1 1101 x)
    obtain ⟨q9, z1, z2⟩ := sh_c2 (aft F.1) (VG_tp V) (k := kk) (a := aa) (by rw [e01]; exact F.2)
    obtain ⟨mz, y1, y2⟩ := sh_m2 (MR_mp (MR_tp (n := k) (tp := sTp g) R0) (VG_tp V) F'.1) F'.2.2
    rw [wq_bad] at y2
    rw [e1', bind_s, z1, bind_s, if_neg bff, e2, y1]
    exact ⟨-1, _, mz, rfl, rfl, _, z2, y2, VG_st (VG_ft (VG_tp V))⟩
end SHL
