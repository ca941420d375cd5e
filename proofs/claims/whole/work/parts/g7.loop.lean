/-! ===== the law: its loop, its start ===== -/
theorem d_law_0 : decode code 0 = .ok (.new 7, 3) := by decide +kernel
theorem d_law_3 : decode code 3 = .ok (.dup, 1) := by decide +kernel
theorem d_law_4 : decode code 4 = .ok (.invokespecial 9, 3) := by decide +kernel
theorem d_law_7 : decode code 7 = .ok (.astore_n 1, 1) := by decide +kernel
theorem d_law_8 : decode code 8 = .ok (.new 10, 3) := by decide +kernel
theorem d_law_11 : decode code 11 = .ok (.dup, 1) := by decide +kernel
theorem d_law_12 : decode code 12 = .ok (.invokespecial 12, 3) := by decide +kernel
theorem d_law_15 : decode code 15 = .ok (.astore_n 2, 1) := by decide +kernel
theorem d_law_16 : decode code 16 = .ok (.iconst 0, 1) := by decide +kernel
theorem d_law_17 : decode code 17 = .ok (.istore_n 3, 1) := by decide +kernel
theorem d_law_18 : decode code 18 = .ok (.iload_n 3, 1) := by decide +kernel
theorem d_law_19 : decode code 19 = .ok (.aload_n 0, 1) := by decide +kernel
theorem d_law_20 : decode code 20 = .ok (.arraylength, 1) := by decide +kernel
theorem d_law_21 : decode code 21 = .ok (.bipush 6, 2) := by decide +kernel
theorem d_law_23 : decode code 23 = .ok (.isub, 1) := by decide +kernel
theorem d_law_24 : decode code 24 = .ok (.if_icmp .gt 1900, 3) := by decide +kernel
theorem d_law_27 : decode code 27 = .ok (.aload_n 0, 1) := by decide +kernel
theorem d_law_28 : decode code 28 = .ok (.iload_n 3, 1) := by decide +kernel
theorem d_law_29 : decode code 29 = .ok (.iaload, 1) := by decide +kernel
theorem d_law_30 : decode code 30 = .ok (.bipush 63, 2) := by decide +kernel
theorem d_law_32 : decode code 32 = .ok (.iand, 1) := by decide +kernel
theorem d_law_33 : decode code 33 = .ok (.tableswitch 1885 0 58 #[251, 264, 278, 292, 335, 408, 442, 505, 568, 591, 614, 637, 660, 693, 716, 749, 782, 815, 848, 881, 914, 947, 980, 1003, 1052, 1085, 1134, 1177, 1201, 1214, 1237, 1270, 1293, 1336, 1369, 1412, 1445, 1468, 1491, 1514, 1527, 1541, 1554, 1567, 1580, 1593, 1616, 1639, 1662, 1685, 1708, 1721, 1744, 1767, 1780, 1803, 1826, 1859, 1872], 251) := by decide +kernel
theorem d_law_1918 : decode code 1918 = .ok (.iinc 3 6, 3) := by decide +kernel
theorem d_law_1921 : decode code 1921 = .ok (.goto (-1903), 3) := by decide +kernel
theorem d_law_1924 : decode code 1924 = .ok (.iconst 1, 1) := by decide +kernel
theorem d_law_1925 : decode code 1925 = .ok (.ireturn, 1) := by decide +kernel
section LAWS
variable {p : Program} {l : Launch} {e : Env} {s : State} {m : MethodId} {below : List Frame} {meth : Method} {c : Code} {b L : Nat} {xs : Nat → Int32} {G : Gm} {aP : Nat}
theorem lw_tbl_in (C : LCx p s m meth c b L xs G aP) {pc len tgt : Nat} {lv : List (Nat × Value)} {st : List Value} {hc hm : Hp} {x : Int32} {d lo hi off : Int} {offs : Array Int} (hd : decode code pc = .ok (.tableswitch d lo hi offs, len)) (h1 : ¬ x.toInt < lo) (h2 : ¬ hi < x.toInt) (ho : offs[(x.toInt - lo).toNat]? = some off) (ht : (pc : Int) + off = (tgt : Int)) (k : LW p l e s m below meth c b G aP tgt lv st hc hm) : LW p l e s m below meth c b G aP pc lv (.int x :: st) hc hm :=
  fun H locs ls hP hQ hT hU hS hl => lv_tableIn C.1.1 C.1.2.1 hd h1 h2 ho ht (k H locs ls hP hQ hT hU hS hl)
theorem lw_tbl_out (C : LCx p s m meth c b L xs G aP) {pc len tgt : Nat} {lv : List (Nat × Value)} {st : List Value} {hc hm : Hp} {x : Int32} {d lo hi : Int} {offs : Array Int} (hd : decode code pc = .ok (.tableswitch d lo hi offs, len)) (h : x.toInt < lo ∨ hi < x.toInt) (ht : (pc : Int) + d = (tgt : Int)) (k : LW p l e s m below meth c b G aP tgt lv st hc hm) : LW p l e s m below meth c b G aP pc lv (.int x :: st) hc hm :=
  fun H locs ls hP hQ hT hU hS hl => lv_tableOut C.1.1 C.1.2.1 hd h ht (k H locs ls hP hQ hT hU hS hl)
theorem mask63 (x : Int32) : ∃ k, k < 64 ∧ x &&& 63 = nI k := by
  refine ⟨(x &&& 63).toBitVec.toNat, ?_, ?_⟩
  · have h1 : (x &&& 63).toBitVec = x.toBitVec &&& 63#32 := rfl
    rw [h1, BitVec.toNat_and]
    exact Nat.lt_of_le_of_lt Nat.and_le_right (by decide)
  · apply Int32.toBitVec_inj.mp
    show (x &&& 63).toBitVec = BitVec.ofNat 32 ((x &&& 63).toBitVec.toNat)
    rw [BitVec.ofNat_toNat, BitVec.setWidth_eq]
theorem gt6_0 : ∀ L, L < 6 → (nI L - nI 6).toInt = (L : Int) - 6 := by decide +kernel
theorem gt6 {L i : Nat} (hL : L ≤ 3072) (hi : i ≤ 4000) : nI L - nI 6 < nI i ↔ L < i + 6 := by
  by_cases h : 6 ≤ L
  · rw [zsub1 h, nI_ltI (by omega) (by omega)]
    omega
  · rw [Int32.lt_iff_toInt_lt, gt6_0 L (by omega), nI_toInt (by omega)]
    omega
theorem law_sw (C : LCx p s m meth c b L xs G aP) (hL : L ≤ 3072) {i : Nat} (hi : i + 6 ≤ L) {hc hm : Hp} (J : JJ (pY G aP) (mY G (aP + 184)) hc aP hm (aP + 184) kw0) (nx : ∀ hc hm, JJ (pY G aP) (mY G (aP + 184)) hc aP hm (aP + 184) kw0 → LW p l e s m below meth c b G aP 1918 (lvL b aP i) [] hc hm) : ∀ k, k < 64 → LW p l e s m below meth c b G aP 33 (lvL b aP i) [.int (nI k)] hc hm
  | 0, _ => lw_tbl_in C (pc := 33) (off := 251) (tgt := 284) d_law_33 (by decide +kernel) (by decide +kernel) (by decide +kernel) (by decide) (law_0 C hL hi J nx)
  | 1, _ => lw_tbl_in C (pc := 33) (off := 264) (tgt := 297) d_law_33 (by decide +kernel) (by decide +kernel) (by decide +kernel) (by decide) (law_1 C hL hi J nx)
  | 2, _ => lw_tbl_in C (pc := 33) (off := 278) (tgt := 311) d_law_33 (by decide +kernel) (by decide +kernel) (by decide +kernel) (by decide) (law_2 C hL hi J nx)
  | 3, _ => lw_tbl_in C (pc := 33) (off := 292) (tgt := 325) d_law_33 (by decide +kernel) (by decide +kernel) (by decide +kernel) (by decide) (law_3 C hL hi J nx)
  | 4, _ => lw_tbl_in C (pc := 33) (off := 335) (tgt := 368) d_law_33 (by decide +kernel) (by decide +kernel) (by decide +kernel) (by decide) (law_4 C hL hi J nx)
  | 5, _ => lw_tbl_in C (pc := 33) (off := 408) (tgt := 441) d_law_33 (by decide +kernel) (by decide +kernel) (by decide +kernel) (by decide) (law_5 C hL hi J nx)
  | 6, _ => lw_tbl_in C (pc := 33) (off := 442) (tgt := 475) d_law_33 (by decide +kernel) (by decide +kernel) (by decide +kernel) (by decide) (law_6 C hL hi J nx)
  | 7, _ => lw_tbl_in C (pc := 33) (off := 505) (tgt := 538) d_law_33 (by decide +kernel) (by decide +kernel) (by decide +kernel) (by decide) (law_7 C hL hi J nx)
  | 8, _ => lw_tbl_in C (pc := 33) (off := 568) (tgt := 601) d_law_33 (by decide +kernel) (by decide +kernel) (by decide +kernel) (by decide) (law_8 C hL hi J nx)
  | 9, _ => lw_tbl_in C (pc := 33) (off := 591) (tgt := 624) d_law_33 (by decide +kernel) (by decide +kernel) (by decide +kernel) (by decide) (law_9 C hL hi J nx)
  | 10, _ => lw_tbl_in C (pc := 33) (off := 614) (tgt := 647) d_law_33 (by decide +kernel) (by decide +kernel) (by decide +kernel) (by decide) (law_10 C hL hi J nx)
  | 11, _ => lw_tbl_in C (pc := 33) (off := 637) (tgt := 670) d_law_33 (by decide +kernel) (by decide +kernel) (by decide +kernel) (by decide) (law_11 C hL hi J nx)
  | 12, _ => lw_tbl_in C (pc := 33) (off := 660) (tgt := 693) d_law_33 (by decide +kernel) (by decide +kernel) (by decide +kernel) (by decide) (law_12 C hL hi J nx)
  | 13, _ => lw_tbl_in C (pc := 33) (off := 693) (tgt := 726) d_law_33 (by decide +kernel) (by decide +kernel) (by decide +kernel) (by decide) (law_13 C hL hi J nx)
  | 14, _ => lw_tbl_in C (pc := 33) (off := 716) (tgt := 749) d_law_33 (by decide +kernel) (by decide +kernel) (by decide +kernel) (by decide) (law_14 C hL hi J nx)
  | 15, _ => lw_tbl_in C (pc := 33) (off := 749) (tgt := 782) d_law_33 (by decide +kernel) (by decide +kernel) (by decide +kernel) (by decide) (law_15 C hL hi J nx)
  | 16, _ => lw_tbl_in C (pc := 33) (off := 782) (tgt := 815) d_law_33 (by decide +kernel) (by decide +kernel) (by decide +kernel) (by decide) (law_16 C hL hi J nx)
  | 17, _ => lw_tbl_in C (pc := 33) (off := 815) (tgt := 848) d_law_33 (by decide +kernel) (by decide +kernel) (by decide +kernel) (by decide) (law_17 C hL hi J nx)
  | 18, _ => lw_tbl_in C (pc := 33) (off := 848) (tgt := 881) d_law_33 (by decide +kernel) (by decide +kernel) (by decide +kernel) (by decide) (law_18 C hL hi J nx)
  | 19, _ => lw_tbl_in C (pc := 33) (off := 881) (tgt := 914) d_law_33 (by decide +kernel) (by decide +kernel) (by decide +kernel) (by decide) (law_19 C hL hi J nx)
  | 20, _ => lw_tbl_in C (pc := 33) (off := 914) (tgt := 947) d_law_33 (by decide +kernel) (by decide +kernel) (by decide +kernel) (by decide) (law_20 C hL hi J nx)
  | 21, _ => lw_tbl_in C (pc := 33) (off := 947) (tgt := 980) d_law_33 (by decide +kernel) (by decide +kernel) (by decide +kernel) (by decide) (law_21 C hL hi J nx)
  | 22, _ => lw_tbl_in C (pc := 33) (off := 980) (tgt := 1013) d_law_33 (by decide +kernel) (by decide +kernel) (by decide +kernel) (by decide) (law_22 C hL hi J nx)
  | 23, _ => lw_tbl_in C (pc := 33) (off := 1003) (tgt := 1036) d_law_33 (by decide +kernel) (by decide +kernel) (by decide +kernel) (by decide) (law_23 C hL hi J nx)
  | 24, _ => lw_tbl_in C (pc := 33) (off := 1052) (tgt := 1085) d_law_33 (by decide +kernel) (by decide +kernel) (by decide +kernel) (by decide) (law_24 C hL hi J nx)
  | 25, _ => lw_tbl_in C (pc := 33) (off := 1085) (tgt := 1118) d_law_33 (by decide +kernel) (by decide +kernel) (by decide +kernel) (by decide) (law_25 C hL hi J nx)
  | 26, _ => lw_tbl_in C (pc := 33) (off := 1134) (tgt := 1167) d_law_33 (by decide +kernel) (by decide +kernel) (by decide +kernel) (by decide) (law_26 C hL hi J nx)
  | 27, _ => lw_tbl_in C (pc := 33) (off := 1177) (tgt := 1210) d_law_33 (by decide +kernel) (by decide +kernel) (by decide +kernel) (by decide) (law_27 C hL hi J nx)
  | 28, _ => lw_tbl_in C (pc := 33) (off := 1201) (tgt := 1234) d_law_33 (by decide +kernel) (by decide +kernel) (by decide +kernel) (by decide) (law_28 C hL hi J nx)
  | 29, _ => lw_tbl_in C (pc := 33) (off := 1214) (tgt := 1247) d_law_33 (by decide +kernel) (by decide +kernel) (by decide +kernel) (by decide) (law_29 C hL hi J nx)
  | 30, _ => lw_tbl_in C (pc := 33) (off := 1237) (tgt := 1270) d_law_33 (by decide +kernel) (by decide +kernel) (by decide +kernel) (by decide) (law_30 C hL hi J nx)
  | 31, _ => lw_tbl_in C (pc := 33) (off := 1270) (tgt := 1303) d_law_33 (by decide +kernel) (by decide +kernel) (by decide +kernel) (by decide) (law_31 C hL hi J nx)
  | 32, _ => lw_tbl_in C (pc := 33) (off := 1293) (tgt := 1326) d_law_33 (by decide +kernel) (by decide +kernel) (by decide +kernel) (by decide) (law_32 C hL hi J nx)
  | 33, _ => lw_tbl_in C (pc := 33) (off := 1336) (tgt := 1369) d_law_33 (by decide +kernel) (by decide +kernel) (by decide +kernel) (by decide) (law_33 C hL hi J nx)
  | 34, _ => lw_tbl_in C (pc := 33) (off := 1369) (tgt := 1402) d_law_33 (by decide +kernel) (by decide +kernel) (by decide +kernel) (by decide) (law_34 C hL hi J nx)
  | 35, _ => lw_tbl_in C (pc := 33) (off := 1412) (tgt := 1445) d_law_33 (by decide +kernel) (by decide +kernel) (by decide +kernel) (by decide) (law_35 C hL hi J nx)
  | 36, _ => lw_tbl_in C (pc := 33) (off := 1445) (tgt := 1478) d_law_33 (by decide +kernel) (by decide +kernel) (by decide +kernel) (by decide) (law_36 C hL hi J nx)
  | 37, _ => lw_tbl_in C (pc := 33) (off := 1468) (tgt := 1501) d_law_33 (by decide +kernel) (by decide +kernel) (by decide +kernel) (by decide) (law_37 C hL hi J nx)
  | 38, _ => lw_tbl_in C (pc := 33) (off := 1491) (tgt := 1524) d_law_33 (by decide +kernel) (by decide +kernel) (by decide +kernel) (by decide) (law_38 C hL hi J nx)
  | 39, _ => lw_tbl_in C (pc := 33) (off := 1514) (tgt := 1547) d_law_33 (by decide +kernel) (by decide +kernel) (by decide +kernel) (by decide) (law_39 C hL hi J nx)
  | 40, _ => lw_tbl_in C (pc := 33) (off := 1527) (tgt := 1560) d_law_33 (by decide +kernel) (by decide +kernel) (by decide +kernel) (by decide) (law_40 C hL hi J nx)
  | 41, _ => lw_tbl_in C (pc := 33) (off := 1541) (tgt := 1574) d_law_33 (by decide +kernel) (by decide +kernel) (by decide +kernel) (by decide) (law_41 C hL hi J nx)
  | 42, _ => lw_tbl_in C (pc := 33) (off := 1554) (tgt := 1587) d_law_33 (by decide +kernel) (by decide +kernel) (by decide +kernel) (by decide) (law_42 C hL hi J nx)
  | 43, _ => lw_tbl_in C (pc := 33) (off := 1567) (tgt := 1600) d_law_33 (by decide +kernel) (by decide +kernel) (by decide +kernel) (by decide) (law_43 C hL hi J nx)
  | 44, _ => lw_tbl_in C (pc := 33) (off := 1580) (tgt := 1613) d_law_33 (by decide +kernel) (by decide +kernel) (by decide +kernel) (by decide) (law_44 C hL hi J nx)
  | 45, _ => lw_tbl_in C (pc := 33) (off := 1593) (tgt := 1626) d_law_33 (by decide +kernel) (by decide +kernel) (by decide +kernel) (by decide) (law_45 C hL hi J nx)
  | 46, _ => lw_tbl_in C (pc := 33) (off := 1616) (tgt := 1649) d_law_33 (by decide +kernel) (by decide +kernel) (by decide +kernel) (by decide) (law_46 C hL hi J nx)
  | 47, _ => lw_tbl_in C (pc := 33) (off := 1639) (tgt := 1672) d_law_33 (by decide +kernel) (by decide +kernel) (by decide +kernel) (by decide) (law_47 C hL hi J nx)
  | 48, _ => lw_tbl_in C (pc := 33) (off := 1662) (tgt := 1695) d_law_33 (by decide +kernel) (by decide +kernel) (by decide +kernel) (by decide) (law_48 C hL hi J nx)
  | 49, _ => lw_tbl_in C (pc := 33) (off := 1685) (tgt := 1718) d_law_33 (by decide +kernel) (by decide +kernel) (by decide +kernel) (by decide) (law_49 C hL hi J nx)
  | 50, _ => lw_tbl_in C (pc := 33) (off := 1708) (tgt := 1741) d_law_33 (by decide +kernel) (by decide +kernel) (by decide +kernel) (by decide) (law_50 C hL hi J nx)
  | 51, _ => lw_tbl_in C (pc := 33) (off := 1721) (tgt := 1754) d_law_33 (by decide +kernel) (by decide +kernel) (by decide +kernel) (by decide) (law_51 C hL hi J nx)
  | 52, _ => lw_tbl_in C (pc := 33) (off := 1744) (tgt := 1777) d_law_33 (by decide +kernel) (by decide +kernel) (by decide +kernel) (by decide) (law_52 C hL hi J nx)
  | 53, _ => lw_tbl_in C (pc := 33) (off := 1767) (tgt := 1800) d_law_33 (by decide +kernel) (by decide +kernel) (by decide +kernel) (by decide) (law_53 C hL hi J nx)
  | 54, _ => lw_tbl_in C (pc := 33) (off := 1780) (tgt := 1813) d_law_33 (by decide +kernel) (by decide +kernel) (by decide +kernel) (by decide) (law_54 C hL hi J nx)
  | 55, _ => lw_tbl_in C (pc := 33) (off := 1803) (tgt := 1836) d_law_33 (by decide +kernel) (by decide +kernel) (by decide +kernel) (by decide) (law_55 C hL hi J nx)
  | 56, _ => lw_tbl_in C (pc := 33) (off := 1826) (tgt := 1859) d_law_33 (by decide +kernel) (by decide +kernel) (by decide +kernel) (by decide) (law_56 C hL hi J nx)
  | 57, _ => lw_tbl_in C (pc := 33) (off := 1859) (tgt := 1892) d_law_33 (by decide +kernel) (by decide +kernel) (by decide +kernel) (by decide) (law_57 C hL hi J nx)
  | 58, _ => lw_tbl_in C (pc := 33) (off := 1872) (tgt := 1905) d_law_33 (by decide +kernel) (by decide +kernel) (by decide +kernel) (by decide) (law_58 C hL hi J nx)
  | k + 59, h => by
    have h2 : (58 : Int) < (nI (k + 59)).toInt := by
      rw [nI_toInt (by omega)]
      omega
    exact lw_tbl_out C (pc := 33) (tgt := 1918) d_law_33 (Or.inr h2) (by decide) (nx _ _ J)
theorem law_step (C : LCx p s m meth c b L xs G aP) (hL : L ≤ 3072) {i : Nat} (hi : i + 6 ≤ L) {hc hm : Hp} (J : JJ (pY G aP) (mY G (aP + 184)) hc aP hm (aP + 184) kw0) (nx : ∀ hc hm, JJ (pY G aP) (mY G (aP + 184)) hc aP hm (aP + 184) kw0 → LW p l e s m below meth c b G aP 1918 (lvL b aP i) [] hc hm) : LW p l e s m below meth c b G aP 27 (lvL b aP i) [] hc hm := by
  intro H locs ls hP hQ hT hU hS hl
  refine lv_aload_n C.1.1 C.1.2.1 (pc := 27) d_law_27 (i := 0) rfl (lv_at hl 1 rfl) ?_
  refine lv_iload_n C.1.1 C.1.2.1 (pc := 28) d_law_28 (i := 3) rfl (lv_at hl 0 rfl) ?_
  have hX : va_X b L xs s s.heap := C.1.2.2.2.2.2.2.1
  have hbl : b < s.heap.size := C.1.2.2.2.2.2.2.2.1
  refine va_sld C.1.1 C.1.2.1 (pc := 29) hX hbl (fun h => by have h : s.heap.size ≤ b := h; omega) hS (inB_vp (inB_nI (show i < L by omega) (by omega))) d_law_29 ?_
  refine lv_bipush C.1.1 C.1.2.1 (pc := 30) (v := 63) d_law_30 (by decide) ?_
  refine lv_iand C.1.1 C.1.2.1 (pc := 32) d_law_32 ?_
  obtain ⟨k, hk, e1⟩ := mask63 (xs (nI i).toNatClampNeg)
  rw [e1]
  exact law_sw C hL hi J nx k hk H locs ls hP hQ hT hU hS hl
theorem law_end (C : LCx p s m meth c b L xs G aP) {lv : List (Nat × Value)} {hc hm : Hp} : LW p l e s m below meth c b G aP 1924 lv [] hc hm := by
  intro H locs ls hP hQ hT hU hS hl
  refine lv_iconst C.1.1 C.1.2.1 (pc := 1924) (v := 1) d_law_1924 (by decide) ?_
  exact va_forget (fun q hq => hS.2.2 q hq) (lw_ret C.1.1 C.1.2.1 C.1.2.2.1 C.1.2.2.2.2.2.2.2.2.1 d_law_1925)
theorem inc_6 (i : Nat) : nI i + Int32.ofInt 6 = nI (i + 6) := by rw [show Int32.ofInt 6 = nI 6 from by decide, nI_add]
theorem law_next (C : LCx p s m meth c b L xs G aP) {i : Nat} {hc hm : Hp} (kk : LW p l e s m below meth c b G aP 18 (lvL b aP (i + 6)) [] hc hm) : LW p l e s m below meth c b G aP 1918 (lvL b aP i) [] hc hm := by
  intro H locs ls hP hQ hT hU hS hl
  refine lv_iinc C.1.1 C.1.2.1 (pc := 1918) (v := nI (i + 6)) (lv' := lvL b aP (i + 6)) (k := 0) d_law_1918 hl rfl (inc_6 i) (by decide) rfl (fun ls hl => ?_)
  exact lv_goto C.1.1 C.1.2.1 (pc := 1921) (tgt := 18) d_law_1921 (by decide) (kk H locs ls hP hQ hT hU hS hl)
theorem law_loop (C : LCx p s m meth c b L xs G aP) (hL : L ≤ 3072) : ∀ k i, L + 1 ≤ i + 6 * k → i ≤ L + 6 → ∀ hc hm, JJ (pY G aP) (mY G (aP + 184)) hc aP hm (aP + 184) kw0 → LW p l e s m below meth c b G aP 18 (lvL b aP i) [] hc hm := by
  intro k
  induction k with
  | zero =>
    intro i h1 h2 hc hm J H locs ls hP hQ hT hU hS hl
    have hX : va_X b L xs s s.heap := C.1.2.2.2.2.2.2.1
    have hbl : b < s.heap.size := C.1.2.2.2.2.2.2.2.1
    refine lv_iload_n C.1.1 C.1.2.1 (pc := 18) d_law_18 (i := 3) rfl (lv_at hl 0 rfl) ?_
    refine lv_aload_n C.1.1 C.1.2.1 (pc := 19) d_law_19 (i := 0) rfl (lv_at hl 1 rfl) ?_
    refine va_slen C.1.1 C.1.2.1 (pc := 20) hX hbl (fun h => by have h : s.heap.size ≤ b := h; omega) hS d_law_20 ?_
    refine lv_bipush C.1.1 C.1.2.1 (pc := 21) (v := nI 6) d_law_21 (by decide) ?_
    refine lv_isub C.1.1 C.1.2.1 (pc := 23) d_law_23 ?_
    refine lv_icmp_gt C.1.1 C.1.2.1 (pc := 24) (tgt := 1924) d_law_24 (by decide) (fun _ => ?_) (fun h => absurd ((gt6 hL (by omega)).mpr (by omega)) h)
    exact law_end C H locs ls hP hQ hT hU hS hl
  | succ k ih =>
    intro i h1 h2 hc hm J H locs ls hP hQ hT hU hS hl
    have hX : va_X b L xs s s.heap := C.1.2.2.2.2.2.2.1
    have hbl : b < s.heap.size := C.1.2.2.2.2.2.2.2.1
    refine lv_iload_n C.1.1 C.1.2.1 (pc := 18) d_law_18 (i := 3) rfl (lv_at hl 0 rfl) ?_
    refine lv_aload_n C.1.1 C.1.2.1 (pc := 19) d_law_19 (i := 0) rfl (lv_at hl 1 rfl) ?_
    refine va_slen C.1.1 C.1.2.1 (pc := 20) hX hbl (fun h => by have h : s.heap.size ≤ b := h; omega) hS d_law_20 ?_
    refine lv_bipush C.1.1 C.1.2.1 (pc := 21) (v := nI 6) d_law_21 (by decide) ?_
    refine lv_isub C.1.1 C.1.2.1 (pc := 23) d_law_23 ?_
    refine lv_icmp_gt C.1.1 C.1.2.1 (pc := 24) (tgt := 1924) d_law_24 (by decide) (fun _ => ?_) (fun h => ?_)
    · exact law_end C H locs ls hP hQ hT hU hS hl
    · have hi : i + 6 ≤ L := by
        have : ¬ L < i + 6 := fun q => h ((gt6 hL (by omega)).mpr q)
        omega
      exact law_step C hL hi J (fun hc hm J => law_next C (ih (i + 6) (by omega) (by omega) hc hm J)) H locs ls hP hQ hT hU hS hl
end LAWS
