set_option maxHeartbeats 4000000 in
set_option maxRecDepth 100000 in
/-- J6_bitCount_0f7a4 -/
theorem c_J6_bitCount_0f7a4 (l : Launch) (D : va_G) (cI : ClassId) (t : Nat) (ht : t < 64) : zRi l yJ6_bitCount_0f7a4 wsJ6_bitCount_0f7a4 0 0 D cI [.int (iI ((t : Nat) : Int))] [] (iI (((zPop t : Nat) : Int))) := by
  refine zRi_of (cc := cJ6_bitCount_0f7a4) (maxL := 1) (rt := .int) (by decide) rfl (Nat.le_of_ble_eq_true rfl) ?_
  intro p e s m args below meth c ls hF hr hlocks hP hK hl
  have hF : zFix p m c cJ6_bitCount_0f7a4 1 s args wsJ6_bitCount_0f7a4 RJ6 := hF
  obtain ⟨hx, hb, hml, hown, hts⟩ := id hF
  have hP : va_P D vwCl [] s.heap := hP
  have hl : lv_has ls 1 [(0, .int (iI ((t : Nat) : Int)))] := hl
  refine lv_iload_n hx hb dJ6_bitCount_0f7a4_0 rfl (lv_at hl 0 rfl) ?_
  refine lv_iload_n hx hb dJ6_bitCount_0f7a4_1 rfl (lv_at hl 0 rfl) ?_
  refine zr_ic (n := ((1 : Nat) : Int)) hx hb dJ6_bitCount_0f7a4_2 ?_
  refine lv_iushr hx hb dJ6_bitCount_0f7a4_3 rfl ?_
  refine lv_ldcw hx hb hown (hts (.constant RJ6 265 (1431655765)) (by decide +kernel)) dJ6_bitCount_0f7a4_4 ?_
  refine lv_iand hx hb dJ6_bitCount_0f7a4_7 ?_
  refine lv_isub hx hb dJ6_bitCount_0f7a4_8 ?_
  refine zr_top (w := .int (zb1 (iI ((t : Nat) : Int)))) rfl ?_
  refine lv_istore_n (lv' := [(0, .int (zb1 (iI ((t : Nat) : Int))))]) hx hb dJ6_bitCount_0f7a4_9 rfl hl (by decide) rfl (fun ls hl => ?_)
  refine lv_iload_n hx hb dJ6_bitCount_0f7a4_10 rfl (lv_at hl 0 rfl) ?_
  refine lv_ldcw hx hb hown (hts (.constant RJ6 266 (858993459)) (by decide +kernel)) dJ6_bitCount_0f7a4_11 ?_
  refine lv_iand hx hb dJ6_bitCount_0f7a4_14 ?_
  refine lv_iload_n hx hb dJ6_bitCount_0f7a4_15 rfl (lv_at hl 0 rfl) ?_
  refine zr_ic (n := ((2 : Nat) : Int)) hx hb dJ6_bitCount_0f7a4_16 ?_
  refine lv_iushr hx hb dJ6_bitCount_0f7a4_17 rfl ?_
  refine lv_ldcw hx hb hown (hts (.constant RJ6 266 (858993459)) (by decide +kernel)) dJ6_bitCount_0f7a4_18 ?_
  refine lv_iand hx hb dJ6_bitCount_0f7a4_21 ?_
  refine lv_iadd hx hb dJ6_bitCount_0f7a4_22 ?_
  refine zr_top (w := .int (zb2 (zb1 (iI ((t : Nat) : Int))))) rfl ?_
  refine lv_istore_n (lv' := [(0, .int (zb2 (zb1 (iI ((t : Nat) : Int)))))]) hx hb dJ6_bitCount_0f7a4_23 rfl hl (by decide) rfl (fun ls hl => ?_)
  refine lv_iload_n hx hb dJ6_bitCount_0f7a4_24 rfl (lv_at hl 0 rfl) ?_
  refine lv_iload_n hx hb dJ6_bitCount_0f7a4_25 rfl (lv_at hl 0 rfl) ?_
  refine zr_ic (n := ((4 : Nat) : Int)) hx hb dJ6_bitCount_0f7a4_26 ?_
  refine lv_iushr hx hb dJ6_bitCount_0f7a4_27 rfl ?_
  refine lv_iadd hx hb dJ6_bitCount_0f7a4_28 ?_
  refine lv_ldcw hx hb hown (hts (.constant RJ6 267 (252645135)) (by decide +kernel)) dJ6_bitCount_0f7a4_29 ?_
  refine lv_iand hx hb dJ6_bitCount_0f7a4_32 ?_
  refine zr_top (w := .int (zb3 (zb2 (zb1 (iI ((t : Nat) : Int)))))) rfl ?_
  refine lv_istore_n (lv' := [(0, .int (zb3 (zb2 (zb1 (iI ((t : Nat) : Int))))))]) hx hb dJ6_bitCount_0f7a4_33 rfl hl (by decide) rfl (fun ls hl => ?_)
  refine lv_iload_n hx hb dJ6_bitCount_0f7a4_34 rfl (lv_at hl 0 rfl) ?_
  refine lv_iload_n hx hb dJ6_bitCount_0f7a4_35 rfl (lv_at hl 0 rfl) ?_
  refine zr_bi (n := ((8 : Nat) : Int)) hx hb dJ6_bitCount_0f7a4_36 rfl ?_
  refine lv_iushr hx hb dJ6_bitCount_0f7a4_38 rfl ?_
  refine lv_iadd hx hb dJ6_bitCount_0f7a4_39 ?_
  refine zr_top (w := .int (zb4 (zb3 (zb2 (zb1 (iI ((t : Nat) : Int))))))) rfl ?_
  refine lv_istore_n (lv' := [(0, .int (zb4 (zb3 (zb2 (zb1 (iI ((t : Nat) : Int)))))))]) hx hb dJ6_bitCount_0f7a4_40 rfl hl (by decide) rfl (fun ls hl => ?_)
  refine lv_iload_n hx hb dJ6_bitCount_0f7a4_41 rfl (lv_at hl 0 rfl) ?_
  refine lv_iload_n hx hb dJ6_bitCount_0f7a4_42 rfl (lv_at hl 0 rfl) ?_
  refine zr_bi (n := ((16 : Nat) : Int)) hx hb dJ6_bitCount_0f7a4_43 rfl ?_
  refine lv_iushr hx hb dJ6_bitCount_0f7a4_45 rfl ?_
  refine lv_iadd hx hb dJ6_bitCount_0f7a4_46 ?_
  refine zr_top (w := .int (zb5 (zb4 (zb3 (zb2 (zb1 (iI ((t : Nat) : Int)))))))) rfl ?_
  refine lv_istore_n (lv' := [(0, .int (zb5 (zb4 (zb3 (zb2 (zb1 (iI ((t : Nat) : Int))))))))]) hx hb dJ6_bitCount_0f7a4_47 rfl hl (by decide) rfl (fun ls hl => ?_)
  refine lv_iload_n hx hb dJ6_bitCount_0f7a4_48 rfl (lv_at hl 0 rfl) ?_
  refine zr_bi (n := ((63 : Nat) : Int)) hx hb dJ6_bitCount_0f7a4_49 rfl ?_
  refine lv_iand hx hb dJ6_bitCount_0f7a4_51 ?_
  exact zRi_ret hx hb hr hlocks dJ6_bitCount_0f7a4_52 (zb_pop ht)
set_option maxHeartbeats 4000000 in
set_option maxRecDepth 100000 in
/-- X0_size -/
theorem c_X0_size (l : Launch) (D : va_G) (cI : ClassId) (B C n : Nat) (b : Nat → Int)  : zRi l yX0_size wsX0_size 0 0 D cI [.ref B] [(B, .inr (0, [.ref C, .int (iI ((n : Nat) : Int))])), (C, zArr cI 36 b)] (iI ((n : Int))) := by
  refine zRi_of (cc := cX0_size) (maxL := 1) (rt := .int) (by decide) rfl (Nat.le_of_ble_eq_true rfl) ?_
  intro p e s m args below meth c ls hF hr hlocks hP hK hl
  have hF : zFix p m c cX0_size 1 s args wsX0_size RX0 := hF
  obtain ⟨hx, hb, hml, hown, hts⟩ := id hF
  have hP : va_P D vwCl [(B, .inr (0, [.ref C, .int (iI ((n : Nat) : Int))])), (C, zArr cI 36 b)] s.heap := hP
  have hl : lv_has ls 1 [(0, .ref B)] := hl
  refine lv_aload_n hx hb dX0_size_0 rfl (lv_at hl 0 rfl) ?_
  refine va_get (D := D) (ci := 0) (v := .int (iI ((n : Nat) : Int))) (C := RX0) (T := TX0) (N := 2) hx hb hts (by decide +kernel) hown hK hP 0 rfl rfl 1 (by decide) (hts (.fieldLink RX0 15 "RentHarmony$Bids" "size" "I") (by decide +kernel)) (fun _ h9 => h9) rfl dX0_size_1 ?_
  exact zRi_ret hx hb hr hlocks dX0_size_4 rfl
set_option maxHeartbeats 4000000 in
set_option maxRecDepth 100000 in
/-- X0_has -/
theorem c_X0_has (l : Launch) (D : va_G) (cI : ClassId) (B C n : Nat) (b : Nat → Int) (z : Int) (hn : n ≤ 6) (hz : zB z) : zRi l yX0_has wsX0_has 0 0 D cI [.ref B, .int (iI (z))] [(B, .inr (0, [.ref C, .int (iI ((n : Nat) : Int))])), (C, zArr cI 36 b)] (iI (bZ (0 ≤ z ∧ z < (n : Int)))) := by
  refine zRi_of (cc := cX0_has) (maxL := 2) (rt := .boolean) (by decide) rfl (Nat.le_of_ble_eq_true rfl) ?_
  intro p e s m args below meth c ls hF hr hlocks hP hK hl
  have hF : zFix p m c cX0_has 2 s args wsX0_has RX0 := hF
  obtain ⟨hx, hb, hml, hown, hts⟩ := id hF
  have hP : va_P D vwCl [(B, .inr (0, [.ref C, .int (iI ((n : Nat) : Int))])), (C, zArr cI 36 b)] s.heap := hP
  have hl : lv_has ls 2 [(0, .ref B), (1, .int (iI (z)))] := hl
  have hz1 := hz.1
  have hz2 := hz.2
  refine lv_iload_n hx hb dX0_has_0 rfl (lv_at hl 1 rfl) ?_
  refine zr_if_lt (tgt := 16) hx hb dX0_has_1 (by decide) (zB_of (by omega) (by omega)) (fun c1 => ?_) (fun c1 => ?_)
  · refine zr_ic (n := ((0 : Nat) : Int)) hx hb dX0_has_16 ?_
    exact zRi_retz hx hb hr rfl hlocks dX0_has_17 (congrArg iI (bZ_f (by omega)).symm)
  · refine lv_iload_n hx hb dX0_has_4 rfl (lv_at hl 1 rfl) ?_
    refine lv_aload_n hx hb dX0_has_5 rfl (lv_at hl 0 rfl) ?_
    refine va_get (D := D) (ci := 0) (v := .int (iI ((n : Nat) : Int))) (C := RX0) (T := TX0) (N := 2) hx hb hts (by decide +kernel) hown hK hP 0 rfl rfl 1 (by decide) (hts (.fieldLink RX0 15 "RentHarmony$Bids" "size" "I") (by decide +kernel)) (fun _ h9 => h9) rfl dX0_has_6 ?_
    refine zr_icmp_ge (tgt := 16) hx hb dX0_has_9 (by decide) (zB_of (by omega) (by omega)) (zB_of (by omega) (by omega)) (fun c2 => ?_) (fun c2 => ?_)
    · refine zr_ic (n := ((0 : Nat) : Int)) hx hb dX0_has_16 ?_
      exact zRi_retz hx hb hr rfl hlocks dX0_has_17 (congrArg iI (bZ_f (by omega)).symm)
    · refine zr_ic (n := ((1 : Nat) : Int)) hx hb dX0_has_12 ?_
      refine lv_goto (tgt := 17) hx hb dX0_has_13 (by decide) ?_
      exact zRi_retz hx hb hr rfl hlocks dX0_has_17 (congrArg iI (bZ_t (by omega)).symm)
set_option maxHeartbeats 4000000 in
set_option maxRecDepth 100000 in
/-- X0_of -/
theorem c_X0_of (l : Launch) (D : va_G) (cI : ClassId) (B C n : Nat) (b : Nat → Int) (x y : Nat) (hn : n ≤ 6) (hx0 : x < n) (hy0 : y < n) : zRi l yX0_of wsX0_of 1 21 D cI [.ref B, .int (iI ((x : Nat) : Int)), .int (iI ((y : Nat) : Int))] [(B, .inr (0, [.ref C, .int (iI ((n : Nat) : Int))])), (C, zArr cI 36 b)] (iI (b (x * 6 + y))) := by
  refine zRi_of (cc := cX0_of) (maxL := 3) (rt := .int) (by decide) rfl (Nat.le_of_ble_eq_true rfl) ?_
  intro p e s m args below meth c ls hF hr hlocks hP hK hl
  have hF : zFix p m c cX0_of 3 s args wsX0_of RX0 := hF
  obtain ⟨hx, hb, hml, hown, hts⟩ := id hF
  have hP : va_P D vwCl [(B, .inr (0, [.ref C, .int (iI ((n : Nat) : Int))])), (C, zArr cI 36 b)] s.heap := hP
  have hl : lv_has ls 3 [(0, .ref B), (1, .int (iI ((x : Nat) : Int))), (2, .int (iI ((y : Nat) : Int)))] := hl
  refine lv_aload_n hx hb dX0_of_0 rfl (lv_at hl 0 rfl) ?_
  refine lv_iload_n hx hb dX0_of_1 rfl (lv_at hl 1 rfl) ?_
  refine zc_ri (As := [.int (iI ((x : Nat) : Int))]) (rest := []) hF (c_X0_has l D cI B C n b ((x : Nat) : Int) (by omega) (zB_of (by omega) (by omega))) (cwV 1 hts gX0_of_X0_has rfl rfl rfl (by decide +kernel) ⟨Nat.le_of_ble_eq_true rfl, Nat.le_of_ble_eq_true rfl⟩) hK hP [0, 1] rfl 0 rfl 0 rfl rfl rfl rfl hl.1 rfl (Nat.le_of_ble_eq_true rfl) dX0_of_2 ⟨Nat.zero_le _, Nat.zero_le _⟩ ?_
  refine zr_ifB_eq (tgt := 30) hx hb dX0_of_5 (by decide)  (fun c1 => ?_) (fun c1 => ?_)
  · exact absurd (by omega) c1
  · refine lv_aload_n hx hb dX0_of_8 rfl (lv_at hl 0 rfl) ?_
    refine lv_iload_n hx hb dX0_of_9 rfl (lv_at hl 2 rfl) ?_
    refine zc_ri (As := [.int (iI ((y : Nat) : Int))]) (rest := []) hF (c_X0_has l D cI B C n b ((y : Nat) : Int) (by omega) (zB_of (by omega) (by omega))) (cwV 1 hts gX0_of_X0_has rfl rfl rfl (by decide +kernel) ⟨Nat.le_of_ble_eq_true rfl, Nat.le_of_ble_eq_true rfl⟩) hK hP [0, 1] rfl 0 rfl 0 rfl rfl rfl rfl hl.1 rfl (Nat.le_of_ble_eq_true rfl) dX0_of_10 ⟨Nat.zero_le _, Nat.zero_le _⟩ ?_
    refine zr_ifB_eq (tgt := 30) hx hb dX0_of_13 (by decide)  (fun c2 => ?_) (fun c2 => ?_)
    · exact absurd (by omega) c2
    · refine lv_aload_n hx hb dX0_of_16 rfl (lv_at hl 0 rfl) ?_
      refine va_get (D := D) (ci := 0) (v := .ref C) (C := RX0) (T := TX0) (N := 2) hx hb hts (by decide +kernel) hown hK hP 0 rfl rfl 0 (by decide) (hts (.fieldLink RX0 9 "RentHarmony$Bids" "coins" "[I") (by decide +kernel)) (fun _ h9 => h9) rfl dX0_of_17 ?_
      refine lv_iload_n hx hb dX0_of_20 rfl (lv_at hl 1 rfl) ?_
      refine zr_bi (n := ((6 : Nat) : Int)) hx hb dX0_of_21 rfl ?_
      refine zr_mulN (x := x) (y := 6) hx hb dX0_of_23 ?_
      refine lv_iload_n hx hb dX0_of_24 rfl (lv_at hl 2 rfl) ?_
      refine zr_addN (x := x * 6) (y := y) hx hb dX0_of_25 ?_
      refine zr_iald hx hb hK hP 1 0 rfl rfl ((x * 6) + y) (by omega) (by omega) (by omega) dX0_of_26 ?_
      refine lv_goto (tgt := 31) hx hb dX0_of_27 (by decide) ?_
      exact zRi_ret hx hb hr hlocks dX0_of_31 rfl
set_option maxHeartbeats 4000000 in
set_option maxRecDepth 100000 in
/-- X0_set -/
theorem c_X0_set (l : Launch) (D : va_G) (cI : ClassId) (B C n : Nat) (b : Nat → Int) (x y : Nat) (v : Int) (hn : n ≤ 6) (hx0 : x < n) (hy0 : y < n) : zWv (S := Unit) l yX0_set wsX0_set 1 21 D cI [.ref B, .int (iI ((x : Nat) : Int)), .int (iI ((y : Nat) : Int)), .int (iI (v))] [(B, .inr (0, [.ref C, .int (iI ((n : Nat) : Int))])), (C, zArr cI 36 b)] (fun _ => True) (fun _ => [(B, .inr (0, [.ref C, .int (iI ((n : Nat) : Int))])), (C, zArr cI 36 (uZ b (x * 6 + y) v))]) := by
  refine zWv_of (cc := cX0_set) (maxL := 4) (by decide) rfl (Nat.le_of_ble_eq_true rfl) ?_
  intro p e s m args below meth c ls A hF hr hlocks hP hK hD hS hl
  have hF : zFix p m c cX0_set 4 s args wsX0_set RX0 := hF
  obtain ⟨hx, hb, hml, hown, hts⟩ := id hF
  have hP : va_P D vwCl [(B, .inr (0, [.ref C, .int (iI ((n : Nat) : Int))])), (C, zArr cI 36 b)] s.heap := hP
  have hD : va_D A [(B, .inr (0, [.ref C, .int (iI ((n : Nat) : Int))])), (C, zArr cI 36 b)] := hD
  skip
  have hl : lv_has ls 4 [(0, .ref B), (1, .int (iI ((x : Nat) : Int))), (2, .int (iI ((y : Nat) : Int))), (3, .int (iI (v)))] := hl
  refine lv_aload_n hx hb dX0_set_0 rfl (lv_at hl 0 rfl) ?_
  refine lv_iload_n hx hb dX0_set_1 rfl (lv_at hl 1 rfl) ?_
  refine zc_ri (As := [.int (iI ((x : Nat) : Int))]) (rest := []) hF (c_X0_has l D cI B C n b ((x : Nat) : Int) (by omega) (zB_of (by omega) (by omega))) (cwV 1 hts gX0_set_X0_has rfl rfl rfl (by decide +kernel) ⟨Nat.le_of_ble_eq_true rfl, Nat.le_of_ble_eq_true rfl⟩) hK hP [0, 1] rfl 0 rfl 0 rfl rfl rfl rfl hl.1 rfl (Nat.le_of_ble_eq_true rfl) dX0_set_2 ⟨Nat.zero_le _, Nat.zero_le _⟩ ?_
  refine zr_ifB_eq (tgt := 28) hx hb dX0_set_5 (by decide)  (fun c1 => ?_) (fun c1 => ?_)
  · exact absurd (by omega) c1
  · refine lv_aload_n hx hb dX0_set_8 rfl (lv_at hl 0 rfl) ?_
    refine lv_iload_n hx hb dX0_set_9 rfl (lv_at hl 2 rfl) ?_
    refine zc_ri (As := [.int (iI ((y : Nat) : Int))]) (rest := []) hF (c_X0_has l D cI B C n b ((y : Nat) : Int) (by omega) (zB_of (by omega) (by omega))) (cwV 1 hts gX0_set_X0_has rfl rfl rfl (by decide +kernel) ⟨Nat.le_of_ble_eq_true rfl, Nat.le_of_ble_eq_true rfl⟩) hK hP [0, 1] rfl 0 rfl 0 rfl rfl rfl rfl hl.1 rfl (Nat.le_of_ble_eq_true rfl) dX0_set_10 ⟨Nat.zero_le _, Nat.zero_le _⟩ ?_
    refine zr_ifB_eq (tgt := 28) hx hb dX0_set_13 (by decide)  (fun c2 => ?_) (fun c2 => ?_)
    · exact absurd (by omega) c2
    · refine lv_aload_n hx hb dX0_set_16 rfl (lv_at hl 0 rfl) ?_
      refine va_get (D := D) (ci := 0) (v := .ref C) (C := RX0) (T := TX0) (N := 2) hx hb hts (by decide +kernel) hown hK hP 0 rfl rfl 0 (by decide) (hts (.fieldLink RX0 9 "RentHarmony$Bids" "coins" "[I") (by decide +kernel)) (fun _ h9 => h9) rfl dX0_set_17 ?_
      refine lv_iload_n hx hb dX0_set_20 rfl (lv_at hl 1 rfl) ?_
      refine zr_bi (n := ((6 : Nat) : Int)) hx hb dX0_set_21 rfl ?_
      refine zr_mulN (x := x) (y := 6) hx hb dX0_set_23 ?_
      refine lv_iload_n hx hb dX0_set_24 rfl (lv_at hl 2 rfl) ?_
      refine zr_addN (x := x * 6) (y := y) hx hb dX0_set_25 ?_
      refine lv_iload_n hx hb dX0_set_26 rfl (lv_at hl 3 rfl) ?_
      refine zr_iast hx hb hK hP hD hS 1 0 rfl rfl ((x * 6) + y) (by omega) (by omega) (by omega) dX0_set_27 (fun H locs hP hD hS => ?_)
      have hP : va_P D vwCl [(B, .inr (0, [.ref C, .int (iI ((n : Nat) : Int))])), (C, zArr cI 36 (uZ b ((x * 6) + y) v))] H := hP
      have hD : va_D A [(B, .inr (0, [.ref C, .int (iI ((n : Nat) : Int))])), (C, zArr cI 36 (uZ b ((x * 6) + y) v))] := hD
      exact zWv_ret hx hb hr hlocks hS dX0_set_28 () trivial hP
set_option maxHeartbeats 4000000 in
set_option maxRecDepth 100000 in
/-- X0_copy -/
theorem c_X0_copy (l : Launch) (D : va_G) (cI : ClassId) (B C n : Nat) (b : Nat → Int) (B2 C2 n2 : Nat) (b2 : Nat → Int)  : zWv (S := Unit) l yX0_copy wsX0_copy 1 30 D cI [.ref B, .ref B2] [(B, .inr (0, [.ref C, .int (iI ((n : Nat) : Int))])), (C, zArr cI 36 b), (B2, .inr (0, [.ref C2, .int (iI ((n2 : Nat) : Int))])), (C2, zArr cI 36 b2)] (fun _ => True) (fun _ => [(B, .inr (0, [.ref C, .int (iI ((n2 : Nat) : Int))])), (C, zArr cI 36 b2), (B2, .inr (0, [.ref C2, .int (iI ((n2 : Nat) : Int))])), (C2, zArr cI 36 b2)]) := by
  refine zWv_of (cc := cX0_copy) (maxL := 2) (by decide) rfl (Nat.le_of_ble_eq_true rfl) ?_
  intro p e s m args below meth c ls A hF hr hlocks hP hK hD hS hl
  have hF : zFix p m c cX0_copy 2 s args wsX0_copy RX0 := hF
  obtain ⟨hx, hb, hml, hown, hts⟩ := id hF
  have hP : va_P D vwCl [(B, .inr (0, [.ref C, .int (iI ((n : Nat) : Int))])), (C, zArr cI 36 b), (B2, .inr (0, [.ref C2, .int (iI ((n2 : Nat) : Int))])), (C2, zArr cI 36 b2)] s.heap := hP
  have hD : va_D A [(B, .inr (0, [.ref C, .int (iI ((n : Nat) : Int))])), (C, zArr cI 36 b), (B2, .inr (0, [.ref C2, .int (iI ((n2 : Nat) : Int))])), (C2, zArr cI 36 b2)] := hD
  skip
  have hl : lv_has ls 2 [(0, .ref B), (1, .ref B2)] := hl
  refine lv_aload_n hx hb dX0_copy_0 rfl (lv_at hl 1 rfl) ?_
  refine va_get (D := D) (ci := 0) (v := .ref C2) (C := RX0) (T := TX0) (N := 2) hx hb hts (by decide +kernel) hown hK hP 2 rfl rfl 0 (by decide) (hts (.fieldLink RX0 9 "RentHarmony$Bids" "coins" "[I") (by decide +kernel)) (fun _ h9 => h9) rfl dX0_copy_1 ?_
  refine zr_ic (n := ((0 : Nat) : Int)) hx hb dX0_copy_4 ?_
  refine lv_aload_n hx hb dX0_copy_5 rfl (lv_at hl 0 rfl) ?_
  refine va_get (D := D) (ci := 0) (v := .ref C) (C := RX0) (T := TX0) (N := 2) hx hb hts (by decide +kernel) hown hK hP 0 rfl rfl 0 (by decide) (hts (.fieldLink RX0 9 "RentHarmony$Bids" "coins" "[I") (by decide +kernel)) (fun _ h9 => h9) rfl dX0_copy_6 ?_
  refine zr_ic (n := ((0 : Nat) : Int)) hx hb dX0_copy_9 ?_
  refine lv_aload_n hx hb dX0_copy_10 rfl (lv_at hl 0 rfl) ?_
  refine va_get (D := D) (ci := 0) (v := .ref C) (C := RX0) (T := TX0) (N := 2) hx hb hts (by decide +kernel) hown hK hP 0 rfl rfl 0 (by decide) (hts (.fieldLink RX0 9 "RentHarmony$Bids" "coins" "[I") (by decide +kernel)) (fun _ h9 => h9) rfl dX0_copy_11 ?_
  refine zr_alen hx hb hK hP 1 0 rfl rfl dX0_copy_14 ?_
  refine zr_copy (rest := []) hx hb (hml.trans hl.1.symm) hown (hts (.methodLink RX0 23 arraycopyName) (by decide +kernel)) (hts (.native arraycopyName) (by decide +kernel)) (hts (.static arraycopyName) (by decide +kernel)) (hts (.initialized "java/lang/System") (by decide +kernel)) hK hP hD hS 3 1 0 rfl rfl rfl (36) (by omega) (by omega) (by omega) (by decide) (Nat.le_of_ble_eq_true rfl) (by decide +kernel) dX0_copy_15 (fun H locs hP hD hS => ?_)
  have hP : va_P D vwCl [(B, .inr (0, [.ref C, .int (iI ((n : Nat) : Int))])), (C, zArr cI 36 (zCpy b2 b (36))), (B2, .inr (0, [.ref C2, .int (iI ((n2 : Nat) : Int))])), (C2, zArr cI 36 b2)] H := hP
  have hD : va_D A [(B, .inr (0, [.ref C, .int (iI ((n : Nat) : Int))])), (C, zArr cI 36 (zCpy b2 b (36))), (B2, .inr (0, [.ref C2, .int (iI ((n2 : Nat) : Int))])), (C2, zArr cI 36 b2)] := hD
  refine lv_aload_n hx hb dX0_copy_18 rfl (lv_at hl 0 rfl) ?_
  refine lv_aload_n hx hb dX0_copy_19 rfl (lv_at hl 1 rfl) ?_
  refine va_get (D := D) (ci := 0) (v := .int (iI ((n2 : Nat) : Int))) (C := RX0) (T := TX0) (N := 2) hx hb hts (by decide +kernel) hown hK hP 2 rfl rfl 1 (by decide) (hts (.fieldLink RX0 15 "RentHarmony$Bids" "size" "I") (by decide +kernel)) (fun _ h9 => h9) rfl dX0_copy_20 ?_
  refine va_put (D := D) (ci := 0) (v := .int (iI ((n2 : Nat) : Int))) (ty := .int) (C := RX0) (T := TX0) (N := 2) hx hb hts (by decide +kernel) tyX0 tyX0_ok nmX0 hown hK hP hD hS 0 rfl rfl 1 (by decide) (hts (.fieldLink RX0 15 "RentHarmony$Bids" "size" "I") (by decide +kernel)) (fun _ h9 => h9) rfl (by decide +kernel) rfl rfl (Nat.le_of_ble_eq_true rfl) dX0_copy_23 (fun H locs hP hD hS => ?_)
  have hP : va_P D vwCl [(B, .inr (0, [.ref C, .int (iI ((n2 : Nat) : Int))])), (C, zArr cI 36 (zCpy b2 b (36))), (B2, .inr (0, [.ref C2, .int (iI ((n2 : Nat) : Int))])), (C2, zArr cI 36 b2)] H := hP
  have hD : va_D A [(B, .inr (0, [.ref C, .int (iI ((n2 : Nat) : Int))])), (C, zArr cI 36 (zCpy b2 b (36))), (B2, .inr (0, [.ref C2, .int (iI ((n2 : Nat) : Int))])), (C2, zArr cI 36 b2)] := hD
  have hP : va_P D vwCl [(B, .inr (0, [.ref C, .int (iI ((n2 : Nat) : Int))])), (C, zArr cI 36 b2), (B2, .inr (0, [.ref C2, .int (iI ((n2 : Nat) : Int))])), (C2, zArr cI 36 b2)] H := z_ext hP 1 rfl (fun j hj => by unfold zCpy; rw [if_pos hj])
  exact zWv_ret hx hb hr hlocks hS dX0_copy_26 () trivial hP
set_option maxHeartbeats 4000000 in
set_option maxRecDepth 100000 in
/-- X0_grow -/
theorem c_X0_grow (l : Launch) (D : va_G) (cI : ClassId) (B C n : Nat) (b : Nat → Int) (hn : n < 6) : zWv (S := Unit) l yX0_grow wsX0_grow 2 44 D cI [.ref B] [(B, .inr (0, [.ref C, .int (iI ((n : Nat) : Int))])), (C, zArr cI 36 b)] (fun _ => True) (fun _ => [(B, .inr (0, [.ref C, .int (iI ((n + 1 : Nat) : Int))])), (C, zArr cI 36 (zGr b n (n + 1)))]) := by
  refine zWv_of (cc := cX0_grow) (maxL := 2) (by decide) rfl (Nat.le_of_ble_eq_true rfl) ?_
  intro p e s m args below meth c ls A hF hr hlocks hP hK hD hS hl
  have hF : zFix p m c cX0_grow 2 s args wsX0_grow RX0 := hF
  obtain ⟨hx, hb, hml, hown, hts⟩ := id hF
  have hP : va_P D vwCl [(B, .inr (0, [.ref C, .int (iI ((n : Nat) : Int))])), (C, zArr cI 36 b)] s.heap := hP
  have hD : va_D A [(B, .inr (0, [.ref C, .int (iI ((n : Nat) : Int))])), (C, zArr cI 36 b)] := hD
  skip
  have hl : lv_has ls 2 [(0, .ref B)] := hl
  refine lv_aload_n hx hb dX0_grow_0 rfl (lv_at hl 0 rfl) ?_
  refine va_get (D := D) (ci := 0) (v := .int (iI ((n : Nat) : Int))) (C := RX0) (T := TX0) (N := 2) hx hb hts (by decide +kernel) hown hK hP 0 rfl rfl 1 (by decide) (hts (.fieldLink RX0 15 "RentHarmony$Bids" "size" "I") (by decide +kernel)) (fun _ h9 => h9) rfl dX0_grow_1 ?_
  refine zr_bi (n := ((6 : Nat) : Int)) hx hb dX0_grow_4 rfl ?_
  refine zr_icmp_lt (tgt := 10) hx hb dX0_grow_6 (by decide) (zB_of (by omega) (by omega)) (zB_of (by omega) (by omega)) (fun c1 => ?_) (fun c1 => ?_)
  · refine lv_aload_n hx hb dX0_grow_10 rfl (lv_at hl 0 rfl) ?_
    refine lv_dup hx hb dX0_grow_11 rfl ?_
    refine va_get (D := D) (ci := 0) (v := .int (iI ((n : Nat) : Int))) (C := RX0) (T := TX0) (N := 2) hx hb hts (by decide +kernel) hown hK hP 0 rfl rfl 1 (by decide) (hts (.fieldLink RX0 15 "RentHarmony$Bids" "size" "I") (by decide +kernel)) (fun _ h9 => h9) rfl dX0_grow_12 ?_
    refine zr_ic (n := ((1 : Nat) : Int)) hx hb dX0_grow_15 ?_
    refine zr_addN (x := n) (y := 1) hx hb dX0_grow_16 ?_
    refine zr_topi (show ((n + 1 : Nat) : Int) = ((n + 1 : Nat) : Int) from (by omega)) ?_
    refine va_put (D := D) (ci := 0) (v := .int (iI ((n + 1 : Nat) : Int))) (ty := .int) (C := RX0) (T := TX0) (N := 2) hx hb hts (by decide +kernel) tyX0 tyX0_ok nmX0 hown hK hP hD hS 0 rfl rfl 1 (by decide) (hts (.fieldLink RX0 15 "RentHarmony$Bids" "size" "I") (by decide +kernel)) (fun _ h9 => h9) rfl (by decide +kernel) rfl rfl (Nat.le_of_ble_eq_true rfl) dX0_grow_17 (fun H locs hP hD hS => ?_)
    have hP : va_P D vwCl [(B, .inr (0, [.ref C, .int (iI ((n + 1 : Nat) : Int))])), (C, zArr cI 36 b)] H := hP
    have hD : va_D A [(B, .inr (0, [.ref C, .int (iI ((n + 1 : Nat) : Int))])), (C, zArr cI 36 b)] := hD
    refine zr_ic (n := ((0 : Nat) : Int)) hx hb dX0_grow_20 ?_
    refine lv_istore_n (lv' := [(1, .int (iI ((0 : Nat) : Int))), (0, .ref B)]) hx hb dX0_grow_21 rfl hl (by decide) rfl (fun ls hl => ?_)
    have LG : ∀ (k0 : Nat) (i : Nat), n + 1 - i < k0 → (hi : i ≤ n + 1) → ∀ (H : Heap) (locs : List Loc), va_P D vwCl [(B, .inr (0, [.ref C, .int (iI ((n + 1 : Nat) : Int))])), (C, zArr cI 36 (zGr b n i))] H → va_D A [(B, .inr (0, [.ref C, .int (iI ((n + 1 : Nat) : Int))])), (C, zArr cI 36 (zGr b n i))] → va_S A s.heap H locs → ∀ (ls : Array Slot), lv_has ls 2 [(0, .ref B), (1, .int (iI ((i : Nat) : Int)))] → W p l e (zRm 2 44) s m args below meth c H locs 0 0 (MQ below (va_Qv (S := Unit) (fun _ => True) (fun u t => va_P D vwCl ((fun _ => [(B, .inr (0, [.ref C, .int (iI ((n + 1 : Nat) : Int))])), (C, zArr cI 36 (zGr b n (n + 1)))]) u) t.heap) A) args s 0 0 A) (F0 m 22 ls []) := by
      intro k0
      induction k0 with
      | zero => intro i hk; exact absurd hk (Nat.not_lt_zero _)
      | succ k0 ih_LG =>
        intro i hk hi H locs hP hD hS ls hl
        refine lv_iload_n hx hb dX0_grow_22 rfl (lv_at hl 1 rfl) ?_
        refine lv_aload_n hx hb dX0_grow_23 rfl (lv_at hl 0 rfl) ?_
        refine va_get (D := D) (ci := 0) (v := .int (iI ((n + 1 : Nat) : Int))) (C := RX0) (T := TX0) (N := 2) hx hb hts (by decide +kernel) hown hK hP 0 rfl rfl 1 (by decide) (hts (.fieldLink RX0 15 "RentHarmony$Bids" "size" "I") (by decide +kernel)) (fun _ h9 => h9) rfl dX0_grow_24 ?_
        refine zr_icmp_ge (tgt := 60) hx hb dX0_grow_27 (by decide) (zB_of (by omega) (by omega)) (zB_of (by omega) (by omega)) (fun c2 => ?_) (fun c2 => ?_)
        · have e9 : i = n + 1 := by omega
          subst e9
          exact zWv_ret hx hb hr hlocks hS dX0_grow_60 () trivial hP
        · refine lv_aload_n hx hb dX0_grow_30 rfl (lv_at hl 0 rfl) ?_
          refine lv_aload_n hx hb dX0_grow_31 rfl (lv_at hl 0 rfl) ?_
          refine va_get (D := D) (ci := 0) (v := .int (iI ((n + 1 : Nat) : Int))) (C := RX0) (T := TX0) (N := 2) hx hb hts (by decide +kernel) hown hK hP 0 rfl rfl 1 (by decide) (hts (.fieldLink RX0 15 "RentHarmony$Bids" "size" "I") (by decide +kernel)) (fun _ h9 => h9) rfl dX0_grow_32 ?_
          refine zr_ic (n := ((1 : Nat) : Int)) hx hb dX0_grow_35 ?_
          refine zr_sub hx hb dX0_grow_36 ?_
          refine zr_topi (show (((n + 1 : Nat) : Int) - ((1 : Nat) : Int)) = ((n : Nat) : Int) from (by omega)) ?_
          refine lv_iload_n hx hb dX0_grow_37 rfl (lv_at hl 1 rfl) ?_
          refine zr_ic (n := ((0 : Nat) : Int)) hx hb dX0_grow_38 ?_
          refine zc_wv (As := [.int (iI ((n : Nat) : Int)), .int (iI ((i : Nat) : Int)), .int (iI ((0 : Nat) : Int))]) (rest := []) hF (c_X0_set l D cI B C (n + 1) (zGr b n i) n i ((0 : Nat) : Int) (by omega) (by omega) (by omega)) (cwV 3 hts gX0_grow_X0_set rfl rfl rfl (by decide +kernel) ⟨Nat.le_of_ble_eq_true rfl, Nat.le_of_ble_eq_true rfl⟩) hK hP hD hS [0, 1] rfl rfl (fun _ => rfl) 0 rfl 0 rfl rfl rfl rfl hl.1 rfl (Nat.le_of_ble_eq_true rfl) dX0_grow_39 ⟨Nat.zero_le _, Nat.zero_le _⟩ (fun u3 H locs hw hP hD hS => ?_)
          have hP : va_P D vwCl [(B, .inr (0, [.ref C, .int (iI ((n + 1 : Nat) : Int))])), (C, zArr cI 36 (uZ (zGr b n i) (n * 6 + i) ((0 : Nat) : Int)))] H := hP
          have hD : va_D A [(B, .inr (0, [.ref C, .int (iI ((n + 1 : Nat) : Int))])), (C, zArr cI 36 (uZ (zGr b n i) (n * 6 + i) ((0 : Nat) : Int)))] := hD
          refine lv_aload_n hx hb dX0_grow_42 rfl (lv_at hl 0 rfl) ?_
          refine lv_iload_n hx hb dX0_grow_43 rfl (lv_at hl 1 rfl) ?_
          refine lv_aload_n hx hb dX0_grow_44 rfl (lv_at hl 0 rfl) ?_
          refine va_get (D := D) (ci := 0) (v := .int (iI ((n + 1 : Nat) : Int))) (C := RX0) (T := TX0) (N := 2) hx hb hts (by decide +kernel) hown hK hP 0 rfl rfl 1 (by decide) (hts (.fieldLink RX0 15 "RentHarmony$Bids" "size" "I") (by decide +kernel)) (fun _ h9 => h9) rfl dX0_grow_45 ?_
          refine zr_ic (n := ((1 : Nat) : Int)) hx hb dX0_grow_48 ?_
          refine zr_sub hx hb dX0_grow_49 ?_
          refine zr_topi (show (((n + 1 : Nat) : Int) - ((1 : Nat) : Int)) = ((n : Nat) : Int) from (by omega)) ?_
          refine zr_ic (n := ((0 : Nat) : Int)) hx hb dX0_grow_50 ?_
          refine zc_wv (As := [.int (iI ((i : Nat) : Int)), .int (iI ((n : Nat) : Int)), .int (iI ((0 : Nat) : Int))]) (rest := []) hF (c_X0_set l D cI B C (n + 1) (uZ (zGr b n i) (n * 6 + i) ((0 : Nat) : Int)) i n ((0 : Nat) : Int) (by omega) (by omega) (by omega)) (cwV 3 hts gX0_grow_X0_set rfl rfl rfl (by decide +kernel) ⟨Nat.le_of_ble_eq_true rfl, Nat.le_of_ble_eq_true rfl⟩) hK hP hD hS [0, 1] rfl rfl (fun _ => rfl) 0 rfl 0 rfl rfl rfl rfl hl.1 rfl (Nat.le_of_ble_eq_true rfl) dX0_grow_51 ⟨Nat.zero_le _, Nat.zero_le _⟩ (fun u5 H locs hw hP hD hS => ?_)
          have hP : va_P D vwCl [(B, .inr (0, [.ref C, .int (iI ((n + 1 : Nat) : Int))])), (C, zArr cI 36 (uZ (uZ (zGr b n i) (n * 6 + i) ((0 : Nat) : Int)) (i * 6 + n) ((0 : Nat) : Int)))] H := hP
          have hD : va_D A [(B, .inr (0, [.ref C, .int (iI ((n + 1 : Nat) : Int))])), (C, zArr cI 36 (uZ (uZ (zGr b n i) (n * 6 + i) ((0 : Nat) : Int)) (i * 6 + n) ((0 : Nat) : Int)))] := hD
          refine zr_iinc (lv2 := [(1, .int (iI (((i : Nat) : Int) + 1))), (0, .ref B)]) hx hb dX0_grow_54 hl (k0 := 1) rfl (by decide) rfl (fun ls hl => ?_)
          have hl : lv_has ls 2 [(1, .int (iI ((i + 1 : Nat) : Int))), (0, .ref B)] := hl
          refine lv_goto (tgt := 22) hx hb dX0_grow_57 (by decide) ?_
          exact ih_LG (i + 1) (by omega) (by omega) _ _ hP hD hS _ (lv_sub hl [1, 0] rfl)
    exact LG ((n + 1 - (0)) + 1) (0) (Nat.lt_succ_self _) (by omega) _ _ hP hD hS _ (lv_sub hl [1, 0] rfl)
  · exact absurd c1 (by omega)
set_option maxHeartbeats 4000000 in
set_option maxRecDepth 100000 in
/-- X0_shrink -/
theorem c_X0_shrink (l : Launch) (D : va_G) (cI : ClassId) (B C n : Nat) (b : Nat → Int) (x y : Nat) (hn : n ≤ 6) (hx0 : x < n) (hy0 : y < n) : zWv (S := Unit) l yX0_shrink wsX0_shrink 2 44 D cI [.ref B, .int (iI ((x : Nat) : Int)), .int (iI ((y : Nat) : Int))] [(B, .inr (0, [.ref C, .int (iI ((n : Nat) : Int))])), (C, zArr cI 36 b)] (fun _ => True) (fun _ => [(B, .inr (0, [.ref C, .int (iI ((n - 1 : Nat) : Int))])), (C, zArr cI 36 (zSh x y (n - 1) b (n - 1)))]) := by
  refine zWv_of (cc := cX0_shrink) (maxL := 5) (by decide) rfl (Nat.le_of_ble_eq_true rfl) ?_
  intro p e s m args below meth c ls A hF hr hlocks hP hK hD hS hl
  have hF : zFix p m c cX0_shrink 5 s args wsX0_shrink RX0 := hF
  obtain ⟨hx, hb, hml, hown, hts⟩ := id hF
  have hP : va_P D vwCl [(B, .inr (0, [.ref C, .int (iI ((n : Nat) : Int))])), (C, zArr cI 36 b)] s.heap := hP
  have hD : va_D A [(B, .inr (0, [.ref C, .int (iI ((n : Nat) : Int))])), (C, zArr cI 36 b)] := hD
  skip
  have hl : lv_has ls 5 [(0, .ref B), (1, .int (iI ((x : Nat) : Int))), (2, .int (iI ((y : Nat) : Int)))] := hl
  refine lv_aload_n hx hb dX0_shrink_0 rfl (lv_at hl 0 rfl) ?_
  refine lv_iload_n hx hb dX0_shrink_1 rfl (lv_at hl 1 rfl) ?_
  refine zc_ri (As := [.int (iI ((x : Nat) : Int))]) (rest := []) hF (c_X0_has l D cI B C n b ((x : Nat) : Int) (by omega) (zB_of (by omega) (by omega))) (cwV 1 hts gX0_shrink_X0_has rfl rfl rfl (by decide +kernel) ⟨Nat.le_of_ble_eq_true rfl, Nat.le_of_ble_eq_true rfl⟩) hK hP [0, 1] rfl 0 rfl 0 rfl rfl rfl rfl hl.1 rfl (Nat.le_of_ble_eq_true rfl) dX0_shrink_2 ⟨Nat.zero_le _, Nat.zero_le _⟩ ?_
  refine zr_ifB_eq (tgt := 16) hx hb dX0_shrink_5 (by decide)  (fun c1 => ?_) (fun c1 => ?_)
  · exact absurd (by omega) c1
  · refine lv_aload_n hx hb dX0_shrink_8 rfl (lv_at hl 0 rfl) ?_
    refine lv_iload_n hx hb dX0_shrink_9 rfl (lv_at hl 2 rfl) ?_
    refine zc_ri (As := [.int (iI ((y : Nat) : Int))]) (rest := []) hF (c_X0_has l D cI B C n b ((y : Nat) : Int) (by omega) (zB_of (by omega) (by omega))) (cwV 1 hts gX0_shrink_X0_has rfl rfl rfl (by decide +kernel) ⟨Nat.le_of_ble_eq_true rfl, Nat.le_of_ble_eq_true rfl⟩) hK hP [0, 1] rfl 0 rfl 0 rfl rfl rfl rfl hl.1 rfl (Nat.le_of_ble_eq_true rfl) dX0_shrink_10 ⟨Nat.zero_le _, Nat.zero_le _⟩ ?_
    refine zr_ifB_ne (tgt := 17) hx hb dX0_shrink_13 (by decide)  (fun c2 => ?_) (fun c2 => ?_)
    · refine zr_ic (n := ((0 : Nat) : Int)) hx hb dX0_shrink_17 ?_
      refine lv_istore_n (lv' := [(3, .int (iI ((0 : Nat) : Int))), (0, .ref B), (1, .int (iI ((x : Nat) : Int))), (2, .int (iI ((y : Nat) : Int)))]) hx hb dX0_shrink_18 rfl hl (by decide) rfl (fun ls hl => ?_)
      have LO : ∀ (k0 : Nat) (k : Nat), n - 1 - k < k0 → (hk1 : k ≤ n - 1) → ∀ (H : Heap) (locs : List Loc), va_P D vwCl [(B, .inr (0, [.ref C, .int (iI ((n : Nat) : Int))])), (C, zArr cI 36 (zSh x y (n - 1) b k))] H → va_D A [(B, .inr (0, [.ref C, .int (iI ((n : Nat) : Int))])), (C, zArr cI 36 (zSh x y (n - 1) b k))] → va_S A s.heap H locs → ∀ (ls : Array Slot), lv_has ls 5 [(0, .ref B), (1, .int (iI ((x : Nat) : Int))), (2, .int (iI ((y : Nat) : Int))), (3, .int (iI ((k : Nat) : Int)))] → W p l e (zRm 2 44) s m args below meth c H locs 0 0 (MQ below (va_Qv (S := Unit) (fun _ => True) (fun u t => va_P D vwCl ((fun _ => [(B, .inr (0, [.ref C, .int (iI ((n - 1 : Nat) : Int))])), (C, zArr cI 36 (zSh x y (n - 1) b (n - 1)))]) u) t.heap) A) args s 0 0 A) (F0 m 19 ls []) := by
        intro k0
        induction k0 with
        | zero => intro k hk; exact absurd hk (Nat.not_lt_zero _)
        | succ k0 ih_LO =>
          intro k hk hk1 H locs hP hD hS ls hl
          refine lv_iload_n hx hb dX0_shrink_19 rfl (lv_at hl 3 rfl) ?_
          refine lv_aload_n hx hb dX0_shrink_20 rfl (lv_at hl 0 rfl) ?_
          refine va_get (D := D) (ci := 0) (v := .int (iI ((n : Nat) : Int))) (C := RX0) (T := TX0) (N := 2) hx hb hts (by decide +kernel) hown hK hP 0 rfl rfl 1 (by decide) (hts (.fieldLink RX0 15 "RentHarmony$Bids" "size" "I") (by decide +kernel)) (fun _ h9 => h9) rfl dX0_shrink_21 ?_
          refine zr_ic (n := ((1 : Nat) : Int)) hx hb dX0_shrink_24 ?_
          refine zr_sub hx hb dX0_shrink_25 ?_
          refine zr_icmp_ge (tgt := 93) hx hb dX0_shrink_26 (by decide) (zB_of (by omega) (by omega)) (zB_of (by omega) (by omega)) (fun c3 => ?_) (fun c3 => ?_)
          · refine lv_aload_n hx hb dX0_shrink_93 rfl (lv_at hl 0 rfl) ?_
            refine lv_dup hx hb dX0_shrink_94 rfl ?_
            refine va_get (D := D) (ci := 0) (v := .int (iI ((n : Nat) : Int))) (C := RX0) (T := TX0) (N := 2) hx hb hts (by decide +kernel) hown hK hP 0 rfl rfl 1 (by decide) (hts (.fieldLink RX0 15 "RentHarmony$Bids" "size" "I") (by decide +kernel)) (fun _ h9 => h9) rfl dX0_shrink_95 ?_
            refine zr_ic (n := ((1 : Nat) : Int)) hx hb dX0_shrink_98 ?_
            refine zr_sub hx hb dX0_shrink_99 ?_
            refine zr_topi (show (((n : Nat) : Int) - ((1 : Nat) : Int)) = ((n - 1 : Nat) : Int) from (by omega)) ?_
            refine va_put (D := D) (ci := 0) (v := .int (iI ((n - 1 : Nat) : Int))) (ty := .int) (C := RX0) (T := TX0) (N := 2) hx hb hts (by decide +kernel) tyX0 tyX0_ok nmX0 hown hK hP hD hS 0 rfl rfl 1 (by decide) (hts (.fieldLink RX0 15 "RentHarmony$Bids" "size" "I") (by decide +kernel)) (fun _ h9 => h9) rfl (by decide +kernel) rfl rfl (Nat.le_of_ble_eq_true rfl) dX0_shrink_100 (fun H locs hP hD hS => ?_)
            have hP : va_P D vwCl [(B, .inr (0, [.ref C, .int (iI ((n - 1 : Nat) : Int))])), (C, zArr cI 36 (zSh x y (n - 1) b k))] H := hP
            have hD : va_D A [(B, .inr (0, [.ref C, .int (iI ((n - 1 : Nat) : Int))])), (C, zArr cI 36 (zSh x y (n - 1) b k))] := hD
            have e9 : k = n - 1 := by omega
            subst e9
            exact zWv_ret hx hb hr hlocks hS dX0_shrink_103 () trivial hP
          · refine zr_ic (n := ((0 : Nat) : Int)) hx hb dX0_shrink_29 ?_
            refine lv_istore (lv' := [(4, .int (iI ((0 : Nat) : Int))), (0, .ref B), (1, .int (iI ((x : Nat) : Int))), (2, .int (iI ((y : Nat) : Int))), (3, .int (iI ((k : Nat) : Int)))]) hx hb dX0_shrink_30 hl (by decide) rfl (fun ls hl => ?_)
            have LI : ∀ (k0 : Nat) (r : Nat), n - 1 - r < k0 → (hr1 : r ≤ n - 1) → ∀ (H : Heap) (locs : List Loc), va_P D vwCl [(B, .inr (0, [.ref C, .int (iI ((n : Nat) : Int))])), (C, zArr cI 36 (zSh1 x y k (zSh x y (n - 1) b k) r))] H → va_D A [(B, .inr (0, [.ref C, .int (iI ((n : Nat) : Int))])), (C, zArr cI 36 (zSh1 x y k (zSh x y (n - 1) b k) r))] → va_S A s.heap H locs → ∀ (ls : Array Slot), lv_has ls 5 [(0, .ref B), (1, .int (iI ((x : Nat) : Int))), (2, .int (iI ((y : Nat) : Int))), (3, .int (iI ((k : Nat) : Int))), (4, .int (iI ((r : Nat) : Int)))] → W p l e (zRm 2 44) s m args below meth c H locs 0 0 (MQ below (va_Qv (S := Unit) (fun _ => True) (fun u t => va_P D vwCl ((fun _ => [(B, .inr (0, [.ref C, .int (iI ((n - 1 : Nat) : Int))])), (C, zArr cI 36 (zSh x y (n - 1) b (n - 1)))]) u) t.heap) A) args s 0 0 A) (F0 m 32 ls []) := by
              intro k0
              induction k0 with
              | zero => intro r hk; exact absurd hk (Nat.not_lt_zero _)
              | succ k0 ih_LI =>
                intro r hk hr1 H locs hP hD hS ls hl
                refine lv_iload hx hb dX0_shrink_32 (lv_at hl 4 rfl) ?_
                refine lv_aload_n hx hb dX0_shrink_34 rfl (lv_at hl 0 rfl) ?_
                refine va_get (D := D) (ci := 0) (v := .int (iI ((n : Nat) : Int))) (C := RX0) (T := TX0) (N := 2) hx hb hts (by decide +kernel) hown hK hP 0 rfl rfl 1 (by decide) (hts (.fieldLink RX0 15 "RentHarmony$Bids" "size" "I") (by decide +kernel)) (fun _ h9 => h9) rfl dX0_shrink_35 ?_
                refine zr_ic (n := ((1 : Nat) : Int)) hx hb dX0_shrink_38 ?_
                refine zr_sub hx hb dX0_shrink_39 ?_
                refine zr_icmp_ge (tgt := 87) hx hb dX0_shrink_40 (by decide) (zB_of (by omega) (by omega)) (zB_of (by omega) (by omega)) (fun c4 => ?_) (fun c4 => ?_)
                · have e8 : r = n - 1 := by omega
                  have hP : va_P D vwCl [(B, .inr (0, [.ref C, .int (iI ((n : Nat) : Int))])), (C, zArr cI 36 (zSh x y (n - 1) b (k + 1)))] H := by rw [e8] at hP; exact hP
                  have hD : va_D A [(B, .inr (0, [.ref C, .int (iI ((n : Nat) : Int))])), (C, zArr cI 36 (zSh x y (n - 1) b (k + 1)))] := by rw [e8] at hD; exact hD
                  refine zr_iinc (lv2 := [(3, .int (iI (((k : Nat) : Int) + 1))), (0, .ref B), (1, .int (iI ((x : Nat) : Int))), (2, .int (iI ((y : Nat) : Int))), (4, .int (iI ((r : Nat) : Int)))]) hx hb dX0_shrink_87 hl (k0 := 3) rfl (by decide) rfl (fun ls hl => ?_)
                  have hl : lv_has ls 5 [(3, .int (iI ((k + 1 : Nat) : Int))), (0, .ref B), (1, .int (iI ((x : Nat) : Int))), (2, .int (iI ((y : Nat) : Int))), (4, .int (iI ((r : Nat) : Int)))] := hl
                  refine lv_goto (tgt := 19) hx hb dX0_shrink_90 (by decide) ?_
                  exact ih_LO (k + 1) (by omega) (by omega) _ _ hP hD hS _ (lv_sub hl [1, 2, 3, 0] rfl)
                · refine lv_aload_n hx hb dX0_shrink_43 rfl (lv_at hl 0 rfl) ?_
                  refine lv_iload_n hx hb dX0_shrink_44 rfl (lv_at hl 3 rfl) ?_
                  refine lv_iload hx hb dX0_shrink_45 (lv_at hl 4 rfl) ?_
                  refine lv_aload_n hx hb dX0_shrink_47 rfl (lv_at hl 0 rfl) ?_
                  refine lv_iload_n hx hb dX0_shrink_48 rfl (lv_at hl 3 rfl) ?_
                  refine lv_iload_n hx hb dX0_shrink_49 rfl (lv_at hl 1 rfl) ?_
                  refine zr_icmp_ge (tgt := 57) hx hb dX0_shrink_50 (by decide) (zB_of (by omega) (by omega)) (zB_of (by omega) (by omega)) (fun c5 => ?_) (fun c5 => ?_)
                  · refine lv_iload_n hx hb dX0_shrink_57 rfl (lv_at hl 3 rfl) ?_
                    refine zr_ic (n := ((1 : Nat) : Int)) hx hb dX0_shrink_58 ?_
                    refine zr_addN (x := k) (y := 1) hx hb dX0_shrink_59 ?_
                    refine lv_iload hx hb dX0_shrink_60 (lv_at hl 4 rfl) ?_
                    refine lv_iload_n hx hb dX0_shrink_62 rfl (lv_at hl 2 rfl) ?_
                    refine zr_icmp_ge (tgt := 71) hx hb dX0_shrink_63 (by decide) (zB_of (by omega) (by omega)) (zB_of (by omega) (by omega)) (fun c6 => ?_) (fun c6 => ?_)
                    · refine lv_iload hx hb dX0_shrink_71 (lv_at hl 4 rfl) ?_
                      refine zr_ic (n := ((1 : Nat) : Int)) hx hb dX0_shrink_73 ?_
                      refine zr_addN (x := r) (y := 1) hx hb dX0_shrink_74 ?_
                      refine zc_ri (As := [.int (iI ((k + 1 : Nat) : Int)), .int (iI ((r + 1 : Nat) : Int))]) (rest := [.int (iI ((r : Nat) : Int)), .int (iI ((k : Nat) : Int)), .ref B]) hF (c_X0_of l D cI B C n (zSh1 x y k (zSh x y (n - 1) b k) r) (k + 1) (r + 1) (by omega) (by omega) (by omega)) (cwV 2 hts gX0_shrink_X0_of rfl rfl rfl (by decide +kernel) ⟨Nat.le_of_ble_eq_true rfl, Nat.le_of_ble_eq_true rfl⟩) hK hP [0, 1] rfl 0 rfl 0 rfl rfl rfl rfl hl.1 rfl (Nat.le_of_ble_eq_true rfl) dX0_shrink_75 ⟨Nat.zero_le _, Nat.zero_le _⟩ ?_
                      refine zc_wv (As := [.int (iI ((k : Nat) : Int)), .int (iI ((r : Nat) : Int)), .int (iI ((zSh1 x y k (zSh x y (n - 1) b k) r) ((k + 1) * 6 + (r + 1))))]) (rest := []) hF (c_X0_set l D cI B C n (zSh1 x y k (zSh x y (n - 1) b k) r) k r ((zSh1 x y k (zSh x y (n - 1) b k) r) ((k + 1) * 6 + (r + 1))) (by omega) (by omega) (by omega)) (cwV 3 hts gX0_shrink_X0_set rfl rfl rfl (by decide +kernel) ⟨Nat.le_of_ble_eq_true rfl, Nat.le_of_ble_eq_true rfl⟩) hK hP hD hS [0, 1] rfl rfl (fun _ => rfl) 0 rfl 0 rfl rfl rfl rfl hl.1 rfl (Nat.le_of_ble_eq_true rfl) dX0_shrink_78 ⟨Nat.zero_le _, Nat.zero_le _⟩ (fun u7 H locs hw hP hD hS => ?_)
                      have hP : va_P D vwCl [(B, .inr (0, [.ref C, .int (iI ((n : Nat) : Int))])), (C, zArr cI 36 (uZ (zSh1 x y k (zSh x y (n - 1) b k) r) (k * 6 + r) ((zSh1 x y k (zSh x y (n - 1) b k) r) ((k + 1) * 6 + (r + 1)))))] H := hP
                      have hD : va_D A [(B, .inr (0, [.ref C, .int (iI ((n : Nat) : Int))])), (C, zArr cI 36 (uZ (zSh1 x y k (zSh x y (n - 1) b k) r) (k * 6 + r) ((zSh1 x y k (zSh x y (n - 1) b k) r) ((k + 1) * 6 + (r + 1)))))] := hD
                      refine zr_iinc (lv2 := [(4, .int (iI (((r : Nat) : Int) + 1))), (0, .ref B), (1, .int (iI ((x : Nat) : Int))), (2, .int (iI ((y : Nat) : Int))), (3, .int (iI ((k : Nat) : Int)))]) hx hb dX0_shrink_81 hl (k0 := 4) rfl (by decide) rfl (fun ls hl => ?_)
                      have hl : lv_has ls 5 [(4, .int (iI ((r + 1 : Nat) : Int))), (0, .ref B), (1, .int (iI ((x : Nat) : Int))), (2, .int (iI ((y : Nat) : Int))), (3, .int (iI ((k : Nat) : Int)))] := hl
                      refine lv_goto (tgt := 32) hx hb dX0_shrink_84 (by decide) ?_
                      have e1 : (if k < x then k else k + 1) = k + 1 := by split <;> omega
                      have e2 : (if r < y then r else r + 1) = r + 1 := by split <;> omega
                      have e3 : zSh1 x y k (zSh x y (n - 1) b k) (r + 1) = uZ (zSh1 x y k (zSh x y (n - 1) b k) r) (k * 6 + r) (zSh1 x y k (zSh x y (n - 1) b k) r ((k + 1) * 6 + (r + 1))) := by show uZ _ _ _ = _; rw [e1, e2]
                      have hP : va_P D vwCl [(B, .inr (0, [.ref C, .int (iI ((n : Nat) : Int))])), (C, zArr cI 36 (zSh1 x y k (zSh x y (n - 1) b k) (r + 1)))] H := by rw [e3]; exact hP
                      have hD : va_D A [(B, .inr (0, [.ref C, .int (iI ((n : Nat) : Int))])), (C, zArr cI 36 (zSh1 x y k (zSh x y (n - 1) b k) (r + 1)))] := by rw [e3]; exact hD
                      exact ih_LI (r + 1) (by omega) (by omega) _ _ hP hD hS _ (lv_sub hl [1, 2, 3, 4, 0] rfl)
                    · refine lv_iload hx hb dX0_shrink_66 (lv_at hl 4 rfl) ?_
                      refine lv_goto (tgt := 75) hx hb dX0_shrink_68 (by decide) ?_
                      refine zc_ri (As := [.int (iI ((k + 1 : Nat) : Int)), .int (iI ((r : Nat) : Int))]) (rest := [.int (iI ((r : Nat) : Int)), .int (iI ((k : Nat) : Int)), .ref B]) hF (c_X0_of l D cI B C n (zSh1 x y k (zSh x y (n - 1) b k) r) (k + 1) r (by omega) (by omega) (by omega)) (cwV 2 hts gX0_shrink_X0_of rfl rfl rfl (by decide +kernel) ⟨Nat.le_of_ble_eq_true rfl, Nat.le_of_ble_eq_true rfl⟩) hK hP [0, 1] rfl 0 rfl 0 rfl rfl rfl rfl hl.1 rfl (Nat.le_of_ble_eq_true rfl) dX0_shrink_75 ⟨Nat.zero_le _, Nat.zero_le _⟩ ?_
                      refine zc_wv (As := [.int (iI ((k : Nat) : Int)), .int (iI ((r : Nat) : Int)), .int (iI ((zSh1 x y k (zSh x y (n - 1) b k) r) ((k + 1) * 6 + r)))]) (rest := []) hF (c_X0_set l D cI B C n (zSh1 x y k (zSh x y (n - 1) b k) r) k r ((zSh1 x y k (zSh x y (n - 1) b k) r) ((k + 1) * 6 + r)) (by omega) (by omega) (by omega)) (cwV 3 hts gX0_shrink_X0_set rfl rfl rfl (by decide +kernel) ⟨Nat.le_of_ble_eq_true rfl, Nat.le_of_ble_eq_true rfl⟩) hK hP hD hS [0, 1] rfl rfl (fun _ => rfl) 0 rfl 0 rfl rfl rfl rfl hl.1 rfl (Nat.le_of_ble_eq_true rfl) dX0_shrink_78 ⟨Nat.zero_le _, Nat.zero_le _⟩ (fun u9 H locs hw hP hD hS => ?_)
                      have hP : va_P D vwCl [(B, .inr (0, [.ref C, .int (iI ((n : Nat) : Int))])), (C, zArr cI 36 (uZ (zSh1 x y k (zSh x y (n - 1) b k) r) (k * 6 + r) ((zSh1 x y k (zSh x y (n - 1) b k) r) ((k + 1) * 6 + r))))] H := hP
                      have hD : va_D A [(B, .inr (0, [.ref C, .int (iI ((n : Nat) : Int))])), (C, zArr cI 36 (uZ (zSh1 x y k (zSh x y (n - 1) b k) r) (k * 6 + r) ((zSh1 x y k (zSh x y (n - 1) b k) r) ((k + 1) * 6 + r))))] := hD
                      refine zr_iinc (lv2 := [(4, .int (iI (((r : Nat) : Int) + 1))), (0, .ref B), (1, .int (iI ((x : Nat) : Int))), (2, .int (iI ((y : Nat) : Int))), (3, .int (iI ((k : Nat) : Int)))]) hx hb dX0_shrink_81 hl (k0 := 4) rfl (by decide) rfl (fun ls hl => ?_)
                      have hl : lv_has ls 5 [(4, .int (iI ((r + 1 : Nat) : Int))), (0, .ref B), (1, .int (iI ((x : Nat) : Int))), (2, .int (iI ((y : Nat) : Int))), (3, .int (iI ((k : Nat) : Int)))] := hl
                      refine lv_goto (tgt := 32) hx hb dX0_shrink_84 (by decide) ?_
                      have e1 : (if k < x then k else k + 1) = k + 1 := by split <;> omega
                      have e2 : (if r < y then r else r + 1) = r := by split <;> omega
                      have e3 : zSh1 x y k (zSh x y (n - 1) b k) (r + 1) = uZ (zSh1 x y k (zSh x y (n - 1) b k) r) (k * 6 + r) (zSh1 x y k (zSh x y (n - 1) b k) r ((k + 1) * 6 + (r))) := by show uZ _ _ _ = _; rw [e1, e2]
                      have hP : va_P D vwCl [(B, .inr (0, [.ref C, .int (iI ((n : Nat) : Int))])), (C, zArr cI 36 (zSh1 x y k (zSh x y (n - 1) b k) (r + 1)))] H := by rw [e3]; exact hP
                      have hD : va_D A [(B, .inr (0, [.ref C, .int (iI ((n : Nat) : Int))])), (C, zArr cI 36 (zSh1 x y k (zSh x y (n - 1) b k) (r + 1)))] := by rw [e3]; exact hD
                      exact ih_LI (r + 1) (by omega) (by omega) _ _ hP hD hS _ (lv_sub hl [1, 2, 3, 4, 0] rfl)
                  · refine lv_iload_n hx hb dX0_shrink_53 rfl (lv_at hl 3 rfl) ?_
                    refine lv_goto (tgt := 60) hx hb dX0_shrink_54 (by decide) ?_
                    refine lv_iload hx hb dX0_shrink_60 (lv_at hl 4 rfl) ?_
                    refine lv_iload_n hx hb dX0_shrink_62 rfl (lv_at hl 2 rfl) ?_
                    refine zr_icmp_ge (tgt := 71) hx hb dX0_shrink_63 (by decide) (zB_of (by omega) (by omega)) (zB_of (by omega) (by omega)) (fun c11 => ?_) (fun c11 => ?_)
                    · refine lv_iload hx hb dX0_shrink_71 (lv_at hl 4 rfl) ?_
                      refine zr_ic (n := ((1 : Nat) : Int)) hx hb dX0_shrink_73 ?_
                      refine zr_addN (x := r) (y := 1) hx hb dX0_shrink_74 ?_
                      refine zc_ri (As := [.int (iI ((k : Nat) : Int)), .int (iI ((r + 1 : Nat) : Int))]) (rest := [.int (iI ((r : Nat) : Int)), .int (iI ((k : Nat) : Int)), .ref B]) hF (c_X0_of l D cI B C n (zSh1 x y k (zSh x y (n - 1) b k) r) k (r + 1) (by omega) (by omega) (by omega)) (cwV 2 hts gX0_shrink_X0_of rfl rfl rfl (by decide +kernel) ⟨Nat.le_of_ble_eq_true rfl, Nat.le_of_ble_eq_true rfl⟩) hK hP [0, 1] rfl 0 rfl 0 rfl rfl rfl rfl hl.1 rfl (Nat.le_of_ble_eq_true rfl) dX0_shrink_75 ⟨Nat.zero_le _, Nat.zero_le _⟩ ?_
                      refine zc_wv (As := [.int (iI ((k : Nat) : Int)), .int (iI ((r : Nat) : Int)), .int (iI ((zSh1 x y k (zSh x y (n - 1) b k) r) (k * 6 + (r + 1))))]) (rest := []) hF (c_X0_set l D cI B C n (zSh1 x y k (zSh x y (n - 1) b k) r) k r ((zSh1 x y k (zSh x y (n - 1) b k) r) (k * 6 + (r + 1))) (by omega) (by omega) (by omega)) (cwV 3 hts gX0_shrink_X0_set rfl rfl rfl (by decide +kernel) ⟨Nat.le_of_ble_eq_true rfl, Nat.le_of_ble_eq_true rfl⟩) hK hP hD hS [0, 1] rfl rfl (fun _ => rfl) 0 rfl 0 rfl rfl rfl rfl hl.1 rfl (Nat.le_of_ble_eq_true rfl) dX0_shrink_78 ⟨Nat.zero_le _, Nat.zero_le _⟩ (fun u12 H locs hw hP hD hS => ?_)
                      have hP : va_P D vwCl [(B, .inr (0, [.ref C, .int (iI ((n : Nat) : Int))])), (C, zArr cI 36 (uZ (zSh1 x y k (zSh x y (n - 1) b k) r) (k * 6 + r) ((zSh1 x y k (zSh x y (n - 1) b k) r) (k * 6 + (r + 1)))))] H := hP
                      have hD : va_D A [(B, .inr (0, [.ref C, .int (iI ((n : Nat) : Int))])), (C, zArr cI 36 (uZ (zSh1 x y k (zSh x y (n - 1) b k) r) (k * 6 + r) ((zSh1 x y k (zSh x y (n - 1) b k) r) (k * 6 + (r + 1)))))] := hD
                      refine zr_iinc (lv2 := [(4, .int (iI (((r : Nat) : Int) + 1))), (0, .ref B), (1, .int (iI ((x : Nat) : Int))), (2, .int (iI ((y : Nat) : Int))), (3, .int (iI ((k : Nat) : Int)))]) hx hb dX0_shrink_81 hl (k0 := 4) rfl (by decide) rfl (fun ls hl => ?_)
                      have hl : lv_has ls 5 [(4, .int (iI ((r + 1 : Nat) : Int))), (0, .ref B), (1, .int (iI ((x : Nat) : Int))), (2, .int (iI ((y : Nat) : Int))), (3, .int (iI ((k : Nat) : Int)))] := hl
                      refine lv_goto (tgt := 32) hx hb dX0_shrink_84 (by decide) ?_
                      have e1 : (if k < x then k else k + 1) = k := by split <;> omega
                      have e2 : (if r < y then r else r + 1) = r + 1 := by split <;> omega
                      have e3 : zSh1 x y k (zSh x y (n - 1) b k) (r + 1) = uZ (zSh1 x y k (zSh x y (n - 1) b k) r) (k * 6 + r) (zSh1 x y k (zSh x y (n - 1) b k) r ((k) * 6 + (r + 1))) := by show uZ _ _ _ = _; rw [e1, e2]
                      have hP : va_P D vwCl [(B, .inr (0, [.ref C, .int (iI ((n : Nat) : Int))])), (C, zArr cI 36 (zSh1 x y k (zSh x y (n - 1) b k) (r + 1)))] H := by rw [e3]; exact hP
                      have hD : va_D A [(B, .inr (0, [.ref C, .int (iI ((n : Nat) : Int))])), (C, zArr cI 36 (zSh1 x y k (zSh x y (n - 1) b k) (r + 1)))] := by rw [e3]; exact hD
                      exact ih_LI (r + 1) (by omega) (by omega) _ _ hP hD hS _ (lv_sub hl [1, 2, 3, 4, 0] rfl)
                    · refine lv_iload hx hb dX0_shrink_66 (lv_at hl 4 rfl) ?_
                      refine lv_goto (tgt := 75) hx hb dX0_shrink_68 (by decide) ?_
                      refine zc_ri (As := [.int (iI ((k : Nat) : Int)), .int (iI ((r : Nat) : Int))]) (rest := [.int (iI ((r : Nat) : Int)), .int (iI ((k : Nat) : Int)), .ref B]) hF (c_X0_of l D cI B C n (zSh1 x y k (zSh x y (n - 1) b k) r) k r (by omega) (by omega) (by omega)) (cwV 2 hts gX0_shrink_X0_of rfl rfl rfl (by decide +kernel) ⟨Nat.le_of_ble_eq_true rfl, Nat.le_of_ble_eq_true rfl⟩) hK hP [0, 1] rfl 0 rfl 0 rfl rfl rfl rfl hl.1 rfl (Nat.le_of_ble_eq_true rfl) dX0_shrink_75 ⟨Nat.zero_le _, Nat.zero_le _⟩ ?_
                      refine zc_wv (As := [.int (iI ((k : Nat) : Int)), .int (iI ((r : Nat) : Int)), .int (iI ((zSh1 x y k (zSh x y (n - 1) b k) r) (k * 6 + r)))]) (rest := []) hF (c_X0_set l D cI B C n (zSh1 x y k (zSh x y (n - 1) b k) r) k r ((zSh1 x y k (zSh x y (n - 1) b k) r) (k * 6 + r)) (by omega) (by omega) (by omega)) (cwV 3 hts gX0_shrink_X0_set rfl rfl rfl (by decide +kernel) ⟨Nat.le_of_ble_eq_true rfl, Nat.le_of_ble_eq_true rfl⟩) hK hP hD hS [0, 1] rfl rfl (fun _ => rfl) 0 rfl 0 rfl rfl rfl rfl hl.1 rfl (Nat.le_of_ble_eq_true rfl) dX0_shrink_78 ⟨Nat.zero_le _, Nat.zero_le _⟩ (fun u14 H locs hw hP hD hS => ?_)
                      have hP : va_P D vwCl [(B, .inr (0, [.ref C, .int (iI ((n : Nat) : Int))])), (C, zArr cI 36 (uZ (zSh1 x y k (zSh x y (n - 1) b k) r) (k * 6 + r) ((zSh1 x y k (zSh x y (n - 1) b k) r) (k * 6 + r))))] H := hP
                      have hD : va_D A [(B, .inr (0, [.ref C, .int (iI ((n : Nat) : Int))])), (C, zArr cI 36 (uZ (zSh1 x y k (zSh x y (n - 1) b k) r) (k * 6 + r) ((zSh1 x y k (zSh x y (n - 1) b k) r) (k * 6 + r))))] := hD
                      refine zr_iinc (lv2 := [(4, .int (iI (((r : Nat) : Int) + 1))), (0, .ref B), (1, .int (iI ((x : Nat) : Int))), (2, .int (iI ((y : Nat) : Int))), (3, .int (iI ((k : Nat) : Int)))]) hx hb dX0_shrink_81 hl (k0 := 4) rfl (by decide) rfl (fun ls hl => ?_)
                      have hl : lv_has ls 5 [(4, .int (iI ((r + 1 : Nat) : Int))), (0, .ref B), (1, .int (iI ((x : Nat) : Int))), (2, .int (iI ((y : Nat) : Int))), (3, .int (iI ((k : Nat) : Int)))] := hl
                      refine lv_goto (tgt := 32) hx hb dX0_shrink_84 (by decide) ?_
                      have e1 : (if k < x then k else k + 1) = k := by split <;> omega
                      have e2 : (if r < y then r else r + 1) = r := by split <;> omega
                      have e3 : zSh1 x y k (zSh x y (n - 1) b k) (r + 1) = uZ (zSh1 x y k (zSh x y (n - 1) b k) r) (k * 6 + r) (zSh1 x y k (zSh x y (n - 1) b k) r ((k) * 6 + (r))) := by show uZ _ _ _ = _; rw [e1, e2]
                      have hP : va_P D vwCl [(B, .inr (0, [.ref C, .int (iI ((n : Nat) : Int))])), (C, zArr cI 36 (zSh1 x y k (zSh x y (n - 1) b k) (r + 1)))] H := by rw [e3]; exact hP
                      have hD : va_D A [(B, .inr (0, [.ref C, .int (iI ((n : Nat) : Int))])), (C, zArr cI 36 (zSh1 x y k (zSh x y (n - 1) b k) (r + 1)))] := by rw [e3]; exact hD
                      exact ih_LI (r + 1) (by omega) (by omega) _ _ hP hD hS _ (lv_sub hl [1, 2, 3, 4, 0] rfl)
            exact LI ((n - 1 - (0)) + 1) (0) (Nat.lt_succ_self _) (by omega) _ _ hP hD hS _ (lv_sub hl [1, 2, 3, 4, 0] rfl)
      exact LO ((n - 1 - (0)) + 1) (0) (Nat.lt_succ_self _) (by omega) _ _ hP hD hS _ (lv_sub hl [1, 2, 3, 0] rfl)
    · exact absurd (by omega) c2
