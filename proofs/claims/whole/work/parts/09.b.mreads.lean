set_option maxHeartbeats 4000000 in
set_option maxRecDepth 100000 in
/-- X3_isIn -/
theorem c_X3_isIn (l : Launch) (D : va_G) (cI : ClassId) (x y z : Int) (h1 : zB x) (h2 : zB y) (h3 : zB z) : zRi l yX3_isIn wsX3_isIn 0 0 D cI [.int (iI (x)), .int (iI (y)), .int (iI (z))] [] (iI (bZ (y ≤ x ∧ x ≤ z))) := by
  refine zRi_of (cc := cX3_isIn) (maxL := 3) (rt := .boolean) (by decide) rfl (Nat.le_of_ble_eq_true rfl) ?_
  intro p e s m args below meth c ls hF hr hlocks hP hK hl
  have hF : zFix p m c cX3_isIn 3 s args wsX3_isIn RX3 := hF
  obtain ⟨hx, hb, hml, hown, hts⟩ := id hF
  have hP : va_P D vwCl [] s.heap := hP
  have h11 := h1.1
  have h12 := h1.2
  have h21 := h2.1
  have h22 := h2.2
  have h31 := h3.1
  have h32 := h3.2
  have hl : lv_has ls 3 [(0, .int (iI (x))), (1, .int (iI (y))), (2, .int (iI (z)))] := hl
  refine lv_iload_n hx hb dX3_isIn_0 rfl (lv_at hl 0 rfl) ?_
  refine lv_iload_n hx hb dX3_isIn_1 rfl (lv_at hl 1 rfl) ?_
  refine zr_icmp_lt (tgt := 14) hx hb dX3_isIn_2 (by decide) (zB_of (by omega) (by omega)) (zB_of (by omega) (by omega)) (fun c1 => ?_) (fun c1 => ?_)
  · refine zr_ic (n := ((0 : Nat) : Int)) hx hb dX3_isIn_14 ?_
    exact zRi_retz hx hb hr rfl hlocks dX3_isIn_15 (congrArg iI (bZ_f (by omega)).symm)
  · refine lv_iload_n hx hb dX3_isIn_5 rfl (lv_at hl 0 rfl) ?_
    refine lv_iload_n hx hb dX3_isIn_6 rfl (lv_at hl 2 rfl) ?_
    refine zr_icmp_gt (tgt := 14) hx hb dX3_isIn_7 (by decide) (zB_of (by omega) (by omega)) (zB_of (by omega) (by omega)) (fun c2 => ?_) (fun c2 => ?_)
    · refine zr_ic (n := ((0 : Nat) : Int)) hx hb dX3_isIn_14 ?_
      exact zRi_retz hx hb hr rfl hlocks dX3_isIn_15 (congrArg iI (bZ_f (by omega)).symm)
    · refine zr_ic (n := ((1 : Nat) : Int)) hx hb dX3_isIn_10 ?_
      refine lv_goto (tgt := 15) hx hb dX3_isIn_11 (by decide) ?_
      exact zRi_retz hx hb hr rfl hlocks dX3_isIn_15 (congrArg iI (bZ_t (by omega)).symm)
set_option maxHeartbeats 4000000 in
set_option maxRecDepth 100000 in
/-- X3_isOne -/
theorem c_X3_isOne (l : Launch) (D : va_G) (cI : ClassId) (M MB MR ME MZ MT n : Nat) (b mr me mq mt : Nat → Int) (th rc wo wy po fe wh wi mu : Int) (z : Int) (hn : n ≤ 6) (hz : zB z) : zRi l yX3_isOne wsX3_isOne 1 22 D cI [.ref M, .int (iI (z))] [(M, .inr (3, [.int (iI (th)), .int (iI ((n : Nat) : Int)), .int (iI (rc)), .ref MB, .ref MR, .ref ME, .ref MZ, .int (iI (wo)), .int (iI (wy)), .int (iI (po)), .ref MT, .int (iI (fe)), .int (iI (wh)), .int (iI (wi)), .int (iI (mu))])), (MB, zArr cI 36 b), (MR, zArr cI 6 mr), (ME, zArr cI 6 me), (MZ, zArr cI 6 mq), (MT, zArr cI 6 mt)] (iI (bZ (0 ≤ z ∧ z < (n : Int)))) := by
  refine zRi_of (cc := cX3_isOne) (maxL := 2) (rt := .boolean) (by decide) rfl (Nat.le_of_ble_eq_true rfl) ?_
  intro p e s m args below meth c ls hF hr hlocks hP hK hl
  have hF : zFix p m c cX3_isOne 2 s args wsX3_isOne RX3 := hF
  obtain ⟨hx, hb, hml, hown, hts⟩ := id hF
  have hP : va_P D vwCl [(M, .inr (3, [.int (iI (th)), .int (iI ((n : Nat) : Int)), .int (iI (rc)), .ref MB, .ref MR, .ref ME, .ref MZ, .int (iI (wo)), .int (iI (wy)), .int (iI (po)), .ref MT, .int (iI (fe)), .int (iI (wh)), .int (iI (wi)), .int (iI (mu))])), (MB, zArr cI 36 b), (MR, zArr cI 6 mr), (ME, zArr cI 6 me), (MZ, zArr cI 6 mq), (MT, zArr cI 6 mt)] s.heap := hP
  have hz1 := hz.1
  have hz2 := hz.2
  have hl : lv_has ls 2 [(0, .ref M), (1, .int (iI (z)))] := hl
  refine lv_iload_n hx hb dX3_isOne_0 rfl (lv_at hl 1 rfl) ?_
  refine zr_ic (n := ((0 : Nat) : Int)) hx hb dX3_isOne_1 ?_
  refine lv_aload_n hx hb dX3_isOne_2 rfl (lv_at hl 0 rfl) ?_
  refine va_get (D := D) (ci := 3) (v := .int (iI ((n : Nat) : Int))) (C := RX3) (T := TX3) (N := 15) hx hb hts (by decide +kernel) hown hK hP 0 rfl rfl 1 (by decide) (hts (.fieldLink RX3 38 "RentHarmonyModel" "lodgers" "I") (by decide +kernel)) (fun _ h9 => h9) rfl dX3_isOne_3 ?_
  refine zr_ic (n := ((1 : Nat) : Int)) hx hb dX3_isOne_6 ?_
  refine zr_sub hx hb dX3_isOne_7 ?_
  refine zc_riS (As := [.int (iI (z)), .int (iI ((0 : Nat) : Int)), .int (iI (((n : Nat) : Int) - ((1 : Nat) : Int)))]) (rest := []) hF (c_X3_isIn l D cI z ((0 : Nat) : Int) (((n : Nat) : Int) - ((1 : Nat) : Int)) (zB_of (by omega) (by omega)) (zB_of (by omega) (by omega)) (zB_of (by omega) (by omega))) (va_cwS 3 hts gX3_isOne_X3_isIn rfl rfl rfl (by decide +kernel) ⟨Nat.le_of_ble_eq_true rfl, Nat.le_of_ble_eq_true rfl⟩) hK hP [] rfl 0 rfl rfl hl.1 rfl (Nat.le_of_ble_eq_true rfl) dX3_isOne_8 ⟨Nat.zero_le _, Nat.zero_le _⟩ ?_
  exact zRi_retz hx hb hr (bZ_nar _) hlocks dX3_isOne_11 (congrArg iI (bZ_iff (by omega)))
set_option maxHeartbeats 4000000 in
set_option maxRecDepth 100000 in
/-- X3_bi -/
theorem c_X3_bi (l : Launch) (D : va_G) (cI : ClassId) (M MB MR ME MZ MT n : Nat) (b mr me mq mt : Nat → Int) (th rc wo wy po fe wh wi mu : Int) (x y : Nat) (hx0 : x < 6) (hy0 : y < 6) : zRi l yX3_bi wsX3_bi 0 0 D cI [.ref M, .int (iI ((x : Nat) : Int)), .int (iI ((y : Nat) : Int))] [(M, .inr (3, [.int (iI (th)), .int (iI ((n : Nat) : Int)), .int (iI (rc)), .ref MB, .ref MR, .ref ME, .ref MZ, .int (iI (wo)), .int (iI (wy)), .int (iI (po)), .ref MT, .int (iI (fe)), .int (iI (wh)), .int (iI (wi)), .int (iI (mu))])), (MB, zArr cI 36 b), (MR, zArr cI 6 mr), (ME, zArr cI 6 me), (MZ, zArr cI 6 mq), (MT, zArr cI 6 mt)] (iI (b (x * 6 + y))) := by
  refine zRi_of (cc := cX3_bi) (maxL := 3) (rt := .int) (by decide) rfl (Nat.le_of_ble_eq_true rfl) ?_
  intro p e s m args below meth c ls hF hr hlocks hP hK hl
  have hF : zFix p m c cX3_bi 3 s args wsX3_bi RX3 := hF
  obtain ⟨hx, hb, hml, hown, hts⟩ := id hF
  have hP : va_P D vwCl [(M, .inr (3, [.int (iI (th)), .int (iI ((n : Nat) : Int)), .int (iI (rc)), .ref MB, .ref MR, .ref ME, .ref MZ, .int (iI (wo)), .int (iI (wy)), .int (iI (po)), .ref MT, .int (iI (fe)), .int (iI (wh)), .int (iI (wi)), .int (iI (mu))])), (MB, zArr cI 36 b), (MR, zArr cI 6 mr), (ME, zArr cI 6 me), (MZ, zArr cI 6 mq), (MT, zArr cI 6 mt)] s.heap := hP
  have hl : lv_has ls 3 [(0, .ref M), (1, .int (iI ((x : Nat) : Int))), (2, .int (iI ((y : Nat) : Int)))] := hl
  refine lv_aload_n hx hb dX3_bi_0 rfl (lv_at hl 0 rfl) ?_
  refine va_get (D := D) (ci := 3) (v := .ref MB) (C := RX3) (T := TX3) (N := 15) hx hb hts (by decide +kernel) hown hK hP 0 rfl rfl 3 (by decide) (hts (.fieldLink RX3 9 "RentHarmonyModel" "bids" "[I") (by decide +kernel)) (fun _ h9 => h9) rfl dX3_bi_1 ?_
  refine zr_bi (n := ((6 : Nat) : Int)) hx hb dX3_bi_4 rfl ?_
  refine lv_iload_n hx hb dX3_bi_6 rfl (lv_at hl 1 rfl) ?_
  refine zr_mulN (x := 6) (y := x) hx hb dX3_bi_7 ?_
  refine lv_iload_n hx hb dX3_bi_8 rfl (lv_at hl 2 rfl) ?_
  refine zr_addN (x := 6 * x) (y := y) hx hb dX3_bi_9 ?_
  refine zr_iald hx hb hK hP 1 0 rfl rfl ((6 * x) + y) (by omega) (by omega) (by omega) dX3_bi_10 ?_
  exact zRi_ret hx hb hr hlocks dX3_bi_11 (congrArg iI (congrArg b (by omega)))
set_option maxHeartbeats 4000000 in
set_option maxRecDepth 100000 in
/-- X3_thrown -/
theorem c_X3_thrown (l : Launch) (D : va_G) (cI : ClassId) (M MB MR ME MZ MT n : Nat) (b mr me mq mt : Nat → Int) (th rc wo wy po fe wh wi mu : Int)  : zRi l yX3_thrown wsX3_thrown 0 0 D cI [.ref M] [(M, .inr (3, [.int (iI (th)), .int (iI ((n : Nat) : Int)), .int (iI (rc)), .ref MB, .ref MR, .ref ME, .ref MZ, .int (iI (wo)), .int (iI (wy)), .int (iI (po)), .ref MT, .int (iI (fe)), .int (iI (wh)), .int (iI (wi)), .int (iI (mu))])), (MB, zArr cI 36 b), (MR, zArr cI 6 mr), (ME, zArr cI 6 me), (MZ, zArr cI 6 mq), (MT, zArr cI 6 mt)] (iI (th)) := by
  refine zRi_of (cc := cX3_thrown) (maxL := 1) (rt := .int) (by decide) rfl (Nat.le_of_ble_eq_true rfl) ?_
  intro p e s m args below meth c ls hF hr hlocks hP hK hl
  have hF : zFix p m c cX3_thrown 1 s args wsX3_thrown RX3 := hF
  obtain ⟨hx, hb, hml, hown, hts⟩ := id hF
  have hP : va_P D vwCl [(M, .inr (3, [.int (iI (th)), .int (iI ((n : Nat) : Int)), .int (iI (rc)), .ref MB, .ref MR, .ref ME, .ref MZ, .int (iI (wo)), .int (iI (wy)), .int (iI (po)), .ref MT, .int (iI (fe)), .int (iI (wh)), .int (iI (wi)), .int (iI (mu))])), (MB, zArr cI 36 b), (MR, zArr cI 6 mr), (ME, zArr cI 6 me), (MZ, zArr cI 6 mq), (MT, zArr cI 6 mt)] s.heap := hP
  have hl : lv_has ls 1 [(0, .ref M)] := hl
  refine lv_aload_n hx hb dX3_thrown_0 rfl (lv_at hl 0 rfl) ?_
  refine va_get (D := D) (ci := 3) (v := .int (iI (th))) (C := RX3) (T := TX3) (N := 15) hx hb hts (by decide +kernel) hown hK hP 0 rfl rfl 0 (by decide) (hts (.fieldLink RX3 35 "RentHarmonyModel" "thrown" "I") (by decide +kernel)) (fun _ h9 => h9) rfl dX3_thrown_1 ?_
  exact zRi_ret hx hb hr hlocks dX3_thrown_4 rfl
set_option maxHeartbeats 4000000 in
set_option maxRecDepth 100000 in
/-- X3_of -/
theorem c_X3_of (l : Launch) (D : va_G) (cI : ClassId) (M MB MR ME MZ MT n : Nat) (b mr me mq mt : Nat → Int) (th rc wo wy po fe wh wi mu : Int) (g : Nat → Nat) (j k : Nat) (hn : n ≤ 6) (hb0 : ∀ k, 0 ≤ b k ∧ b k ≤ 999) (hro : ∀ j, j < n → mr j = ((g j : Nat) : Int)) (hgn : ∀ j, j < n → g j < n) (hj : j < n) (hk : k < n) : zRi l yX3_of wsX3_of 1 22 D cI [.ref M, .int (iI ((j : Nat) : Int)), .int (iI ((k : Nat) : Int))] [(M, .inr (3, [.int (iI (th)), .int (iI ((n : Nat) : Int)), .int (iI (rc)), .ref MB, .ref MR, .ref ME, .ref MZ, .int (iI (wo)), .int (iI (wy)), .int (iI (po)), .ref MT, .int (iI (fe)), .int (iI (wh)), .int (iI (wi)), .int (iI (mu))])), (MB, zArr cI 36 b), (MR, zArr cI 6 mr), (ME, zArr cI 6 me), (MZ, zArr cI 6 mq), (MT, zArr cI 6 mt)] (iI (zWt b g j k + me k)) := by
  refine zRi_of (cc := cX3_of) (maxL := 3) (rt := .int) (by decide) rfl (Nat.le_of_ble_eq_true rfl) ?_
  intro p e s m args below meth c ls hF hr hlocks hP hK hl
  have hF : zFix p m c cX3_of 3 s args wsX3_of RX3 := hF
  obtain ⟨hx, hb, hml, hown, hts⟩ := id hF
  have hP : va_P D vwCl [(M, .inr (3, [.int (iI (th)), .int (iI ((n : Nat) : Int)), .int (iI (rc)), .ref MB, .ref MR, .ref ME, .ref MZ, .int (iI (wo)), .int (iI (wy)), .int (iI (po)), .ref MT, .int (iI (fe)), .int (iI (wh)), .int (iI (wi)), .int (iI (mu))])), (MB, zArr cI 36 b), (MR, zArr cI 6 mr), (ME, zArr cI 6 me), (MZ, zArr cI 6 mq), (MT, zArr cI 6 mt)] s.heap := hP
  have hl : lv_has ls 3 [(0, .ref M), (1, .int (iI ((j : Nat) : Int))), (2, .int (iI ((k : Nat) : Int)))] := hl
  refine lv_aload_n hx hb dX3_of_0 rfl (lv_at hl 0 rfl) ?_
  refine lv_iload_n hx hb dX3_of_1 rfl (lv_at hl 1 rfl) ?_
  refine lv_aload_n hx hb dX3_of_2 rfl (lv_at hl 0 rfl) ?_
  refine va_get (D := D) (ci := 3) (v := .ref MR) (C := RX3) (T := TX3) (N := 15) hx hb hts (by decide +kernel) hown hK hP 0 rfl rfl 4 (by decide) (hts (.fieldLink RX3 13 "RentHarmonyModel" "rooms" "[I") (by decide +kernel)) (fun _ h9 => h9) rfl dX3_of_3 ?_
  refine lv_iload_n hx hb dX3_of_6 rfl (lv_at hl 2 rfl) ?_
  refine zr_iald hx hb hK hP 2 0 rfl rfl (k) (by omega) (by omega) (by omega) dX3_of_7 ?_
  have hg9 := hgn k (by omega)
  refine zr_topi (show (mr (k)) = ((g k : Nat) : Int) from (hro k (by omega))) ?_
  refine zc_ri (As := [.int (iI ((j : Nat) : Int)), .int (iI ((g k : Nat) : Int))]) (rest := []) hF (c_X3_bi l D cI M MB MR ME MZ MT n b mr me mq mt th rc wo wy po fe wh wi mu j (g k) (by omega) (by omega)) (cwV 2 hts gX3_of_X3_bi rfl rfl rfl (by decide +kernel) ⟨Nat.le_of_ble_eq_true rfl, Nat.le_of_ble_eq_true rfl⟩) hK hP [0, 1, 2, 3, 4, 5] rfl 0 rfl 0 rfl rfl rfl rfl hl.1 rfl (Nat.le_of_ble_eq_true rfl) dX3_of_8 ⟨Nat.zero_le _, Nat.zero_le _⟩ ?_
  refine lv_aload_n hx hb dX3_of_11 rfl (lv_at hl 0 rfl) ?_
  refine lv_iload_n hx hb dX3_of_12 rfl (lv_at hl 2 rfl) ?_
  refine lv_aload_n hx hb dX3_of_13 rfl (lv_at hl 0 rfl) ?_
  refine va_get (D := D) (ci := 3) (v := .ref MR) (C := RX3) (T := TX3) (N := 15) hx hb hts (by decide +kernel) hown hK hP 0 rfl rfl 4 (by decide) (hts (.fieldLink RX3 13 "RentHarmonyModel" "rooms" "[I") (by decide +kernel)) (fun _ h9 => h9) rfl dX3_of_14 ?_
  refine lv_iload_n hx hb dX3_of_17 rfl (lv_at hl 2 rfl) ?_
  refine zr_iald hx hb hK hP 2 0 rfl rfl (k) (by omega) (by omega) (by omega) dX3_of_18 ?_
  have hg9 := hgn k (by omega)
  refine zr_topi (show (mr (k)) = ((g k : Nat) : Int) from (hro k (by omega))) ?_
  refine zc_ri (As := [.int (iI ((k : Nat) : Int)), .int (iI ((g k : Nat) : Int))]) (rest := [.int (iI (b (j * 6 + (g k))))]) hF (c_X3_bi l D cI M MB MR ME MZ MT n b mr me mq mt th rc wo wy po fe wh wi mu k (g k) (by omega) (by omega)) (cwV 2 hts gX3_of_X3_bi rfl rfl rfl (by decide +kernel) ⟨Nat.le_of_ble_eq_true rfl, Nat.le_of_ble_eq_true rfl⟩) hK hP [0, 1, 2, 3, 4, 5] rfl 0 rfl 0 rfl rfl rfl rfl hl.1 rfl (Nat.le_of_ble_eq_true rfl) dX3_of_19 ⟨Nat.zero_le _, Nat.zero_le _⟩ ?_
  refine zr_sub hx hb dX3_of_22 ?_
  refine lv_aload_n hx hb dX3_of_23 rfl (lv_at hl 0 rfl) ?_
  refine va_get (D := D) (ci := 3) (v := .ref ME) (C := RX3) (T := TX3) (N := 15) hx hb hts (by decide +kernel) hown hK hP 0 rfl rfl 5 (by decide) (hts (.fieldLink RX3 16 "RentHarmonyModel" "early" "[I") (by decide +kernel)) (fun _ h9 => h9) rfl dX3_of_24 ?_
  refine lv_iload_n hx hb dX3_of_27 rfl (lv_at hl 2 rfl) ?_
  refine zr_iald hx hb hK hP 3 0 rfl rfl (k) (by omega) (by omega) (by omega) dX3_of_28 ?_
  refine zr_add hx hb dX3_of_29 ?_
  exact zRi_ret hx hb hr hlocks dX3_of_30 rfl
set_option maxHeartbeats 4000000 in
set_option maxRecDepth 100000 in
/-- X3_pays -/
theorem c_X3_pays (l : Launch) (D : va_G) (cI : ClassId) (M MB MR ME MZ MT n : Nat) (b mr me mq mt : Nat → Int) (th rc wo wy po fe wh wi mu : Int) (g : Nat → Nat) (sh : Int) (j : Nat) (hn : n ≤ 6) (hb0 : ∀ k, 0 ≤ b k ∧ b k ≤ 999) (hro : ∀ j, j < n → mr j = ((g j : Nat) : Int)) (hgn : ∀ j, j < n → g j < n) (hmq : ∀ j, j < n → mq j = me j + sh) (hj : j < n) : zRi l yX3_pays wsX3_pays 1 22 D cI [.ref M, .int (iI ((j : Nat) : Int))] [(M, .inr (3, [.int (iI (th)), .int (iI ((n : Nat) : Int)), .int (iI (rc)), .ref MB, .ref MR, .ref ME, .ref MZ, .int (iI (wo)), .int (iI (wy)), .int (iI (po)), .ref MT, .int (iI (fe)), .int (iI (wh)), .int (iI (wi)), .int (iI (mu))])), (MB, zArr cI 36 b), (MR, zArr cI 6 mr), (ME, zArr cI 6 me), (MZ, zArr cI 6 mq), (MT, zArr cI 6 mt)] (iI (zPay b g me sh j)) := by
  refine zRi_of (cc := cX3_pays) (maxL := 2) (rt := .int) (by decide) rfl (Nat.le_of_ble_eq_true rfl) ?_
  intro p e s m args below meth c ls hF hr hlocks hP hK hl
  have hF : zFix p m c cX3_pays 2 s args wsX3_pays RX3 := hF
  obtain ⟨hx, hb, hml, hown, hts⟩ := id hF
  have hP : va_P D vwCl [(M, .inr (3, [.int (iI (th)), .int (iI ((n : Nat) : Int)), .int (iI (rc)), .ref MB, .ref MR, .ref ME, .ref MZ, .int (iI (wo)), .int (iI (wy)), .int (iI (po)), .ref MT, .int (iI (fe)), .int (iI (wh)), .int (iI (wi)), .int (iI (mu))])), (MB, zArr cI 36 b), (MR, zArr cI 6 mr), (ME, zArr cI 6 me), (MZ, zArr cI 6 mq), (MT, zArr cI 6 mt)] s.heap := hP
  have hl : lv_has ls 2 [(0, .ref M), (1, .int (iI ((j : Nat) : Int)))] := hl
  refine lv_aload_n hx hb dX3_pays_0 rfl (lv_at hl 0 rfl) ?_
  refine lv_iload_n hx hb dX3_pays_1 rfl (lv_at hl 1 rfl) ?_
  refine lv_aload_n hx hb dX3_pays_2 rfl (lv_at hl 0 rfl) ?_
  refine va_get (D := D) (ci := 3) (v := .ref MR) (C := RX3) (T := TX3) (N := 15) hx hb hts (by decide +kernel) hown hK hP 0 rfl rfl 4 (by decide) (hts (.fieldLink RX3 13 "RentHarmonyModel" "rooms" "[I") (by decide +kernel)) (fun _ h9 => h9) rfl dX3_pays_3 ?_
  refine lv_iload_n hx hb dX3_pays_6 rfl (lv_at hl 1 rfl) ?_
  refine zr_iald hx hb hK hP 2 0 rfl rfl (j) (by omega) (by omega) (by omega) dX3_pays_7 ?_
  have hg9 := hgn j (by omega)
  refine zr_topi (show (mr (j)) = ((g j : Nat) : Int) from (hro j (by omega))) ?_
  refine zc_ri (As := [.int (iI ((j : Nat) : Int)), .int (iI ((g j : Nat) : Int))]) (rest := []) hF (c_X3_bi l D cI M MB MR ME MZ MT n b mr me mq mt th rc wo wy po fe wh wi mu j (g j) (by omega) (by omega)) (cwV 2 hts gX3_pays_X3_bi rfl rfl rfl (by decide +kernel) ⟨Nat.le_of_ble_eq_true rfl, Nat.le_of_ble_eq_true rfl⟩) hK hP [0, 1, 2, 3, 4, 5] rfl 0 rfl 0 rfl rfl rfl rfl hl.1 rfl (Nat.le_of_ble_eq_true rfl) dX3_pays_8 ⟨Nat.zero_le _, Nat.zero_le _⟩ ?_
  refine lv_aload_n hx hb dX3_pays_11 rfl (lv_at hl 0 rfl) ?_
  refine va_get (D := D) (ci := 3) (v := .ref MZ) (C := RX3) (T := TX3) (N := 15) hx hb hts (by decide +kernel) hown hK hP 0 rfl rfl 6 (by decide) (hts (.fieldLink RX3 19 "RentHarmonyModel" "rebates" "[I") (by decide +kernel)) (fun _ h9 => h9) rfl dX3_pays_12 ?_
  refine lv_iload_n hx hb dX3_pays_15 rfl (lv_at hl 1 rfl) ?_
  refine zr_iald hx hb hK hP 4 0 rfl rfl (j) (by omega) (by omega) (by omega) dX3_pays_16 ?_
  refine zr_sub hx hb dX3_pays_17 ?_
  exact zRi_ret hx hb hr hlocks dX3_pays_18 (congrArg iI (by rw [hmq j hj]; rfl))
set_option maxHeartbeats 4000000 in
set_option maxRecDepth 100000 in
/-- X3_isEnvy -/
theorem c_X3_isEnvy (l : Launch) (D : va_G) (cI : ClassId) (M MB MR ME MZ MT n : Nat) (b mr me mq mt : Nat → Int) (th rc wo wy po fe wh wi mu : Int) (g : Nat → Nat) (j k : Nat) (hn : n ≤ 6) (hb0 : ∀ k, 0 ≤ b k ∧ b k ≤ 999) (hro : ∀ j, j < n → mr j = ((g j : Nat) : Int)) (hgn : ∀ j, j < n → g j < n) (hj : j < n) (hk : k < n) : zRi l yX3_isEnvy wsX3_isEnvy 1 22 D cI [.ref M, .int (iI ((j : Nat) : Int)), .int (iI ((k : Nat) : Int))] [(M, .inr (3, [.int (iI (th)), .int (iI ((n : Nat) : Int)), .int (iI (rc)), .ref MB, .ref MR, .ref ME, .ref MZ, .int (iI (wo)), .int (iI (wy)), .int (iI (po)), .ref MT, .int (iI (fe)), .int (iI (wh)), .int (iI (wi)), .int (iI (mu))])), (MB, zArr cI 36 b), (MR, zArr cI 6 mr), (ME, zArr cI 6 me), (MZ, zArr cI 6 mq), (MT, zArr cI 6 mt)] (iI (bZ (zEn b g j k))) := by
  refine zRi_of (cc := cX3_isEnvy) (maxL := 3) (rt := .boolean) (by decide) rfl (Nat.le_of_ble_eq_true rfl) ?_
  intro p e s m args below meth c ls hF hr hlocks hP hK hl
  have hF : zFix p m c cX3_isEnvy 3 s args wsX3_isEnvy RX3 := hF
  obtain ⟨hx, hb, hml, hown, hts⟩ := id hF
  have hP : va_P D vwCl [(M, .inr (3, [.int (iI (th)), .int (iI ((n : Nat) : Int)), .int (iI (rc)), .ref MB, .ref MR, .ref ME, .ref MZ, .int (iI (wo)), .int (iI (wy)), .int (iI (po)), .ref MT, .int (iI (fe)), .int (iI (wh)), .int (iI (wi)), .int (iI (mu))])), (MB, zArr cI 36 b), (MR, zArr cI 6 mr), (ME, zArr cI 6 me), (MZ, zArr cI 6 mq), (MT, zArr cI 6 mt)] s.heap := hP
  have hl : lv_has ls 3 [(0, .ref M), (1, .int (iI ((j : Nat) : Int))), (2, .int (iI ((k : Nat) : Int)))] := hl
  refine lv_aload_n hx hb dX3_isEnvy_0 rfl (lv_at hl 0 rfl) ?_
  refine lv_iload_n hx hb dX3_isEnvy_1 rfl (lv_at hl 1 rfl) ?_
  refine lv_aload_n hx hb dX3_isEnvy_2 rfl (lv_at hl 0 rfl) ?_
  refine va_get (D := D) (ci := 3) (v := .ref MR) (C := RX3) (T := TX3) (N := 15) hx hb hts (by decide +kernel) hown hK hP 0 rfl rfl 4 (by decide) (hts (.fieldLink RX3 13 "RentHarmonyModel" "rooms" "[I") (by decide +kernel)) (fun _ h9 => h9) rfl dX3_isEnvy_3 ?_
  refine lv_iload_n hx hb dX3_isEnvy_6 rfl (lv_at hl 2 rfl) ?_
  refine zr_iald hx hb hK hP 2 0 rfl rfl (k) (by omega) (by omega) (by omega) dX3_isEnvy_7 ?_
  have hg9 := hgn k (by omega)
  refine zr_topi (show (mr (k)) = ((g k : Nat) : Int) from (hro k (by omega))) ?_
  refine zc_ri (As := [.int (iI ((j : Nat) : Int)), .int (iI ((g k : Nat) : Int))]) (rest := []) hF (c_X3_bi l D cI M MB MR ME MZ MT n b mr me mq mt th rc wo wy po fe wh wi mu j (g k) (by omega) (by omega)) (cwV 2 hts gX3_isEnvy_X3_bi rfl rfl rfl (by decide +kernel) ⟨Nat.le_of_ble_eq_true rfl, Nat.le_of_ble_eq_true rfl⟩) hK hP [0, 1, 2, 3, 4, 5] rfl 0 rfl 0 rfl rfl rfl rfl hl.1 rfl (Nat.le_of_ble_eq_true rfl) dX3_isEnvy_8 ⟨Nat.zero_le _, Nat.zero_le _⟩ ?_
  refine lv_aload_n hx hb dX3_isEnvy_11 rfl (lv_at hl 0 rfl) ?_
  refine lv_iload_n hx hb dX3_isEnvy_12 rfl (lv_at hl 1 rfl) ?_
  refine lv_aload_n hx hb dX3_isEnvy_13 rfl (lv_at hl 0 rfl) ?_
  refine va_get (D := D) (ci := 3) (v := .ref MR) (C := RX3) (T := TX3) (N := 15) hx hb hts (by decide +kernel) hown hK hP 0 rfl rfl 4 (by decide) (hts (.fieldLink RX3 13 "RentHarmonyModel" "rooms" "[I") (by decide +kernel)) (fun _ h9 => h9) rfl dX3_isEnvy_14 ?_
  refine lv_iload_n hx hb dX3_isEnvy_17 rfl (lv_at hl 1 rfl) ?_
  refine zr_iald hx hb hK hP 2 0 rfl rfl (j) (by omega) (by omega) (by omega) dX3_isEnvy_18 ?_
  have hg9 := hgn j (by omega)
  refine zr_topi (show (mr (j)) = ((g j : Nat) : Int) from (hro j (by omega))) ?_
  refine zc_ri (As := [.int (iI ((j : Nat) : Int)), .int (iI ((g j : Nat) : Int))]) (rest := [.int (iI (b (j * 6 + (g k))))]) hF (c_X3_bi l D cI M MB MR ME MZ MT n b mr me mq mt th rc wo wy po fe wh wi mu j (g j) (by omega) (by omega)) (cwV 2 hts gX3_isEnvy_X3_bi rfl rfl rfl (by decide +kernel) ⟨Nat.le_of_ble_eq_true rfl, Nat.le_of_ble_eq_true rfl⟩) hK hP [0, 1, 2, 3, 4, 5] rfl 0 rfl 0 rfl rfl rfl rfl hl.1 rfl (Nat.le_of_ble_eq_true rfl) dX3_isEnvy_19 ⟨Nat.zero_le _, Nat.zero_le _⟩ ?_
  have hb1 := hb0 (j * 6 + g k)
  have hb2 := hb0 (j * 6 + g j)
  refine zr_icmp_le (tgt := 29) hx hb dX3_isEnvy_22 (by decide) (zB_of (by omega) (by omega)) (zB_of (by omega) (by omega)) (fun c1 => ?_) (fun c1 => ?_)
  · refine zr_ic (n := ((0 : Nat) : Int)) hx hb dX3_isEnvy_29 ?_
    exact zRi_retz hx hb hr rfl hlocks dX3_isEnvy_30 (congrArg iI (bZ_f (by omega)).symm)
  · refine zr_ic (n := ((1 : Nat) : Int)) hx hb dX3_isEnvy_25 ?_
    refine lv_goto (tgt := 30) hx hb dX3_isEnvy_26 (by decide) ?_
    exact zRi_retz hx hb hr rfl hlocks dX3_isEnvy_30 (congrArg iI (bZ_t (by omega)).symm)
set_option maxHeartbeats 4000000 in
set_option maxRecDepth 100000 in
/-- X3_toldOf -/
theorem c_X3_toldOf (l : Launch) (D : va_G) (cI : ClassId) (M MB MR ME MZ MT n : Nat) (b mr me mq mt : Nat → Int) (th rc wo wy po fe wh wi mu : Int) (g : Nat → Nat) (sh : Int) (j w : Nat) (hn : n ≤ 6) (hb0 : ∀ k, 0 ≤ b k ∧ b k ≤ 999) (hro : ∀ j, j < n → mr j = ((g j : Nat) : Int)) (hgn : ∀ j, j < n → g j < n) (hmq : ∀ j, j < n → mq j = me j + sh) (hj : j < n) (hw : w < 6) : zRi l yX3_toldOf wsX3_toldOf 2 44 D cI [.ref M, .int (iI ((j : Nat) : Int)), .int (iI ((w : Nat) : Int))] [(M, .inr (3, [.int (iI (th)), .int (iI ((n : Nat) : Int)), .int (iI (rc)), .ref MB, .ref MR, .ref ME, .ref MZ, .int (iI (wo)), .int (iI (wy)), .int (iI (po)), .ref MT, .int (iI (fe)), .int (iI (wh)), .int (iI (wi)), .int (iI (mu))])), (MB, zArr cI 36 b), (MR, zArr cI 6 mr), (ME, zArr cI 6 me), (MZ, zArr cI 6 mq), (MT, zArr cI 6 mt)] (iI (zFact n b g me sh j w)) := by
  refine zRi_of (cc := cX3_toldOf) (maxL := 5) (rt := .int) (by decide) rfl (Nat.le_of_ble_eq_true rfl) ?_
  intro p e s m args below meth c ls hF hr hlocks hP hK hl
  have hF : zFix p m c cX3_toldOf 5 s args wsX3_toldOf RX3 := hF
  obtain ⟨hx, hb, hml, hown, hts⟩ := id hF
  have hP : va_P D vwCl [(M, .inr (3, [.int (iI (th)), .int (iI ((n : Nat) : Int)), .int (iI (rc)), .ref MB, .ref MR, .ref ME, .ref MZ, .int (iI (wo)), .int (iI (wy)), .int (iI (po)), .ref MT, .int (iI (fe)), .int (iI (wh)), .int (iI (wi)), .int (iI (mu))])), (MB, zArr cI 36 b), (MR, zArr cI 6 mr), (ME, zArr cI 6 me), (MZ, zArr cI 6 mq), (MT, zArr cI 6 mt)] s.heap := hP
  rcases (show w = 0 ∨ w = 1 ∨ w = 2 ∨ w = 3 ∨ w = 4 ∨ w = 5 by omega) with rfl | rfl | rfl | rfl | rfl | rfl
  · have hl : lv_has ls 5 [(0, .ref M), (1, .int (iI ((j : Nat) : Int))), (2, .int (iI ((0 : Nat) : Int)))] := hl
    refine lv_iload_n hx hb dX3_toldOf_0 rfl (lv_at hl 2 rfl) ?_
    refine lv_tableIn (off := 35) (tgt := 36) hx hb dX3_toldOf_1 (by decide) (by decide) (by decide) (by decide) ?_
    refine lv_aload_n hx hb dX3_toldOf_36 rfl (lv_at hl 0 rfl) ?_
    refine va_get (D := D) (ci := 3) (v := .ref MR) (C := RX3) (T := TX3) (N := 15) hx hb hts (by decide +kernel) hown hK hP 0 rfl rfl 4 (by decide) (hts (.fieldLink RX3 13 "RentHarmonyModel" "rooms" "[I") (by decide +kernel)) (fun _ h9 => h9) rfl dX3_toldOf_37 ?_
    refine lv_iload_n hx hb dX3_toldOf_40 rfl (lv_at hl 1 rfl) ?_
    refine zr_iald hx hb hK hP 2 0 rfl rfl (j) (by omega) (by omega) (by omega) dX3_toldOf_41 ?_
    have hg9 := hgn j (by omega)
    refine zr_topi (show (mr (j)) = ((g j : Nat) : Int) from (hro j (by omega))) ?_
    exact zRi_ret hx hb hr hlocks dX3_toldOf_42 rfl
  · have hl : lv_has ls 5 [(0, .ref M), (1, .int (iI ((j : Nat) : Int))), (2, .int (iI ((1 : Nat) : Int)))] := hl
    refine lv_iload_n hx hb dX3_toldOf_0 rfl (lv_at hl 2 rfl) ?_
    refine lv_tableIn (off := 42) (tgt := 43) hx hb dX3_toldOf_1 (by decide) (by decide) (by decide) (by decide) ?_
    refine lv_aload_n hx hb dX3_toldOf_43 rfl (lv_at hl 0 rfl) ?_
    refine lv_iload_n hx hb dX3_toldOf_44 rfl (lv_at hl 1 rfl) ?_
    refine lv_aload_n hx hb dX3_toldOf_45 rfl (lv_at hl 0 rfl) ?_
    refine va_get (D := D) (ci := 3) (v := .ref MR) (C := RX3) (T := TX3) (N := 15) hx hb hts (by decide +kernel) hown hK hP 0 rfl rfl 4 (by decide) (hts (.fieldLink RX3 13 "RentHarmonyModel" "rooms" "[I") (by decide +kernel)) (fun _ h9 => h9) rfl dX3_toldOf_46 ?_
    refine lv_iload_n hx hb dX3_toldOf_49 rfl (lv_at hl 1 rfl) ?_
    refine zr_iald hx hb hK hP 2 0 rfl rfl (j) (by omega) (by omega) (by omega) dX3_toldOf_50 ?_
    have hg9 := hgn j (by omega)
    refine zr_topi (show (mr (j)) = ((g j : Nat) : Int) from (hro j (by omega))) ?_
    refine zc_ri (As := [.int (iI ((j : Nat) : Int)), .int (iI ((g j : Nat) : Int))]) (rest := []) hF (c_X3_bi l D cI M MB MR ME MZ MT n b mr me mq mt th rc wo wy po fe wh wi mu j (g j) (by omega) (by omega)) (cwV 2 hts gX3_toldOf_X3_bi rfl rfl rfl (by decide +kernel) ⟨Nat.le_of_ble_eq_true rfl, Nat.le_of_ble_eq_true rfl⟩) hK hP [0, 1, 2, 3, 4, 5] rfl 0 rfl 0 rfl rfl rfl rfl hl.1 rfl (Nat.le_of_ble_eq_true rfl) dX3_toldOf_51 ⟨Nat.zero_le _, Nat.zero_le _⟩ ?_
    exact zRi_ret hx hb hr hlocks dX3_toldOf_54 rfl
  · have hl : lv_has ls 5 [(0, .ref M), (1, .int (iI ((j : Nat) : Int))), (2, .int (iI ((2 : Nat) : Int)))] := hl
    refine lv_iload_n hx hb dX3_toldOf_0 rfl (lv_at hl 2 rfl) ?_
    refine lv_tableIn (off := 54) (tgt := 55) hx hb dX3_toldOf_1 (by decide) (by decide) (by decide) (by decide) ?_
    refine lv_aload_n hx hb dX3_toldOf_55 rfl (lv_at hl 0 rfl) ?_
    refine va_get (D := D) (ci := 3) (v := .ref MZ) (C := RX3) (T := TX3) (N := 15) hx hb hts (by decide +kernel) hown hK hP 0 rfl rfl 6 (by decide) (hts (.fieldLink RX3 19 "RentHarmonyModel" "rebates" "[I") (by decide +kernel)) (fun _ h9 => h9) rfl dX3_toldOf_56 ?_
    refine lv_iload_n hx hb dX3_toldOf_59 rfl (lv_at hl 1 rfl) ?_
    refine zr_iald hx hb hK hP 4 0 rfl rfl (j) (by omega) (by omega) (by omega) dX3_toldOf_60 ?_
    exact zRi_ret hx hb hr hlocks dX3_toldOf_61 (congrArg iI (hmq j hj))
  · have hl : lv_has ls 5 [(0, .ref M), (1, .int (iI ((j : Nat) : Int))), (2, .int (iI ((3 : Nat) : Int)))] := hl
    refine lv_iload_n hx hb dX3_toldOf_0 rfl (lv_at hl 2 rfl) ?_
    refine lv_tableIn (off := 61) (tgt := 62) hx hb dX3_toldOf_1 (by decide) (by decide) (by decide) (by decide) ?_
    refine lv_aload_n hx hb dX3_toldOf_62 rfl (lv_at hl 0 rfl) ?_
    refine lv_iload_n hx hb dX3_toldOf_63 rfl (lv_at hl 1 rfl) ?_
    refine zc_ri (As := [.int (iI ((j : Nat) : Int))]) (rest := []) hF (c_X3_pays l D cI M MB MR ME MZ MT n b mr me mq mt th rc wo wy po fe wh wi mu g sh j (by omega) (by assumption) (by assumption) (by assumption) (by assumption) (by omega)) (cwV 1 hts gX3_toldOf_X3_pays rfl rfl rfl (by decide +kernel) ⟨Nat.le_of_ble_eq_true rfl, Nat.le_of_ble_eq_true rfl⟩) hK hP [0, 1, 2, 3, 4, 5] rfl 0 rfl 0 rfl rfl rfl rfl hl.1 rfl (Nat.le_of_ble_eq_true rfl) dX3_toldOf_64 ⟨Nat.zero_le _, Nat.zero_le _⟩ ?_
    exact zRi_ret hx hb hr hlocks dX3_toldOf_67 rfl
  · have hl : lv_has ls 5 [(0, .ref M), (1, .int (iI ((j : Nat) : Int))), (2, .int (iI ((4 : Nat) : Int)))] := hl
    refine lv_iload_n hx hb dX3_toldOf_0 rfl (lv_at hl 2 rfl) ?_
    refine lv_tableIn (off := 67) (tgt := 68) hx hb dX3_toldOf_1 (by decide) (by decide) (by decide) (by decide) ?_
    refine lv_aload_n hx hb dX3_toldOf_68 rfl (lv_at hl 0 rfl) ?_
    refine va_get (D := D) (ci := 3) (v := .ref ME) (C := RX3) (T := TX3) (N := 15) hx hb hts (by decide +kernel) hown hK hP 0 rfl rfl 5 (by decide) (hts (.fieldLink RX3 16 "RentHarmonyModel" "early" "[I") (by decide +kernel)) (fun _ h9 => h9) rfl dX3_toldOf_69 ?_
    refine lv_iload_n hx hb dX3_toldOf_72 rfl (lv_at hl 1 rfl) ?_
    refine zr_iald hx hb hK hP 3 0 rfl rfl (j) (by omega) (by omega) (by omega) dX3_toldOf_73 ?_
    exact zRi_ret hx hb hr hlocks dX3_toldOf_74 rfl
  · have hl : lv_has ls 5 [(0, .ref M), (1, .int (iI ((j : Nat) : Int))), (2, .int (iI ((5 : Nat) : Int)))] := hl
    refine lv_iload_n hx hb dX3_toldOf_0 rfl (lv_at hl 2 rfl) ?_
    refine lv_tableOut (tgt := 75) hx hb dX3_toldOf_1 (by decide) (by decide) ?_
    refine zr_ic (n := ((0 : Nat) : Int)) hx hb dX3_toldOf_75 ?_
    refine lv_istore_n (lv' := [(3, .int (iI ((0 : Nat) : Int))), (0, .ref M), (1, .int (iI ((j : Nat) : Int))), (2, .int (iI ((5 : Nat) : Int)))]) hx hb dX3_toldOf_76 rfl hl (by decide) rfl (fun ls hl => ?_)
    refine zr_ic (n := ((0 : Nat) : Int)) hx hb dX3_toldOf_77 ?_
    refine lv_istore (lv' := [(4, .int (iI ((0 : Nat) : Int))), (3, .int (iI ((0 : Nat) : Int))), (0, .ref M), (1, .int (iI ((j : Nat) : Int))), (2, .int (iI ((5 : Nat) : Int)))]) hx hb dX3_toldOf_78 hl (by decide) rfl (fun ls hl => ?_)
    have LT : ∀ (k0 : Nat) (i : Nat), n - i < k0 → (hi : i ≤ n) → ∀ (ls : Array Slot), lv_has ls 5 [(0, .ref M), (1, .int (iI ((j : Nat) : Int))), (2, .int (iI ((5 : Nat) : Int))), (3, .int (iI (zEnvd b g j i))), (4, .int (iI ((i : Nat) : Int)))] → W p l e (zRm 2 44) s m args below meth c s.heap [] 0 0 (MQ below (vp_Si (fun x => x = (iI (zFact n b g me sh j 5)))) args s 0 0 (fun _ => False)) (F0 m 80 ls []) := by
      intro k0
      induction k0 with
      | zero => intro i hk; exact absurd hk (Nat.not_lt_zero _)
      | succ k0 ih_LT =>
        intro i hk hi ls hl
        refine lv_iload hx hb dX3_toldOf_80 (lv_at hl 4 rfl) ?_
        refine lv_aload_n hx hb dX3_toldOf_82 rfl (lv_at hl 0 rfl) ?_
        refine va_get (D := D) (ci := 3) (v := .int (iI ((n : Nat) : Int))) (C := RX3) (T := TX3) (N := 15) hx hb hts (by decide +kernel) hown hK hP 0 rfl rfl 1 (by decide) (hts (.fieldLink RX3 38 "RentHarmonyModel" "lodgers" "I") (by decide +kernel)) (fun _ h9 => h9) rfl dX3_toldOf_83 ?_
        refine zr_icmp_ge (tgt := 113) hx hb dX3_toldOf_86 (by decide) (zB_of (by omega) (by omega)) (zB_of (by omega) (by omega)) (fun c1 => ?_) (fun c1 => ?_)
        · refine lv_iload_n hx hb dX3_toldOf_113 rfl (lv_at hl 3 rfl) ?_
          exact zRi_ret hx hb hr hlocks dX3_toldOf_114 (by rw [show i = n by omega]; rfl)
        · refine lv_iload_n hx hb dX3_toldOf_89 rfl (lv_at hl 3 rfl) ?_
          refine lv_aload_n hx hb dX3_toldOf_90 rfl (lv_at hl 0 rfl) ?_
          refine lv_iload_n hx hb dX3_toldOf_91 rfl (lv_at hl 1 rfl) ?_
          refine lv_iload hx hb dX3_toldOf_92 (lv_at hl 4 rfl) ?_
          refine zc_ri (As := [.int (iI ((j : Nat) : Int)), .int (iI ((i : Nat) : Int))]) (rest := [.int (iI (zEnvd b g j i))]) hF (c_X3_isEnvy l D cI M MB MR ME MZ MT n b mr me mq mt th rc wo wy po fe wh wi mu g j i (by omega) (by assumption) (by assumption) (by assumption) (by omega) (by omega)) (cwV 2 hts gX3_toldOf_X3_isEnvy rfl rfl rfl (by decide +kernel) ⟨Nat.le_of_ble_eq_true rfl, Nat.le_of_ble_eq_true rfl⟩) hK hP [0, 1, 2, 3, 4, 5] rfl 0 rfl 0 rfl rfl rfl rfl hl.1 rfl (Nat.le_of_ble_eq_true rfl) dX3_toldOf_94 ⟨Nat.zero_le _, Nat.zero_le _⟩ ?_
          refine zr_ifB_eq (tgt := 104) hx hb dX3_toldOf_97 (by decide)  (fun c2 => ?_) (fun c2 => ?_)
          · refine zr_ic (n := ((0 : Nat) : Int)) hx hb dX3_toldOf_104 ?_
            refine zr_add hx hb dX3_toldOf_105 ?_
            refine lv_istore_n (lv' := [(3, .int (iI ((zEnvd b g j i) + ((0 : Nat) : Int)))), (0, .ref M), (1, .int (iI ((j : Nat) : Int))), (2, .int (iI ((5 : Nat) : Int))), (4, .int (iI ((i : Nat) : Int)))]) hx hb dX3_toldOf_106 rfl hl (by decide) rfl (fun ls hl => ?_)
            refine zr_iinc (lv2 := [(4, .int (iI (((i : Nat) : Int) + 1))), (3, .int (iI ((zEnvd b g j i) + ((0 : Nat) : Int)))), (0, .ref M), (1, .int (iI ((j : Nat) : Int))), (2, .int (iI ((5 : Nat) : Int)))]) hx hb dX3_toldOf_107 hl (k0 := 4) rfl (by decide) rfl (fun ls hl => ?_)
            have hl : lv_has ls 5 [(4, .int (iI ((i + 1 : Nat) : Int))), (3, .int (iI ((zEnvd b g j i) + ((0 : Nat) : Int)))), (0, .ref M), (1, .int (iI ((j : Nat) : Int))), (2, .int (iI ((5 : Nat) : Int)))] := hl
            refine lv_goto (tgt := 80) hx hb dX3_toldOf_110 (by decide) ?_
            have hl : lv_has ls 5 [(4, .int (iI ((i + 1 : Nat) : Int))), (3, .int (iI (zEnvd b g j (i + 1)))), (0, .ref M), (1, .int (iI ((j : Nat) : Int))), (2, .int (iI ((5 : Nat) : Int)))] := by rw [show (zEnvd b g j (i + 1)) = ((zEnvd b g j i) + ((0 : Nat) : Int)) from by show zEnvd b g j i + bZ (zEn b g j i) = _; rw [bZ_f c2]; rfl]; exact hl
            exact ih_LT (i + 1) (by omega) (by omega) _ (lv_sub hl [2, 3, 4, 1, 0] rfl)
          · refine zr_ic (n := ((1 : Nat) : Int)) hx hb dX3_toldOf_100 ?_
            refine lv_goto (tgt := 105) hx hb dX3_toldOf_101 (by decide) ?_
            refine zr_add hx hb dX3_toldOf_105 ?_
            refine lv_istore_n (lv' := [(3, .int (iI ((zEnvd b g j i) + ((1 : Nat) : Int)))), (0, .ref M), (1, .int (iI ((j : Nat) : Int))), (2, .int (iI ((5 : Nat) : Int))), (4, .int (iI ((i : Nat) : Int)))]) hx hb dX3_toldOf_106 rfl hl (by decide) rfl (fun ls hl => ?_)
            refine zr_iinc (lv2 := [(4, .int (iI (((i : Nat) : Int) + 1))), (3, .int (iI ((zEnvd b g j i) + ((1 : Nat) : Int)))), (0, .ref M), (1, .int (iI ((j : Nat) : Int))), (2, .int (iI ((5 : Nat) : Int)))]) hx hb dX3_toldOf_107 hl (k0 := 4) rfl (by decide) rfl (fun ls hl => ?_)
            have hl : lv_has ls 5 [(4, .int (iI ((i + 1 : Nat) : Int))), (3, .int (iI ((zEnvd b g j i) + ((1 : Nat) : Int)))), (0, .ref M), (1, .int (iI ((j : Nat) : Int))), (2, .int (iI ((5 : Nat) : Int)))] := hl
            refine lv_goto (tgt := 80) hx hb dX3_toldOf_110 (by decide) ?_
            have hl : lv_has ls 5 [(4, .int (iI ((i + 1 : Nat) : Int))), (3, .int (iI (zEnvd b g j (i + 1)))), (0, .ref M), (1, .int (iI ((j : Nat) : Int))), (2, .int (iI ((5 : Nat) : Int)))] := by rw [show (zEnvd b g j (i + 1)) = ((zEnvd b g j i) + ((1 : Nat) : Int)) from by show zEnvd b g j i + bZ (zEn b g j i) = _; rw [bZ_t c2]; rfl]; exact hl
            exact ih_LT (i + 1) (by omega) (by omega) _ (lv_sub hl [2, 3, 4, 1, 0] rfl)
    have hl : lv_has ls 5 [(4, .int (iI ((0 : Nat) : Int))), (3, .int (iI (zEnvd b g j 0))), (0, .ref M), (1, .int (iI ((j : Nat) : Int))), (2, .int (iI ((5 : Nat) : Int)))] := by rw [show (zEnvd b g j 0) = ((0 : Nat) : Int) from rfl]; exact hl
    exact LT ((n - (0)) + 1) (0) (Nat.lt_succ_self _) (by omega) _ (lv_sub hl [2, 3, 4, 1, 0] rfl)
set_option maxHeartbeats 4000000 in
set_option maxRecDepth 100000 in
/-- X3_isTaken -/
theorem c_X3_isTaken (l : Launch) (D : va_G) (cI : ClassId) (M MB MR ME MZ MT n : Nat) (b mr me mq mt : Nat → Int) (th rc wo wy po fe wh wi mu : Int) (k r : Nat) (hk : k ≤ 6) (hr6 : r < 6) (hmt : ∀ j, j < k → 0 ≤ mt j ∧ mt j ≤ 6) (hwh : zB wh) (hwi : zB wi) (hmu : 0 ≤ mu ∧ mu ≤ 1) : zRi l yX3_isTaken wsX3_isTaken 0 0 D cI [.ref M, .int (iI ((k : Nat) : Int)), .int (iI ((r : Nat) : Int))] [(M, .inr (3, [.int (iI (th)), .int (iI ((n : Nat) : Int)), .int (iI (rc)), .ref MB, .ref MR, .ref ME, .ref MZ, .int (iI (wo)), .int (iI (wy)), .int (iI (po)), .ref MT, .int (iI (fe)), .int (iI (wh)), .int (iI (wi)), .int (iI (mu))])), (MB, zArr cI 36 b), (MR, zArr cI 6 mr), (ME, zArr cI 6 me), (MZ, zArr cI 6 mq), (MT, zArr cI 6 mt)] (iI (bZ ((zTk mt k r || !zAl wh wi mu k r) = true))) := by
  refine zRi_of (cc := cX3_isTaken) (maxL := 4) (rt := .boolean) (by decide) rfl (Nat.le_of_ble_eq_true rfl) ?_
  intro p e s m args below meth c ls hF hr hlocks hP hK hl
  have hF : zFix p m c cX3_isTaken 4 s args wsX3_isTaken RX3 := hF
  obtain ⟨hx, hb, hml, hown, hts⟩ := id hF
  have hP : va_P D vwCl [(M, .inr (3, [.int (iI (th)), .int (iI ((n : Nat) : Int)), .int (iI (rc)), .ref MB, .ref MR, .ref ME, .ref MZ, .int (iI (wo)), .int (iI (wy)), .int (iI (po)), .ref MT, .int (iI (fe)), .int (iI (wh)), .int (iI (wi)), .int (iI (mu))])), (MB, zArr cI 36 b), (MR, zArr cI 6 mr), (ME, zArr cI 6 me), (MZ, zArr cI 6 mq), (MT, zArr cI 6 mt)] s.heap := hP
  have hwh1 := hwh.1
  have hwh2 := hwh.2
  have hwi1 := hwi.1
  have hwi2 := hwi.2
  have hl : lv_has ls 4 [(0, .ref M), (1, .int (iI ((k : Nat) : Int))), (2, .int (iI ((r : Nat) : Int)))] := hl
  refine zr_ic (n := ((0 : Nat) : Int)) hx hb dX3_isTaken_0 ?_
  refine lv_istore_n (lv' := [(3, .int (iI ((0 : Nat) : Int))), (0, .ref M), (1, .int (iI ((k : Nat) : Int))), (2, .int (iI ((r : Nat) : Int)))]) hx hb dX3_isTaken_1 rfl hl (by decide) rfl (fun ls hl => ?_)
  have LI : ∀ (k0 : Nat) (i : Nat), k - i < k0 → (hi : i ≤ k) → (hno : zTk mt i r = false) → ∀ (ls : Array Slot), lv_has ls 4 [(0, .ref M), (1, .int (iI ((k : Nat) : Int))), (2, .int (iI ((r : Nat) : Int))), (3, .int (iI ((i : Nat) : Int)))] → W p l e (zRm 0 0) s m args below meth c s.heap [] 0 0 (MQ below (vp_Si (fun x => x = (iI (bZ ((zTk mt k r || !zAl wh wi mu k r) = true))))) args s 0 0 (fun _ => False)) (F0 m 2 ls []) := by
    intro k0
    induction k0 with
    | zero => intro i hk; exact absurd hk (Nat.not_lt_zero _)
    | succ k0 ih_LI =>
      intro i hk hi hno ls hl
      refine lv_iload_n hx hb dX3_isTaken_2 rfl (lv_at hl 3 rfl) ?_
      refine lv_iload_n hx hb dX3_isTaken_3 rfl (lv_at hl 1 rfl) ?_
      refine zr_icmp_ge (tgt := 25) hx hb dX3_isTaken_4 (by decide) (zB_of (by omega) (by omega)) (zB_of (by omega) (by omega)) (fun c1 => ?_) (fun c1 => ?_)
      · have hno : zTk mt k r = false := by rw [show k = i by omega]; exact hno
        refine lv_iload_n hx hb dX3_isTaken_25 rfl (lv_at hl 1 rfl) ?_
        refine lv_aload_n hx hb dX3_isTaken_26 rfl (lv_at hl 0 rfl) ?_
        refine va_get (D := D) (ci := 3) (v := .int (iI (wh))) (C := RX3) (T := TX3) (N := 15) hx hb hts (by decide +kernel) hown hK hP 0 rfl rfl 12 (by decide) (hts (.fieldLink RX3 29 "RentHarmonyModel" "who" "I") (by decide +kernel)) (fun _ h9 => h9) rfl dX3_isTaken_27 ?_
        refine zr_icmp_ne (tgt := 57) hx hb dX3_isTaken_30 (by decide) (zB_of (by omega) (by omega)) (zB_of (by omega) (by omega)) (fun c2 => ?_) (fun c2 => ?_)
        · have hw9 : (k : Int) = wh → ¬ mu ≠ bZ ((r : Int) = wi) := fun q => absurd q c2
          refine zr_ic (n := ((0 : Nat) : Int)) hx hb dX3_isTaken_57 ?_
          exact zRi_retz hx hb hr rfl hlocks dX3_isTaken_58 (congrArg iI (bZ_f (by unfold zAl; rw [hno]; simp; exact fun q => Classical.not_not.mp (hw9 q))).symm)
        · have hw1 : (k : Int) = wh := c2
          refine lv_aload_n hx hb dX3_isTaken_33 rfl (lv_at hl 0 rfl) ?_
          refine va_get (D := D) (ci := 3) (v := .int (iI (mu))) (C := RX3) (T := TX3) (N := 15) hx hb hts (by decide +kernel) hown hK hP 0 rfl rfl 14 (by decide) (hts (.fieldLink RX3 60 "RentHarmonyModel" "must" "Z") (by decide +kernel)) (fun _ h9 => h9) rfl dX3_isTaken_34 ?_
          refine lv_iload_n hx hb dX3_isTaken_37 rfl (lv_at hl 2 rfl) ?_
          refine lv_aload_n hx hb dX3_isTaken_38 rfl (lv_at hl 0 rfl) ?_
          refine va_get (D := D) (ci := 3) (v := .int (iI (wi))) (C := RX3) (T := TX3) (N := 15) hx hb hts (by decide +kernel) hown hK hP 0 rfl rfl 13 (by decide) (hts (.fieldLink RX3 32 "RentHarmonyModel" "which" "I") (by decide +kernel)) (fun _ h9 => h9) rfl dX3_isTaken_39 ?_
          refine zr_icmp_ne (tgt := 49) hx hb dX3_isTaken_42 (by decide) (zB_of (by omega) (by omega)) (zB_of (by omega) (by omega)) (fun c3 => ?_) (fun c3 => ?_)
          · have hwz : bZ ((r : Int) = wi) = 0 := bZ_f c3
            refine zr_ic (n := ((0 : Nat) : Int)) hx hb dX3_isTaken_49 ?_
            refine zr_icmp_eq (tgt := 57) hx hb dX3_isTaken_50 (by decide) (zB_of (by omega) (by omega)) (zB_of (by omega) (by omega)) (fun c4 => ?_) (fun c4 => ?_)
            · have hw9 : (k : Int) = wh → ¬ mu ≠ bZ ((r : Int) = wi) := fun _ q => q (by rw [hwz]; exact c4)
              refine zr_ic (n := ((0 : Nat) : Int)) hx hb dX3_isTaken_57 ?_
              exact zRi_retz hx hb hr rfl hlocks dX3_isTaken_58 (congrArg iI (bZ_f (by unfold zAl; rw [hno]; simp; exact fun q => Classical.not_not.mp (hw9 q))).symm)
            · have hw2 : mu ≠ bZ ((r : Int) = wi) := by rw [hwz]; exact c4
              refine zr_ic (n := ((1 : Nat) : Int)) hx hb dX3_isTaken_53 ?_
              refine lv_goto (tgt := 58) hx hb dX3_isTaken_54 (by decide) ?_
              exact zRi_retz hx hb hr rfl hlocks dX3_isTaken_58 (congrArg iI (bZ_t (by unfold zAl; rw [decide_eq_true hw1, decide_eq_true hw2]; simp)).symm)
          · have hwz : bZ ((r : Int) = wi) = 1 := bZ_t c3
            refine zr_ic (n := ((1 : Nat) : Int)) hx hb dX3_isTaken_45 ?_
            refine lv_goto (tgt := 50) hx hb dX3_isTaken_46 (by decide) ?_
            refine zr_icmp_eq (tgt := 57) hx hb dX3_isTaken_50 (by decide) (zB_of (by omega) (by omega)) (zB_of (by omega) (by omega)) (fun c5 => ?_) (fun c5 => ?_)
            · have hw9 : (k : Int) = wh → ¬ mu ≠ bZ ((r : Int) = wi) := fun _ q => q (by rw [hwz]; exact c5)
              refine zr_ic (n := ((0 : Nat) : Int)) hx hb dX3_isTaken_57 ?_
              exact zRi_retz hx hb hr rfl hlocks dX3_isTaken_58 (congrArg iI (bZ_f (by unfold zAl; rw [hno]; simp; exact fun q => Classical.not_not.mp (hw9 q))).symm)
            · have hw2 : mu ≠ bZ ((r : Int) = wi) := by rw [hwz]; exact c5
              refine zr_ic (n := ((1 : Nat) : Int)) hx hb dX3_isTaken_53 ?_
              refine lv_goto (tgt := 58) hx hb dX3_isTaken_54 (by decide) ?_
              exact zRi_retz hx hb hr rfl hlocks dX3_isTaken_58 (congrArg iI (bZ_t (by unfold zAl; rw [decide_eq_true hw1, decide_eq_true hw2]; simp)).symm)
      · have hmi := hmt i (by omega)
        refine lv_aload_n hx hb dX3_isTaken_7 rfl (lv_at hl 0 rfl) ?_
        refine va_get (D := D) (ci := 3) (v := .ref MT) (C := RX3) (T := TX3) (N := 15) hx hb hts (by decide +kernel) hown hK hP 0 rfl rfl 10 (by decide) (hts (.fieldLink RX3 22 "RentHarmonyModel" "tried" "[I") (by decide +kernel)) (fun _ h9 => h9) rfl dX3_isTaken_8 ?_
        refine lv_iload_n hx hb dX3_isTaken_11 rfl (lv_at hl 3 rfl) ?_
        refine zr_iald hx hb hK hP 5 0 rfl rfl (i) (by omega) (by omega) (by omega) dX3_isTaken_12 ?_
        refine lv_iload_n hx hb dX3_isTaken_13 rfl (lv_at hl 2 rfl) ?_
        refine zr_icmp_ne (tgt := 19) hx hb dX3_isTaken_14 (by decide) (zB_of (by omega) (by omega)) (zB_of (by omega) (by omega)) (fun c6 => ?_) (fun c6 => ?_)
        · have hne : ¬ mt i = ((r : Nat) : Int) := c6
          refine zr_iinc (lv2 := [(3, .int (iI (((i : Nat) : Int) + 1))), (0, .ref M), (1, .int (iI ((k : Nat) : Int))), (2, .int (iI ((r : Nat) : Int)))]) hx hb dX3_isTaken_19 hl (k0 := 3) rfl (by decide) rfl (fun ls hl => ?_)
          have hl : lv_has ls 4 [(3, .int (iI ((i + 1 : Nat) : Int))), (0, .ref M), (1, .int (iI ((k : Nat) : Int))), (2, .int (iI ((r : Nat) : Int)))] := hl
          refine lv_goto (tgt := 2) hx hb dX3_isTaken_22 (by decide) ?_
          exact ih_LI (i + 1) (by omega) (by omega) (by show (zTk mt i r || decide (mt i = (r : Int))) = false; rw [hno, decide_eq_false hne]; rfl) _ (lv_sub hl [1, 2, 3, 0] rfl)
        · have hfd := zTk_mono mt r c6 k (by omega)
          refine zr_ic (n := ((1 : Nat) : Int)) hx hb dX3_isTaken_17 ?_
          exact zRi_retz hx hb hr rfl hlocks dX3_isTaken_18 (congrArg iI (bZ_t (by rw [hfd]; rfl)).symm)
  exact LI ((k - (0)) + 1) (0) (Nat.lt_succ_self _) (Nat.zero_le _) rfl _ (lv_sub hl [1, 2, 3, 0] rfl)
set_option maxHeartbeats 4000000 in
set_option maxRecDepth 100000 in
/-- X3_fail -/
theorem c_X3_fail (l : Launch) (D : va_G) (cI : ClassId) (M MB MR ME MZ MT n : Nat) (b mr me mq mt : Nat → Int) (th rc wo wy po fe wh wi mu : Int) (x : Int)  : zWi (S := Unit) l yX3_fail wsX3_fail 0 0 D cI [.ref M, .int (iI (x))] [(M, .inr (3, [.int (iI (th)), .int (iI ((n : Nat) : Int)), .int (iI (rc)), .ref MB, .ref MR, .ref ME, .ref MZ, .int (iI (wo)), .int (iI (wy)), .int (iI (po)), .ref MT, .int (iI (fe)), .int (iI (wh)), .int (iI (wi)), .int (iI (mu))])), (MB, zArr cI 36 b), (MR, zArr cI 6 mr), (ME, zArr cI 6 me), (MZ, zArr cI 6 mq), (MT, zArr cI 6 mt)] (fun r _ => r = iI 0) (fun _ => [(M, .inr (3, [.int (iI (x)), .int (iI ((n : Nat) : Int)), .int (iI (rc)), .ref MB, .ref MR, .ref ME, .ref MZ, .int (iI (wo)), .int (iI (wy)), .int (iI (po)), .ref MT, .int (iI (fe)), .int (iI (wh)), .int (iI (wi)), .int (iI (mu))])), (MB, zArr cI 36 b), (MR, zArr cI 6 mr), (ME, zArr cI 6 me), (MZ, zArr cI 6 mq), (MT, zArr cI 6 mt)]) := by
  refine zWi_of (cc := cX3_fail) (maxL := 2) (rt := .int) (by decide) rfl (Nat.le_of_ble_eq_true rfl) ?_
  intro p e s m args below meth c ls A hF hr hlocks hP hK hD hS hl
  have hF : zFix p m c cX3_fail 2 s args wsX3_fail RX3 := hF
  obtain ⟨hx, hb, hml, hown, hts⟩ := id hF
  have hP : va_P D vwCl [(M, .inr (3, [.int (iI (th)), .int (iI ((n : Nat) : Int)), .int (iI (rc)), .ref MB, .ref MR, .ref ME, .ref MZ, .int (iI (wo)), .int (iI (wy)), .int (iI (po)), .ref MT, .int (iI (fe)), .int (iI (wh)), .int (iI (wi)), .int (iI (mu))])), (MB, zArr cI 36 b), (MR, zArr cI 6 mr), (ME, zArr cI 6 me), (MZ, zArr cI 6 mq), (MT, zArr cI 6 mt)] s.heap := hP
  have hD : va_D A [(M, .inr (3, [.int (iI (th)), .int (iI ((n : Nat) : Int)), .int (iI (rc)), .ref MB, .ref MR, .ref ME, .ref MZ, .int (iI (wo)), .int (iI (wy)), .int (iI (po)), .ref MT, .int (iI (fe)), .int (iI (wh)), .int (iI (wi)), .int (iI (mu))])), (MB, zArr cI 36 b), (MR, zArr cI 6 mr), (ME, zArr cI 6 me), (MZ, zArr cI 6 mq), (MT, zArr cI 6 mt)] := hD
  skip
  have hl : lv_has ls 2 [(0, .ref M), (1, .int (iI (x)))] := hl
  refine lv_aload_n hx hb dX3_fail_0 rfl (lv_at hl 0 rfl) ?_
  refine lv_iload_n hx hb dX3_fail_1 rfl (lv_at hl 1 rfl) ?_
  refine va_put (D := D) (ci := 3) (v := .int (iI (x))) (ty := .int) (C := RX3) (T := TX3) (N := 15) hx hb hts (by decide +kernel) tyX3 tyX3_ok nmX3 hown hK hP hD hS 0 rfl rfl 0 (by decide) (hts (.fieldLink RX3 35 "RentHarmonyModel" "thrown" "I") (by decide +kernel)) (fun _ h9 => h9) rfl (by decide +kernel) rfl rfl (Nat.le_of_ble_eq_true rfl) dX3_fail_2 (fun H locs hP hD hS => ?_)
  have hP : va_P D vwCl [(M, .inr (3, [.int (iI (x)), .int (iI ((n : Nat) : Int)), .int (iI (rc)), .ref MB, .ref MR, .ref ME, .ref MZ, .int (iI (wo)), .int (iI (wy)), .int (iI (po)), .ref MT, .int (iI (fe)), .int (iI (wh)), .int (iI (wi)), .int (iI (mu))])), (MB, zArr cI 36 b), (MR, zArr cI 6 mr), (ME, zArr cI 6 me), (MZ, zArr cI 6 mq), (MT, zArr cI 6 mt)] H := hP
  have hD : va_D A [(M, .inr (3, [.int (iI (x)), .int (iI ((n : Nat) : Int)), .int (iI (rc)), .ref MB, .ref MR, .ref ME, .ref MZ, .int (iI (wo)), .int (iI (wy)), .int (iI (po)), .ref MT, .int (iI (fe)), .int (iI (wh)), .int (iI (wi)), .int (iI (mu))])), (MB, zArr cI 36 b), (MR, zArr cI 6 mr), (ME, zArr cI 6 me), (MZ, zArr cI 6 mq), (MT, zArr cI 6 mt)] := hD
  refine zr_ic (n := ((0 : Nat) : Int)) hx hb dX3_fail_5 ?_
  exact zWi_ret hx hb hr hlocks hS dX3_fail_6 () rfl hP
