def zFF (n : Nat) (b : Nat → Int) (fe wh wi mu : Int) (mt : Nat → Int) (k r : Nat) : zS := if (zTk mt k r || !zAl wh wi mu k r) = true then none else zShift (zVf b fe k r) r (zG n (zAl wh wi mu) (zVf b fe) (n - (k + 1)) (k + 1) (zAdd (zTk mt k) r))
theorem zG_FF {n : Nat} {b : Nat → Int} {fe wh wi mu : Int} {mt : Nat → Int} {k : Nat} (hk : k < n) : zG n (zAl wh wi mu) (zVf b fe) (n - k) k (zTk mt k) = zFold (zFF n b fe wh wi mu mt k) n := by
  have e : n - k = (n - (k + 1)) + 1 := by omega
  rw [e]
  rfl
theorem zSnoc_lt {p : List Nat} {r k M : Nat} (hl : p.length = k) (h : ∀ j, j < k → p.getD j 0 < M) (hr : r < M) : ∀ j, j < k + 1 → (p ++ [r]).getD j 0 < M := by
  intro j hj
  by_cases e : j = k
  · rw [e, ← hl, zGetD_snoc]; exact hr
  · rw [zGetD_app (by omega)]; exact h j (by omega)

set_option maxHeartbeats 4000000 in
set_option maxRecDepth 100000 in
/-- X3_tryFrom -/
theorem c_X3_tryFrom_6 (l : Launch) (D : va_G) (cI : ClassId) (M MB MR ME MZ MT n : Nat) (b mr me mq mt : Nat → Int) (th rc wo wy po fe wh wi mu : Int) (pre : List Nat) (sum : Int) (hn : n ≤ 6) (hb0 : ∀ k, 0 ≤ b k ∧ b k ≤ 999) (hkn : 6 ≤ n) (hlen : pre.length = 6) (hpre : ∀ j, j < 6 → mt j = ((pre.getD j 0 : Nat) : Int)) (hpl : ∀ j, j < 6 → pre.getD j 0 < 6) (hsum : 0 ≤ sum ∧ sum ≤ 999 * 6) (hwo : -1 ≤ wo ∧ wo ≤ 6000) (hfe : zB fe) (hwh : zB wh) (hwi : zB wi) (hmu : 0 ≤ mu ∧ mu ≤ 1) : zWv (S := Int × Int × (Nat → Int) × (Nat → Int)) l yX3_tryFrom wsX3_tryFrom 1 30 D cI [.ref M, .int (iI ((6 : Nat) : Int)), .int (iI (sum))] [(M, .inr (3, [.int (iI (th)), .int (iI ((n : Nat) : Int)), .int (iI (rc)), .ref MB, .ref MR, .ref ME, .ref MZ, .int (iI (wo)), .int (iI (wy)), .int (iI (po)), .ref MT, .int (iI (fe)), .int (iI (wh)), .int (iI (wi)), .int (iI (mu))])), (MB, zArr cI 36 b), (MR, zArr cI 6 mr), (ME, zArr cI 6 me), (MZ, zArr cI 6 mq), (MT, zArr cI 6 mt)] (fun u8 => zStep n pre sum (zG n (zAl wh wi mu) (zVf b fe) (n - 6) 6 (zTk mt 6)) wo wy mr u8.1 u8.2.1 u8.2.2.1 ∧ (∀ j, j < 6 → u8.2.2.2 j = mt j) ∧ (-1 ≤ u8.1 ∧ u8.1 ≤ 6000)) (fun u8 => [(M, .inr (3, [.int (iI (th)), .int (iI ((n : Nat) : Int)), .int (iI (rc)), .ref MB, .ref MR, .ref ME, .ref MZ, .int (iI (u8.1)), .int (iI (u8.2.1)), .int (iI (po)), .ref MT, .int (iI (fe)), .int (iI (wh)), .int (iI (wi)), .int (iI (mu))])), (MB, zArr cI 36 b), (MR, zArr cI 6 u8.2.2.1), (ME, zArr cI 6 me), (MZ, zArr cI 6 mq), (MT, zArr cI 6 u8.2.2.2)]) := by
  refine zWv_of (cc := cX3_tryFrom) (maxL := 4) (by decide) rfl (Nat.le_of_ble_eq_true rfl) ?_
  intro p e s m args below meth c ls A hF hr hlocks hP hK hD hS hl
  have hF : zFix p m c cX3_tryFrom 4 s args wsX3_tryFrom RX3 := hF
  obtain ⟨hx, hb, hml, hown, hts⟩ := id hF
  have hP : va_P D vwCl [(M, .inr (3, [.int (iI (th)), .int (iI ((n : Nat) : Int)), .int (iI (rc)), .ref MB, .ref MR, .ref ME, .ref MZ, .int (iI (wo)), .int (iI (wy)), .int (iI (po)), .ref MT, .int (iI (fe)), .int (iI (wh)), .int (iI (wi)), .int (iI (mu))])), (MB, zArr cI 36 b), (MR, zArr cI 6 mr), (ME, zArr cI 6 me), (MZ, zArr cI 6 mq), (MT, zArr cI 6 mt)] s.heap := hP
  have hD : va_D A [(M, .inr (3, [.int (iI (th)), .int (iI ((n : Nat) : Int)), .int (iI (rc)), .ref MB, .ref MR, .ref ME, .ref MZ, .int (iI (wo)), .int (iI (wy)), .int (iI (po)), .ref MT, .int (iI (fe)), .int (iI (wh)), .int (iI (wi)), .int (iI (mu))])), (MB, zArr cI 36 b), (MR, zArr cI 6 mr), (ME, zArr cI 6 me), (MZ, zArr cI 6 mq), (MT, zArr cI 6 mt)] := hD
  skip
  have hl : lv_has ls 4 [(0, .ref M), (1, .int (iI ((6 : Nat) : Int))), (2, .int (iI (sum)))] := hl
  have hfe1 := hfe.1
  have hfe2 := hfe.2
  refine lv_iload_n hx hb dX3_tryFrom_0 rfl (lv_at hl 1 rfl) ?_
  refine lv_aload_n hx hb dX3_tryFrom_1 rfl (lv_at hl 0 rfl) ?_
  refine va_get (D := D) (ci := 3) (v := .int (iI ((n : Nat) : Int))) (C := RX3) (T := TX3) (N := 15) hx hb hts (by decide +kernel) hown hK hP 0 rfl rfl 1 (by decide) (hts (.fieldLink RX3 38 "RentHarmonyModel" "lodgers" "I") (by decide +kernel)) (fun _ h9 => h9) rfl dX3_tryFrom_2 ?_
  refine zr_icmp_ne (tgt := 77) hx hb dX3_tryFrom_5 (by decide) (zB_of (by omega) (by omega)) (zB_of (by omega) (by omega)) (fun c1 => ?_) (fun c1 => ?_)
  · exact absurd (by omega) c1
  · have hkn2 : 6 = n := by omega
    have e0 : n - 6 = 0 := by omega
    have hlf := zStep_leaf (sum := sum) (w := wo) (y := wy) (ro := mr) (hlen.trans hkn2) (fun j hj => hpre j (by omega))
    refine lv_aload_n hx hb dX3_tryFrom_8 rfl (lv_at hl 0 rfl) ?_
    refine lv_iload_n hx hb dX3_tryFrom_9 rfl (lv_at hl 2 rfl) ?_
    refine lv_aload_n hx hb dX3_tryFrom_10 rfl (lv_at hl 0 rfl) ?_
    refine va_get (D := D) (ci := 3) (v := .int (iI (wo))) (C := RX3) (T := TX3) (N := 15) hx hb hts (by decide +kernel) hown hK hP 0 rfl rfl 7 (by decide) (hts (.fieldLink RX3 64 "RentHarmonyModel" "worth" "I") (by decide +kernel)) (fun _ h9 => h9) rfl dX3_tryFrom_11 ?_
    refine zr_icmp_le (tgt := 21) hx hb dX3_tryFrom_14 (by decide) (zB_of (by omega) (by omega)) (zB_of (by omega) (by omega)) (fun c2 => ?_) (fun c2 => ?_)
    · refine lv_iload_n hx hb dX3_tryFrom_21 rfl (lv_at hl 2 rfl) ?_
      refine lv_aload_n hx hb dX3_tryFrom_22 rfl (lv_at hl 0 rfl) ?_
      refine va_get (D := D) (ci := 3) (v := .int (iI (wo))) (C := RX3) (T := TX3) (N := 15) hx hb hts (by decide +kernel) hown hK hP 0 rfl rfl 7 (by decide) (hts (.fieldLink RX3 64 "RentHarmonyModel" "worth" "I") (by decide +kernel)) (fun _ h9 => h9) rfl dX3_tryFrom_23 ?_
      refine zr_icmp_ne (tgt := 38) hx hb dX3_tryFrom_26 (by decide) (zB_of (by omega) (by omega)) (zB_of (by omega) (by omega)) (fun c3 => ?_) (fun c3 => ?_)
      · have hcmp := c3
        refine lv_aload_n hx hb dX3_tryFrom_38 rfl (lv_at hl 0 rfl) ?_
        refine va_get (D := D) (ci := 3) (v := .int (iI (wy))) (C := RX3) (T := TX3) (N := 15) hx hb hts (by decide +kernel) hown hK hP 0 rfl rfl 8 (by decide) (hts (.fieldLink RX3 67 "RentHarmonyModel" "ways" "I") (by decide +kernel)) (fun _ h9 => h9) rfl dX3_tryFrom_39 ?_
        refine va_put (D := D) (ci := 3) (v := .int (iI (wy))) (ty := .int) (C := RX3) (T := TX3) (N := 15) hx hb hts (by decide +kernel) tyX3 tyX3_ok nmX3 hown hK hP hD hS 0 rfl rfl 8 (by decide) (hts (.fieldLink RX3 67 "RentHarmonyModel" "ways" "I") (by decide +kernel)) (fun _ h9 => h9) rfl (by decide +kernel) rfl rfl (Nat.le_of_ble_eq_true rfl) dX3_tryFrom_42 (fun H locs hP hD hS => ?_)
        have hP : va_P D vwCl [(M, .inr (3, [.int (iI (th)), .int (iI ((n : Nat) : Int)), .int (iI (rc)), .ref MB, .ref MR, .ref ME, .ref MZ, .int (iI (wo)), .int (iI (wy)), .int (iI (po)), .ref MT, .int (iI (fe)), .int (iI (wh)), .int (iI (wi)), .int (iI (mu))])), (MB, zArr cI 36 b), (MR, zArr cI 6 mr), (ME, zArr cI 6 me), (MZ, zArr cI 6 mq), (MT, zArr cI 6 mt)] H := hP
        have hD : va_D A [(M, .inr (3, [.int (iI (th)), .int (iI ((n : Nat) : Int)), .int (iI (rc)), .ref MB, .ref MR, .ref ME, .ref MZ, .int (iI (wo)), .int (iI (wy)), .int (iI (po)), .ref MT, .int (iI (fe)), .int (iI (wh)), .int (iI (wi)), .int (iI (mu))])), (MB, zArr cI 36 b), (MR, zArr cI 6 mr), (ME, zArr cI 6 me), (MZ, zArr cI 6 mq), (MT, zArr cI 6 mt)] := hD
        refine lv_iload_n hx hb dX3_tryFrom_45 rfl (lv_at hl 2 rfl) ?_
        refine lv_aload_n hx hb dX3_tryFrom_46 rfl (lv_at hl 0 rfl) ?_
        refine va_get (D := D) (ci := 3) (v := .int (iI (wo))) (C := RX3) (T := TX3) (N := 15) hx hb hts (by decide +kernel) hown hK hP 0 rfl rfl 7 (by decide) (hts (.fieldLink RX3 64 "RentHarmonyModel" "worth" "I") (by decide +kernel)) (fun _ h9 => h9) rfl dX3_tryFrom_47 ?_
        refine zr_icmp_gt (tgt := 54) hx hb dX3_tryFrom_50 (by decide) (zB_of (by omega) (by omega)) (zB_of (by omega) (by omega)) (fun c4 => ?_) (fun c4 => ?_)
        · exact absurd c4 (by omega)
        · exact zWv_ret hx hb hr hlocks hS dX3_tryFrom_53 (wo, wy, mr, mt) ⟨by show zStep n pre sum (zG n (zAl wh wi mu) (zVf b fe) (n - 6) 6 (zTk mt 6)) wo wy mr _ _ _; rw [e0]; exact hlf.2.2 (by omega), fun _ _ => rfl, by show -1 ≤ _ ∧ _ ≤ (6000 : Int); omega⟩ hP
      · have hcmp := c3
        refine lv_aload_n hx hb dX3_tryFrom_29 rfl (lv_at hl 0 rfl) ?_
        refine va_get (D := D) (ci := 3) (v := .int (iI (wy))) (C := RX3) (T := TX3) (N := 15) hx hb hts (by decide +kernel) hown hK hP 0 rfl rfl 8 (by decide) (hts (.fieldLink RX3 67 "RentHarmonyModel" "ways" "I") (by decide +kernel)) (fun _ h9 => h9) rfl dX3_tryFrom_30 ?_
        refine zr_ic (n := ((1 : Nat) : Int)) hx hb dX3_tryFrom_33 ?_
        refine zr_add hx hb dX3_tryFrom_34 ?_
        refine lv_goto (tgt := 42) hx hb dX3_tryFrom_35 (by decide) ?_
        refine va_put (D := D) (ci := 3) (v := .int (iI (wy + ((1 : Nat) : Int)))) (ty := .int) (C := RX3) (T := TX3) (N := 15) hx hb hts (by decide +kernel) tyX3 tyX3_ok nmX3 hown hK hP hD hS 0 rfl rfl 8 (by decide) (hts (.fieldLink RX3 67 "RentHarmonyModel" "ways" "I") (by decide +kernel)) (fun _ h9 => h9) rfl (by decide +kernel) rfl rfl (Nat.le_of_ble_eq_true rfl) dX3_tryFrom_42 (fun H locs hP hD hS => ?_)
        have hP : va_P D vwCl [(M, .inr (3, [.int (iI (th)), .int (iI ((n : Nat) : Int)), .int (iI (rc)), .ref MB, .ref MR, .ref ME, .ref MZ, .int (iI (wo)), .int (iI (wy + ((1 : Nat) : Int))), .int (iI (po)), .ref MT, .int (iI (fe)), .int (iI (wh)), .int (iI (wi)), .int (iI (mu))])), (MB, zArr cI 36 b), (MR, zArr cI 6 mr), (ME, zArr cI 6 me), (MZ, zArr cI 6 mq), (MT, zArr cI 6 mt)] H := hP
        have hD : va_D A [(M, .inr (3, [.int (iI (th)), .int (iI ((n : Nat) : Int)), .int (iI (rc)), .ref MB, .ref MR, .ref ME, .ref MZ, .int (iI (wo)), .int (iI (wy + ((1 : Nat) : Int))), .int (iI (po)), .ref MT, .int (iI (fe)), .int (iI (wh)), .int (iI (wi)), .int (iI (mu))])), (MB, zArr cI 36 b), (MR, zArr cI 6 mr), (ME, zArr cI 6 me), (MZ, zArr cI 6 mq), (MT, zArr cI 6 mt)] := hD
        refine lv_iload_n hx hb dX3_tryFrom_45 rfl (lv_at hl 2 rfl) ?_
        refine lv_aload_n hx hb dX3_tryFrom_46 rfl (lv_at hl 0 rfl) ?_
        refine va_get (D := D) (ci := 3) (v := .int (iI (wo))) (C := RX3) (T := TX3) (N := 15) hx hb hts (by decide +kernel) hown hK hP 0 rfl rfl 7 (by decide) (hts (.fieldLink RX3 64 "RentHarmonyModel" "worth" "I") (by decide +kernel)) (fun _ h9 => h9) rfl dX3_tryFrom_47 ?_
        refine zr_icmp_gt (tgt := 54) hx hb dX3_tryFrom_50 (by decide) (zB_of (by omega) (by omega)) (zB_of (by omega) (by omega)) (fun c5 => ?_) (fun c5 => ?_)
        · exact absurd c5 (by omega)
        · exact zWv_ret hx hb hr hlocks hS dX3_tryFrom_53 (wo, (wy + ((1 : Nat) : Int)), mr, mt) ⟨by show zStep n pre sum (zG n (zAl wh wi mu) (zVf b fe) (n - 6) 6 (zTk mt 6)) wo wy mr _ _ _; rw [e0]; exact hlf.2.1 (by omega), fun _ _ => rfl, by show -1 ≤ _ ∧ _ ≤ (6000 : Int); omega⟩ hP
    · have hgt := c2
      refine zr_ic (n := ((1 : Nat) : Int)) hx hb dX3_tryFrom_17 ?_
      refine lv_goto (tgt := 42) hx hb dX3_tryFrom_18 (by decide) ?_
      refine va_put (D := D) (ci := 3) (v := .int (iI ((1 : Nat) : Int))) (ty := .int) (C := RX3) (T := TX3) (N := 15) hx hb hts (by decide +kernel) tyX3 tyX3_ok nmX3 hown hK hP hD hS 0 rfl rfl 8 (by decide) (hts (.fieldLink RX3 67 "RentHarmonyModel" "ways" "I") (by decide +kernel)) (fun _ h9 => h9) rfl (by decide +kernel) rfl rfl (Nat.le_of_ble_eq_true rfl) dX3_tryFrom_42 (fun H locs hP hD hS => ?_)
      have hP : va_P D vwCl [(M, .inr (3, [.int (iI (th)), .int (iI ((n : Nat) : Int)), .int (iI (rc)), .ref MB, .ref MR, .ref ME, .ref MZ, .int (iI (wo)), .int (iI ((1 : Nat) : Int)), .int (iI (po)), .ref MT, .int (iI (fe)), .int (iI (wh)), .int (iI (wi)), .int (iI (mu))])), (MB, zArr cI 36 b), (MR, zArr cI 6 mr), (ME, zArr cI 6 me), (MZ, zArr cI 6 mq), (MT, zArr cI 6 mt)] H := hP
      have hD : va_D A [(M, .inr (3, [.int (iI (th)), .int (iI ((n : Nat) : Int)), .int (iI (rc)), .ref MB, .ref MR, .ref ME, .ref MZ, .int (iI (wo)), .int (iI ((1 : Nat) : Int)), .int (iI (po)), .ref MT, .int (iI (fe)), .int (iI (wh)), .int (iI (wi)), .int (iI (mu))])), (MB, zArr cI 36 b), (MR, zArr cI 6 mr), (ME, zArr cI 6 me), (MZ, zArr cI 6 mq), (MT, zArr cI 6 mt)] := hD
      refine lv_iload_n hx hb dX3_tryFrom_45 rfl (lv_at hl 2 rfl) ?_
      refine lv_aload_n hx hb dX3_tryFrom_46 rfl (lv_at hl 0 rfl) ?_
      refine va_get (D := D) (ci := 3) (v := .int (iI (wo))) (C := RX3) (T := TX3) (N := 15) hx hb hts (by decide +kernel) hown hK hP 0 rfl rfl 7 (by decide) (hts (.fieldLink RX3 64 "RentHarmonyModel" "worth" "I") (by decide +kernel)) (fun _ h9 => h9) rfl dX3_tryFrom_47 ?_
      refine zr_icmp_gt (tgt := 54) hx hb dX3_tryFrom_50 (by decide) (zB_of (by omega) (by omega)) (zB_of (by omega) (by omega)) (fun c6 => ?_) (fun c6 => ?_)
      · refine lv_aload_n hx hb dX3_tryFrom_54 rfl (lv_at hl 0 rfl) ?_
        refine lv_iload_n hx hb dX3_tryFrom_55 rfl (lv_at hl 2 rfl) ?_
        refine va_put (D := D) (ci := 3) (v := .int (iI (sum))) (ty := .int) (C := RX3) (T := TX3) (N := 15) hx hb hts (by decide +kernel) tyX3 tyX3_ok nmX3 hown hK hP hD hS 0 rfl rfl 7 (by decide) (hts (.fieldLink RX3 64 "RentHarmonyModel" "worth" "I") (by decide +kernel)) (fun _ h9 => h9) rfl (by decide +kernel) rfl rfl (Nat.le_of_ble_eq_true rfl) dX3_tryFrom_56 (fun H locs hP hD hS => ?_)
        have hP : va_P D vwCl [(M, .inr (3, [.int (iI (th)), .int (iI ((n : Nat) : Int)), .int (iI (rc)), .ref MB, .ref MR, .ref ME, .ref MZ, .int (iI (sum)), .int (iI ((1 : Nat) : Int)), .int (iI (po)), .ref MT, .int (iI (fe)), .int (iI (wh)), .int (iI (wi)), .int (iI (mu))])), (MB, zArr cI 36 b), (MR, zArr cI 6 mr), (ME, zArr cI 6 me), (MZ, zArr cI 6 mq), (MT, zArr cI 6 mt)] H := hP
        have hD : va_D A [(M, .inr (3, [.int (iI (th)), .int (iI ((n : Nat) : Int)), .int (iI (rc)), .ref MB, .ref MR, .ref ME, .ref MZ, .int (iI (sum)), .int (iI ((1 : Nat) : Int)), .int (iI (po)), .ref MT, .int (iI (fe)), .int (iI (wh)), .int (iI (wi)), .int (iI (mu))])), (MB, zArr cI 36 b), (MR, zArr cI 6 mr), (ME, zArr cI 6 me), (MZ, zArr cI 6 mq), (MT, zArr cI 6 mt)] := hD
        refine lv_aload_n hx hb dX3_tryFrom_59 rfl (lv_at hl 0 rfl) ?_
        refine va_get (D := D) (ci := 3) (v := .ref MT) (C := RX3) (T := TX3) (N := 15) hx hb hts (by decide +kernel) hown hK hP 0 rfl rfl 10 (by decide) (hts (.fieldLink RX3 22 "RentHarmonyModel" "tried" "[I") (by decide +kernel)) (fun _ h9 => h9) rfl dX3_tryFrom_60 ?_
        refine zr_ic (n := ((0 : Nat) : Int)) hx hb dX3_tryFrom_63 ?_
        refine lv_aload_n hx hb dX3_tryFrom_64 rfl (lv_at hl 0 rfl) ?_
        refine va_get (D := D) (ci := 3) (v := .ref MR) (C := RX3) (T := TX3) (N := 15) hx hb hts (by decide +kernel) hown hK hP 0 rfl rfl 4 (by decide) (hts (.fieldLink RX3 13 "RentHarmonyModel" "rooms" "[I") (by decide +kernel)) (fun _ h9 => h9) rfl dX3_tryFrom_65 ?_
        refine zr_ic (n := ((0 : Nat) : Int)) hx hb dX3_tryFrom_68 ?_
        refine lv_aload_n hx hb dX3_tryFrom_69 rfl (lv_at hl 0 rfl) ?_
        refine va_get (D := D) (ci := 3) (v := .int (iI ((n : Nat) : Int))) (C := RX3) (T := TX3) (N := 15) hx hb hts (by decide +kernel) hown hK hP 0 rfl rfl 1 (by decide) (hts (.fieldLink RX3 38 "RentHarmonyModel" "lodgers" "I") (by decide +kernel)) (fun _ h9 => h9) rfl dX3_tryFrom_70 ?_
        refine zr_copy (rest := []) hx hb (hml.trans hl.1.symm) hown (hts (.methodLink RX3 70 arraycopyName) (by decide +kernel)) (hts (.native arraycopyName) (by decide +kernel)) (hts (.static arraycopyName) (by decide +kernel)) (hts (.initialized "java/lang/System") (by decide +kernel)) hK hP hD hS 5 2 0 rfl rfl rfl (n) (by omega) (by omega) (by omega) (by decide) (Nat.le_of_ble_eq_true rfl) (by decide +kernel) dX3_tryFrom_73 (fun H locs hP hD hS => ?_)
        have hP : va_P D vwCl [(M, .inr (3, [.int (iI (th)), .int (iI ((n : Nat) : Int)), .int (iI (rc)), .ref MB, .ref MR, .ref ME, .ref MZ, .int (iI (sum)), .int (iI ((1 : Nat) : Int)), .int (iI (po)), .ref MT, .int (iI (fe)), .int (iI (wh)), .int (iI (wi)), .int (iI (mu))])), (MB, zArr cI 36 b), (MR, zArr cI 6 (zCpy mt mr (n))), (ME, zArr cI 6 me), (MZ, zArr cI 6 mq), (MT, zArr cI 6 mt)] H := hP
        have hD : va_D A [(M, .inr (3, [.int (iI (th)), .int (iI ((n : Nat) : Int)), .int (iI (rc)), .ref MB, .ref MR, .ref ME, .ref MZ, .int (iI (sum)), .int (iI ((1 : Nat) : Int)), .int (iI (po)), .ref MT, .int (iI (fe)), .int (iI (wh)), .int (iI (wi)), .int (iI (mu))])), (MB, zArr cI 36 b), (MR, zArr cI 6 (zCpy mt mr (n))), (ME, zArr cI 6 me), (MZ, zArr cI 6 mq), (MT, zArr cI 6 mt)] := hD
        exact zWv_ret hx hb hr hlocks hS dX3_tryFrom_76 (sum, ((1 : Nat) : Int), (zCpy mt mr (n)), mt) ⟨by show zStep n pre sum (zG n (zAl wh wi mu) (zVf b fe) (n - 6) 6 (zTk mt 6)) wo wy mr _ _ _; rw [e0]; exact hlf.1 (by omega), fun _ _ => rfl, by show -1 ≤ _ ∧ _ ≤ (6000 : Int); omega⟩ hP
      · exact absurd c6 (by omega)
set_option maxHeartbeats 4000000 in
set_option maxRecDepth 100000 in
/-- X3_tryFrom -/
theorem c_X3_tryFrom_5 (l : Launch) (D : va_G) (cI : ClassId) (M MB MR ME MZ MT n : Nat) (b mr me mq mt : Nat → Int) (th rc wo wy po fe wh wi mu : Int) (pre : List Nat) (sum : Int) (hn : n ≤ 6) (hb0 : ∀ k, 0 ≤ b k ∧ b k ≤ 999) (hkn : 5 ≤ n) (hlen : pre.length = 5) (hpre : ∀ j, j < 5 → mt j = ((pre.getD j 0 : Nat) : Int)) (hpl : ∀ j, j < 5 → pre.getD j 0 < 6) (hsum : 0 ≤ sum ∧ sum ≤ 999 * 5) (hwo : -1 ≤ wo ∧ wo ≤ 6000) (hfe : zB fe) (hwh : zB wh) (hwi : zB wi) (hmu : 0 ≤ mu ∧ mu ≤ 1) : zWv (S := Int × Int × (Nat → Int) × (Nat → Int)) l yX3_tryFrom wsX3_tryFrom 2 53 D cI [.ref M, .int (iI ((5 : Nat) : Int)), .int (iI (sum))] [(M, .inr (3, [.int (iI (th)), .int (iI ((n : Nat) : Int)), .int (iI (rc)), .ref MB, .ref MR, .ref ME, .ref MZ, .int (iI (wo)), .int (iI (wy)), .int (iI (po)), .ref MT, .int (iI (fe)), .int (iI (wh)), .int (iI (wi)), .int (iI (mu))])), (MB, zArr cI 36 b), (MR, zArr cI 6 mr), (ME, zArr cI 6 me), (MZ, zArr cI 6 mq), (MT, zArr cI 6 mt)] (fun u8 => zStep n pre sum (zG n (zAl wh wi mu) (zVf b fe) (n - 5) 5 (zTk mt 5)) wo wy mr u8.1 u8.2.1 u8.2.2.1 ∧ (∀ j, j < 5 → u8.2.2.2 j = mt j) ∧ (-1 ≤ u8.1 ∧ u8.1 ≤ 6000)) (fun u8 => [(M, .inr (3, [.int (iI (th)), .int (iI ((n : Nat) : Int)), .int (iI (rc)), .ref MB, .ref MR, .ref ME, .ref MZ, .int (iI (u8.1)), .int (iI (u8.2.1)), .int (iI (po)), .ref MT, .int (iI (fe)), .int (iI (wh)), .int (iI (wi)), .int (iI (mu))])), (MB, zArr cI 36 b), (MR, zArr cI 6 u8.2.2.1), (ME, zArr cI 6 me), (MZ, zArr cI 6 mq), (MT, zArr cI 6 u8.2.2.2)]) := by
  refine zWv_of (cc := cX3_tryFrom) (maxL := 4) (by decide) rfl (Nat.le_of_ble_eq_true rfl) ?_
  intro p e s m args below meth c ls A hF hr hlocks hP hK hD hS hl
  have hF : zFix p m c cX3_tryFrom 4 s args wsX3_tryFrom RX3 := hF
  obtain ⟨hx, hb, hml, hown, hts⟩ := id hF
  have hP : va_P D vwCl [(M, .inr (3, [.int (iI (th)), .int (iI ((n : Nat) : Int)), .int (iI (rc)), .ref MB, .ref MR, .ref ME, .ref MZ, .int (iI (wo)), .int (iI (wy)), .int (iI (po)), .ref MT, .int (iI (fe)), .int (iI (wh)), .int (iI (wi)), .int (iI (mu))])), (MB, zArr cI 36 b), (MR, zArr cI 6 mr), (ME, zArr cI 6 me), (MZ, zArr cI 6 mq), (MT, zArr cI 6 mt)] s.heap := hP
  have hD : va_D A [(M, .inr (3, [.int (iI (th)), .int (iI ((n : Nat) : Int)), .int (iI (rc)), .ref MB, .ref MR, .ref ME, .ref MZ, .int (iI (wo)), .int (iI (wy)), .int (iI (po)), .ref MT, .int (iI (fe)), .int (iI (wh)), .int (iI (wi)), .int (iI (mu))])), (MB, zArr cI 36 b), (MR, zArr cI 6 mr), (ME, zArr cI 6 me), (MZ, zArr cI 6 mq), (MT, zArr cI 6 mt)] := hD
  skip
  have hl : lv_has ls 4 [(0, .ref M), (1, .int (iI ((5 : Nat) : Int))), (2, .int (iI (sum)))] := hl
  have hfe1 := hfe.1
  have hfe2 := hfe.2
  refine lv_iload_n hx hb dX3_tryFrom_0 rfl (lv_at hl 1 rfl) ?_
  refine lv_aload_n hx hb dX3_tryFrom_1 rfl (lv_at hl 0 rfl) ?_
  refine va_get (D := D) (ci := 3) (v := .int (iI ((n : Nat) : Int))) (C := RX3) (T := TX3) (N := 15) hx hb hts (by decide +kernel) hown hK hP 0 rfl rfl 1 (by decide) (hts (.fieldLink RX3 38 "RentHarmonyModel" "lodgers" "I") (by decide +kernel)) (fun _ h9 => h9) rfl dX3_tryFrom_2 ?_
  refine zr_icmp_ne (tgt := 77) hx hb dX3_tryFrom_5 (by decide) (zB_of (by omega) (by omega)) (zB_of (by omega) (by omega)) (fun c1 => ?_) (fun c1 => ?_)
  · have hlt : 5 < n := by omega
    refine zr_ic (n := ((0 : Nat) : Int)) hx hb dX3_tryFrom_77 ?_
    refine lv_istore_n (lv' := [(3, .int (iI ((0 : Nat) : Int))), (0, .ref M), (1, .int (iI ((5 : Nat) : Int))), (2, .int (iI (sum)))]) hx hb dX3_tryFrom_78 rfl hl (by decide) rfl (fun ls hl => ?_)
    have LT : ∀ (k0 : Nat) (r : Nat) (wo1 : Int) (wy1 : Int) (ro1 : Nat → Int) (mt1 : Nat → Int), n - r < k0 → (hr1 : r ≤ n) → (hst : zStep n pre sum (zFold (zFF n b fe wh wi mu mt 5) r) wo wy mr wo1 wy1 ro1) → (hmt1 : ∀ j, j < 5 → mt1 j = mt j) → (hwo1 : -1 ≤ wo1 ∧ wo1 ≤ 6000) → ∀ (H : Heap) (locs : List Loc), va_P D vwCl [(M, .inr (3, [.int (iI (th)), .int (iI ((n : Nat) : Int)), .int (iI (rc)), .ref MB, .ref MR, .ref ME, .ref MZ, .int (iI (wo1)), .int (iI (wy1)), .int (iI (po)), .ref MT, .int (iI (fe)), .int (iI (wh)), .int (iI (wi)), .int (iI (mu))])), (MB, zArr cI 36 b), (MR, zArr cI 6 ro1), (ME, zArr cI 6 me), (MZ, zArr cI 6 mq), (MT, zArr cI 6 mt1)] H → va_D A [(M, .inr (3, [.int (iI (th)), .int (iI ((n : Nat) : Int)), .int (iI (rc)), .ref MB, .ref MR, .ref ME, .ref MZ, .int (iI (wo1)), .int (iI (wy1)), .int (iI (po)), .ref MT, .int (iI (fe)), .int (iI (wh)), .int (iI (wi)), .int (iI (mu))])), (MB, zArr cI 36 b), (MR, zArr cI 6 ro1), (ME, zArr cI 6 me), (MZ, zArr cI 6 mq), (MT, zArr cI 6 mt1)] → va_S A s.heap H locs → ∀ (ls : Array Slot), lv_has ls 4 [(0, .ref M), (1, .int (iI ((5 : Nat) : Int))), (2, .int (iI (sum))), (3, .int (iI ((r : Nat) : Int)))] → W p l e (zRm 2 53) s m args below meth c H locs 0 0 (MQ below (va_Qv (S := Int × Int × (Nat → Int) × (Nat → Int)) (fun u8 => zStep n pre sum (zG n (zAl wh wi mu) (zVf b fe) (n - 5) 5 (zTk mt 5)) wo wy mr u8.1 u8.2.1 u8.2.2.1 ∧ (∀ j, j < 5 → u8.2.2.2 j = mt j) ∧ (-1 ≤ u8.1 ∧ u8.1 ≤ 6000)) (fun u9 t9 => va_P D vwCl ((fun u8 => [(M, .inr (3, [.int (iI (th)), .int (iI ((n : Nat) : Int)), .int (iI (rc)), .ref MB, .ref MR, .ref ME, .ref MZ, .int (iI (u8.1)), .int (iI (u8.2.1)), .int (iI (po)), .ref MT, .int (iI (fe)), .int (iI (wh)), .int (iI (wi)), .int (iI (mu))])), (MB, zArr cI 36 b), (MR, zArr cI 6 u8.2.2.1), (ME, zArr cI 6 me), (MZ, zArr cI 6 mq), (MT, zArr cI 6 u8.2.2.2)]) u9) t9.heap) A) args s 0 0 A) (F0 m 79 ls []) := by
      intro k0
      induction k0 with
      | zero => intro r wo1 wy1 ro1 mt1 hk; exact absurd hk (Nat.not_lt_zero _)
      | succ k0 ih_LT =>
        intro r wo1 wy1 ro1 mt1 hk hr1 hst hmt1 hwo1 H locs hP hD hS ls hl
        refine lv_iload_n hx hb dX3_tryFrom_79 rfl (lv_at hl 3 rfl) ?_
        refine lv_aload_n hx hb dX3_tryFrom_80 rfl (lv_at hl 0 rfl) ?_
        refine va_get (D := D) (ci := 3) (v := .int (iI ((n : Nat) : Int))) (C := RX3) (T := TX3) (N := 15) hx hb hts (by decide +kernel) hown hK hP 0 rfl rfl 1 (by decide) (hts (.fieldLink RX3 38 "RentHarmonyModel" "lodgers" "I") (by decide +kernel)) (fun _ h9 => h9) rfl dX3_tryFrom_81 ?_
        refine zr_icmp_ge (tgt := 139) hx hb dX3_tryFrom_84 (by decide) (zB_of (by omega) (by omega)) (zB_of (by omega) (by omega)) (fun c2 => ?_) (fun c2 => ?_)
        · exact zWv_ret hx hb hr hlocks hS dX3_tryFrom_139 (wo1, wy1, ro1, mt1) ⟨by have e9 : r = n := (by omega); rw [zG_FF hlt]; rw [e9] at hst; exact hst, hmt1, hwo1⟩ hP
        · refine lv_aload_n hx hb dX3_tryFrom_87 rfl (lv_at hl 0 rfl) ?_
          refine lv_iload_n hx hb dX3_tryFrom_88 rfl (lv_at hl 1 rfl) ?_
          refine lv_iload_n hx hb dX3_tryFrom_89 rfl (lv_at hl 3 rfl) ?_
          have hmtb : ∀ j, j < 5 → 0 ≤ mt1 j ∧ mt1 j ≤ 6 := fun j hj => by rw [hmt1 j hj, hpre j hj]; have := hpl j hj; omega
          have eT : zTk mt1 5 = zTk mt 5 := zTk_congr 5 hmt1
          refine zc_ri (As := [.int (iI ((5 : Nat) : Int)), .int (iI ((r : Nat) : Int))]) (rest := []) hF (c_X3_isTaken l D cI M MB MR ME MZ MT n b ro1 me mq mt1 th rc wo1 wy1 po fe wh wi mu 5 r (by omega) (by omega) (by assumption) (by assumption) (by assumption) (by assumption)) (cwV 2 hts gX3_tryFrom_X3_isTaken rfl rfl rfl (by decide +kernel) ⟨Nat.le_of_ble_eq_true rfl, Nat.le_of_ble_eq_true rfl⟩) hK hP [0, 1, 2, 3, 4, 5] rfl 0 rfl 0 rfl rfl rfl rfl hl.1 rfl (Nat.le_of_ble_eq_true rfl) dX3_tryFrom_90 ⟨Nat.zero_le _, Nat.zero_le _⟩ ?_
          refine zr_ifB_eq (tgt := 99) hx hb dX3_tryFrom_93 (by decide)  (fun c3 => ?_) (fun c3 => ?_)
          · have hP9 := c3
            rw [eT] at hP9
            refine lv_aload_n hx hb dX3_tryFrom_99 rfl (lv_at hl 0 rfl) ?_
            refine va_get (D := D) (ci := 3) (v := .ref MT) (C := RX3) (T := TX3) (N := 15) hx hb hts (by decide +kernel) hown hK hP 0 rfl rfl 10 (by decide) (hts (.fieldLink RX3 22 "RentHarmonyModel" "tried" "[I") (by decide +kernel)) (fun _ h9 => h9) rfl dX3_tryFrom_100 ?_
            refine lv_iload_n hx hb dX3_tryFrom_103 rfl (lv_at hl 1 rfl) ?_
            refine lv_iload_n hx hb dX3_tryFrom_104 rfl (lv_at hl 3 rfl) ?_
            refine zr_iast hx hb hK hP hD hS 5 0 rfl rfl (5) (by omega) (by omega) (by omega) dX3_tryFrom_105 (fun H locs hP hD hS => ?_)
            have hP : va_P D vwCl [(M, .inr (3, [.int (iI (th)), .int (iI ((n : Nat) : Int)), .int (iI (rc)), .ref MB, .ref MR, .ref ME, .ref MZ, .int (iI (wo1)), .int (iI (wy1)), .int (iI (po)), .ref MT, .int (iI (fe)), .int (iI (wh)), .int (iI (wi)), .int (iI (mu))])), (MB, zArr cI 36 b), (MR, zArr cI 6 ro1), (ME, zArr cI 6 me), (MZ, zArr cI 6 mq), (MT, zArr cI 6 (uZ mt1 (5) ((r : Nat) : Int)))] H := hP
            have hD : va_D A [(M, .inr (3, [.int (iI (th)), .int (iI ((n : Nat) : Int)), .int (iI (rc)), .ref MB, .ref MR, .ref ME, .ref MZ, .int (iI (wo1)), .int (iI (wy1)), .int (iI (po)), .ref MT, .int (iI (fe)), .int (iI (wh)), .int (iI (wi)), .int (iI (mu))])), (MB, zArr cI 36 b), (MR, zArr cI 6 ro1), (ME, zArr cI 6 me), (MZ, zArr cI 6 mq), (MT, zArr cI 6 (uZ mt1 (5) ((r : Nat) : Int)))] := hD
            refine lv_aload_n hx hb dX3_tryFrom_106 rfl (lv_at hl 0 rfl) ?_
            refine lv_iload_n hx hb dX3_tryFrom_107 rfl (lv_at hl 1 rfl) ?_
            refine zr_ic (n := ((1 : Nat) : Int)) hx hb dX3_tryFrom_108 ?_
            refine zr_addN (x := 5) (y := 1) hx hb dX3_tryFrom_109 ?_
            refine zr_topi (show ((5 + 1 : Nat) : Int) = ((6 : Nat) : Int) from rfl) ?_
            refine lv_iload_n hx hb dX3_tryFrom_110 rfl (lv_at hl 2 rfl) ?_
            refine lv_iload_n hx hb dX3_tryFrom_111 rfl (lv_at hl 1 rfl) ?_
            refine lv_aload_n hx hb dX3_tryFrom_112 rfl (lv_at hl 0 rfl) ?_
            refine va_get (D := D) (ci := 3) (v := .int (iI (fe))) (C := RX3) (T := TX3) (N := 15) hx hb hts (by decide +kernel) hown hK hP 0 rfl rfl 11 (by decide) (hts (.fieldLink RX3 25 "RentHarmonyModel" "free" "I") (by decide +kernel)) (fun _ h9 => h9) rfl dX3_tryFrom_113 ?_
            refine zr_icmp_ne (tgt := 123) hx hb dX3_tryFrom_116 (by decide) (zB_of (by omega) (by omega)) (zB_of (by omega) (by omega)) (fun c4 => ?_) (fun c4 => ?_)
            · have hf9 := c4
              refine lv_aload_n hx hb dX3_tryFrom_123 rfl (lv_at hl 0 rfl) ?_
              refine lv_iload_n hx hb dX3_tryFrom_124 rfl (lv_at hl 1 rfl) ?_
              refine lv_iload_n hx hb dX3_tryFrom_125 rfl (lv_at hl 3 rfl) ?_
              refine zc_ri (As := [.int (iI ((5 : Nat) : Int)), .int (iI ((r : Nat) : Int))]) (rest := [.int (iI (sum)), .int (iI ((6 : Nat) : Int)), .ref M]) hF (c_X3_bi l D cI M MB MR ME MZ MT n b ro1 me mq (uZ mt1 (5) ((r : Nat) : Int)) th rc wo1 wy1 po fe wh wi mu 5 r (by omega) (by omega)) (cwV 2 hts gX3_tryFrom_X3_bi rfl rfl rfl (by decide +kernel) ⟨Nat.le_of_ble_eq_true rfl, Nat.le_of_ble_eq_true rfl⟩) hK hP [0, 1, 2, 3, 4, 5] rfl 0 rfl 0 rfl rfl rfl rfl hl.1 rfl (Nat.le_of_ble_eq_true rfl) dX3_tryFrom_126 ⟨Nat.zero_le _, Nat.zero_le _⟩ ?_
              refine zr_topi (show (b (5 * 6 + r)) = (zVf b fe 5 r) from by unfold zVf; rw [if_neg hf9]) ?_
              have hvb := zVf_b hb0 fe 5 r
              refine zr_add hx hb dX3_tryFrom_129 ?_
              refine zc_wv (As := [.int (iI ((6 : Nat) : Int)), .int (iI (sum + (zVf b fe 5 r)))]) (rest := []) hF (c_X3_tryFrom_6 l D cI M MB MR ME MZ MT n b ro1 me mq (uZ mt1 (5) ((r : Nat) : Int)) th rc wo1 wy1 po fe wh wi mu (pre ++ [r]) (sum + (zVf b fe 5 r)) (by omega) (by assumption) (by omega) (by rw [List.length_append, hlen]; rfl) (zSnoc hlen (fun j hj => (hmt1 j hj).trans (hpre j hj))) (zSnoc_lt hlen hpl (by omega)) (by omega) (by omega) (by assumption) (by assumption) (by assumption) (by assumption)) (cwV 2 hts gX3_tryFrom_X3_tryFrom rfl rfl rfl (by decide +kernel) ⟨Nat.le_of_ble_eq_true rfl, Nat.le_of_ble_eq_true rfl⟩) hK hP hD hS [0, 1, 2, 3, 4, 5] rfl rfl (fun _ => rfl) 0 rfl 0 rfl rfl rfl rfl hl.1 rfl (Nat.le_of_ble_eq_true rfl) dX3_tryFrom_130 ⟨Nat.zero_le _, Nat.zero_le _⟩ (fun u5 H locs hw hP hD hS => ?_)
              obtain ⟨wo7, wy7, ro7, mt7⟩ := u5
              obtain ⟨hs7, hm7, hb7⟩ := hw
              have hP : va_P D vwCl [(M, .inr (3, [.int (iI (th)), .int (iI ((n : Nat) : Int)), .int (iI (rc)), .ref MB, .ref MR, .ref ME, .ref MZ, .int (iI (wo7)), .int (iI (wy7)), .int (iI (po)), .ref MT, .int (iI (fe)), .int (iI (wh)), .int (iI (wi)), .int (iI (mu))])), (MB, zArr cI 36 b), (MR, zArr cI 6 ro7), (ME, zArr cI 6 me), (MZ, zArr cI 6 mq), (MT, zArr cI 6 mt7)] H := hP
              have hD : va_D A [(M, .inr (3, [.int (iI (th)), .int (iI ((n : Nat) : Int)), .int (iI (rc)), .ref MB, .ref MR, .ref ME, .ref MZ, .int (iI (wo7)), .int (iI (wy7)), .int (iI (po)), .ref MT, .int (iI (fe)), .int (iI (wh)), .int (iI (wi)), .int (iI (mu))])), (MB, zArr cI 36 b), (MR, zArr cI 6 ro7), (ME, zArr cI 6 me), (MZ, zArr cI 6 mq), (MT, zArr cI 6 mt7)] := hD
              have hs9 : zStep n pre sum (zFF n b fe wh wi mu mt 5 r) wo1 wy1 ro1 wo7 wy7 ro7 := by
                have h9 : zStep n (pre ++ [r]) (sum + zVf b fe 5 r) (zG n (zAl wh wi mu) (zVf b fe) (n - 6) 6 (zTk (uZ mt1 5 ((r : Nat) : Int)) (5 + 1))) wo1 wy1 ro1 wo7 wy7 ro7 := hs7
                rw [zTk_add, eT] at h9
                unfold zFF; rw [if_neg hP9]; exact zStep_deep h9
              have hm9 : ∀ j, j < 5 → mt7 j = mt j := fun j hj => (hm7 j (by omega)).trans ((uZ_n _ _ (by omega)).trans (hmt1 j hj))
              have hb9 := hb7
              refine zr_iinc (lv2 := [(3, .int (iI (((r : Nat) : Int) + 1))), (0, .ref M), (1, .int (iI ((5 : Nat) : Int))), (2, .int (iI (sum)))]) hx hb dX3_tryFrom_133 hl (k0 := 3) rfl (by decide) rfl (fun ls hl => ?_)
              have hl : lv_has ls 4 [(3, .int (iI ((r + 1 : Nat) : Int))), (0, .ref M), (1, .int (iI ((5 : Nat) : Int))), (2, .int (iI (sum)))] := hl
              refine lv_goto (tgt := 79) hx hb dX3_tryFrom_136 (by decide) ?_
              exact ih_LT (r + 1) (wo7) (wy7) (ro7) (mt7) (by omega) (by omega) (zStep_comb hst hs9) hm9 hb9 _ _ hP hD hS _ (lv_sub hl [1, 2, 3, 0] rfl)
            · have hf9 := c4
              refine zr_ic (n := ((0 : Nat) : Int)) hx hb dX3_tryFrom_119 ?_
              refine lv_goto (tgt := 129) hx hb dX3_tryFrom_120 (by decide) ?_
              refine zr_topi (show ((0 : Nat) : Int) = (zVf b fe 5 r) from by unfold zVf; rw [if_pos hf9]; rfl) ?_
              have hvb := zVf_b hb0 fe 5 r
              refine zr_add hx hb dX3_tryFrom_129 ?_
              refine zc_wv (As := [.int (iI ((6 : Nat) : Int)), .int (iI (sum + (zVf b fe 5 r)))]) (rest := []) hF (c_X3_tryFrom_6 l D cI M MB MR ME MZ MT n b ro1 me mq (uZ mt1 (5) ((r : Nat) : Int)) th rc wo1 wy1 po fe wh wi mu (pre ++ [r]) (sum + (zVf b fe 5 r)) (by omega) (by assumption) (by omega) (by rw [List.length_append, hlen]; rfl) (zSnoc hlen (fun j hj => (hmt1 j hj).trans (hpre j hj))) (zSnoc_lt hlen hpl (by omega)) (by omega) (by omega) (by assumption) (by assumption) (by assumption) (by assumption)) (cwV 2 hts gX3_tryFrom_X3_tryFrom rfl rfl rfl (by decide +kernel) ⟨Nat.le_of_ble_eq_true rfl, Nat.le_of_ble_eq_true rfl⟩) hK hP hD hS [0, 1, 2, 3, 4, 5] rfl rfl (fun _ => rfl) 0 rfl 0 rfl rfl rfl rfl hl.1 rfl (Nat.le_of_ble_eq_true rfl) dX3_tryFrom_130 ⟨Nat.zero_le _, Nat.zero_le _⟩ (fun u8 H locs hw hP hD hS => ?_)
              obtain ⟨wo10, wy10, ro10, mt10⟩ := u8
              obtain ⟨hs10, hm10, hb10⟩ := hw
              have hP : va_P D vwCl [(M, .inr (3, [.int (iI (th)), .int (iI ((n : Nat) : Int)), .int (iI (rc)), .ref MB, .ref MR, .ref ME, .ref MZ, .int (iI (wo10)), .int (iI (wy10)), .int (iI (po)), .ref MT, .int (iI (fe)), .int (iI (wh)), .int (iI (wi)), .int (iI (mu))])), (MB, zArr cI 36 b), (MR, zArr cI 6 ro10), (ME, zArr cI 6 me), (MZ, zArr cI 6 mq), (MT, zArr cI 6 mt10)] H := hP
              have hD : va_D A [(M, .inr (3, [.int (iI (th)), .int (iI ((n : Nat) : Int)), .int (iI (rc)), .ref MB, .ref MR, .ref ME, .ref MZ, .int (iI (wo10)), .int (iI (wy10)), .int (iI (po)), .ref MT, .int (iI (fe)), .int (iI (wh)), .int (iI (wi)), .int (iI (mu))])), (MB, zArr cI 36 b), (MR, zArr cI 6 ro10), (ME, zArr cI 6 me), (MZ, zArr cI 6 mq), (MT, zArr cI 6 mt10)] := hD
              have hs9 : zStep n pre sum (zFF n b fe wh wi mu mt 5 r) wo1 wy1 ro1 wo10 wy10 ro10 := by
                have h9 : zStep n (pre ++ [r]) (sum + zVf b fe 5 r) (zG n (zAl wh wi mu) (zVf b fe) (n - 6) 6 (zTk (uZ mt1 5 ((r : Nat) : Int)) (5 + 1))) wo1 wy1 ro1 wo10 wy10 ro10 := hs10
                rw [zTk_add, eT] at h9
                unfold zFF; rw [if_neg hP9]; exact zStep_deep h9
              have hm9 : ∀ j, j < 5 → mt10 j = mt j := fun j hj => (hm10 j (by omega)).trans ((uZ_n _ _ (by omega)).trans (hmt1 j hj))
              have hb9 := hb10
              refine zr_iinc (lv2 := [(3, .int (iI (((r : Nat) : Int) + 1))), (0, .ref M), (1, .int (iI ((5 : Nat) : Int))), (2, .int (iI (sum)))]) hx hb dX3_tryFrom_133 hl (k0 := 3) rfl (by decide) rfl (fun ls hl => ?_)
              have hl : lv_has ls 4 [(3, .int (iI ((r + 1 : Nat) : Int))), (0, .ref M), (1, .int (iI ((5 : Nat) : Int))), (2, .int (iI (sum)))] := hl
              refine lv_goto (tgt := 79) hx hb dX3_tryFrom_136 (by decide) ?_
              exact ih_LT (r + 1) (wo10) (wy10) (ro10) (mt10) (by omega) (by omega) (zStep_comb hst hs9) hm9 hb9 _ _ hP hD hS _ (lv_sub hl [1, 2, 3, 0] rfl)
          · have hP9 := c3
            rw [eT] at hP9
            refine lv_goto (tgt := 133) hx hb dX3_tryFrom_96 (by decide) ?_
            refine zr_iinc (lv2 := [(3, .int (iI (((r : Nat) : Int) + 1))), (0, .ref M), (1, .int (iI ((5 : Nat) : Int))), (2, .int (iI (sum)))]) hx hb dX3_tryFrom_133 hl (k0 := 3) rfl (by decide) rfl (fun ls hl => ?_)
            have hl : lv_has ls 4 [(3, .int (iI ((r + 1 : Nat) : Int))), (0, .ref M), (1, .int (iI ((5 : Nat) : Int))), (2, .int (iI (sum)))] := hl
            refine lv_goto (tgt := 79) hx hb dX3_tryFrom_136 (by decide) ?_
            exact ih_LT (r + 1) (wo1) (wy1) (ro1) (mt1) (by omega) (by omega) (zStep_comb hst (by unfold zFF; rw [if_pos hP9]; exact zStep_none)) hmt1 hwo1 _ _ hP hD hS _ (lv_sub hl [1, 2, 3, 0] rfl)
    exact LT ((n - (0)) + 1) (0) (wo) (wy) (mr) (mt) (Nat.lt_succ_self _) (Nat.zero_le _) ⟨rfl, rfl, rfl⟩ (fun _ _ => rfl) hwo _ _ hP hD hS _ (lv_sub hl [1, 2, 3, 0] rfl)
  · have hkn2 : 5 = n := by omega
    have e0 : n - 5 = 0 := by omega
    have hlf := zStep_leaf (sum := sum) (w := wo) (y := wy) (ro := mr) (hlen.trans hkn2) (fun j hj => hpre j (by omega))
    refine lv_aload_n hx hb dX3_tryFrom_8 rfl (lv_at hl 0 rfl) ?_
    refine lv_iload_n hx hb dX3_tryFrom_9 rfl (lv_at hl 2 rfl) ?_
    refine lv_aload_n hx hb dX3_tryFrom_10 rfl (lv_at hl 0 rfl) ?_
    refine va_get (D := D) (ci := 3) (v := .int (iI (wo))) (C := RX3) (T := TX3) (N := 15) hx hb hts (by decide +kernel) hown hK hP 0 rfl rfl 7 (by decide) (hts (.fieldLink RX3 64 "RentHarmonyModel" "worth" "I") (by decide +kernel)) (fun _ h9 => h9) rfl dX3_tryFrom_11 ?_
    refine zr_icmp_le (tgt := 21) hx hb dX3_tryFrom_14 (by decide) (zB_of (by omega) (by omega)) (zB_of (by omega) (by omega)) (fun c11 => ?_) (fun c11 => ?_)
    · refine lv_iload_n hx hb dX3_tryFrom_21 rfl (lv_at hl 2 rfl) ?_
      refine lv_aload_n hx hb dX3_tryFrom_22 rfl (lv_at hl 0 rfl) ?_
      refine va_get (D := D) (ci := 3) (v := .int (iI (wo))) (C := RX3) (T := TX3) (N := 15) hx hb hts (by decide +kernel) hown hK hP 0 rfl rfl 7 (by decide) (hts (.fieldLink RX3 64 "RentHarmonyModel" "worth" "I") (by decide +kernel)) (fun _ h9 => h9) rfl dX3_tryFrom_23 ?_
      refine zr_icmp_ne (tgt := 38) hx hb dX3_tryFrom_26 (by decide) (zB_of (by omega) (by omega)) (zB_of (by omega) (by omega)) (fun c12 => ?_) (fun c12 => ?_)
      · have hcmp := c12
        refine lv_aload_n hx hb dX3_tryFrom_38 rfl (lv_at hl 0 rfl) ?_
        refine va_get (D := D) (ci := 3) (v := .int (iI (wy))) (C := RX3) (T := TX3) (N := 15) hx hb hts (by decide +kernel) hown hK hP 0 rfl rfl 8 (by decide) (hts (.fieldLink RX3 67 "RentHarmonyModel" "ways" "I") (by decide +kernel)) (fun _ h9 => h9) rfl dX3_tryFrom_39 ?_
        refine va_put (D := D) (ci := 3) (v := .int (iI (wy))) (ty := .int) (C := RX3) (T := TX3) (N := 15) hx hb hts (by decide +kernel) tyX3 tyX3_ok nmX3 hown hK hP hD hS 0 rfl rfl 8 (by decide) (hts (.fieldLink RX3 67 "RentHarmonyModel" "ways" "I") (by decide +kernel)) (fun _ h9 => h9) rfl (by decide +kernel) rfl rfl (Nat.le_of_ble_eq_true rfl) dX3_tryFrom_42 (fun H locs hP hD hS => ?_)
        have hP : va_P D vwCl [(M, .inr (3, [.int (iI (th)), .int (iI ((n : Nat) : Int)), .int (iI (rc)), .ref MB, .ref MR, .ref ME, .ref MZ, .int (iI (wo)), .int (iI (wy)), .int (iI (po)), .ref MT, .int (iI (fe)), .int (iI (wh)), .int (iI (wi)), .int (iI (mu))])), (MB, zArr cI 36 b), (MR, zArr cI 6 mr), (ME, zArr cI 6 me), (MZ, zArr cI 6 mq), (MT, zArr cI 6 mt)] H := hP
        have hD : va_D A [(M, .inr (3, [.int (iI (th)), .int (iI ((n : Nat) : Int)), .int (iI (rc)), .ref MB, .ref MR, .ref ME, .ref MZ, .int (iI (wo)), .int (iI (wy)), .int (iI (po)), .ref MT, .int (iI (fe)), .int (iI (wh)), .int (iI (wi)), .int (iI (mu))])), (MB, zArr cI 36 b), (MR, zArr cI 6 mr), (ME, zArr cI 6 me), (MZ, zArr cI 6 mq), (MT, zArr cI 6 mt)] := hD
        refine lv_iload_n hx hb dX3_tryFrom_45 rfl (lv_at hl 2 rfl) ?_
        refine lv_aload_n hx hb dX3_tryFrom_46 rfl (lv_at hl 0 rfl) ?_
        refine va_get (D := D) (ci := 3) (v := .int (iI (wo))) (C := RX3) (T := TX3) (N := 15) hx hb hts (by decide +kernel) hown hK hP 0 rfl rfl 7 (by decide) (hts (.fieldLink RX3 64 "RentHarmonyModel" "worth" "I") (by decide +kernel)) (fun _ h9 => h9) rfl dX3_tryFrom_47 ?_
        refine zr_icmp_gt (tgt := 54) hx hb dX3_tryFrom_50 (by decide) (zB_of (by omega) (by omega)) (zB_of (by omega) (by omega)) (fun c13 => ?_) (fun c13 => ?_)
        · exact absurd c13 (by omega)
        · exact zWv_ret hx hb hr hlocks hS dX3_tryFrom_53 (wo, wy, mr, mt) ⟨by show zStep n pre sum (zG n (zAl wh wi mu) (zVf b fe) (n - 5) 5 (zTk mt 5)) wo wy mr _ _ _; rw [e0]; exact hlf.2.2 (by omega), fun _ _ => rfl, by show -1 ≤ _ ∧ _ ≤ (6000 : Int); omega⟩ hP
      · have hcmp := c12
        refine lv_aload_n hx hb dX3_tryFrom_29 rfl (lv_at hl 0 rfl) ?_
        refine va_get (D := D) (ci := 3) (v := .int (iI (wy))) (C := RX3) (T := TX3) (N := 15) hx hb hts (by decide +kernel) hown hK hP 0 rfl rfl 8 (by decide) (hts (.fieldLink RX3 67 "RentHarmonyModel" "ways" "I") (by decide +kernel)) (fun _ h9 => h9) rfl dX3_tryFrom_30 ?_
        refine zr_ic (n := ((1 : Nat) : Int)) hx hb dX3_tryFrom_33 ?_
        refine zr_add hx hb dX3_tryFrom_34 ?_
        refine lv_goto (tgt := 42) hx hb dX3_tryFrom_35 (by decide) ?_
        refine va_put (D := D) (ci := 3) (v := .int (iI (wy + ((1 : Nat) : Int)))) (ty := .int) (C := RX3) (T := TX3) (N := 15) hx hb hts (by decide +kernel) tyX3 tyX3_ok nmX3 hown hK hP hD hS 0 rfl rfl 8 (by decide) (hts (.fieldLink RX3 67 "RentHarmonyModel" "ways" "I") (by decide +kernel)) (fun _ h9 => h9) rfl (by decide +kernel) rfl rfl (Nat.le_of_ble_eq_true rfl) dX3_tryFrom_42 (fun H locs hP hD hS => ?_)
        have hP : va_P D vwCl [(M, .inr (3, [.int (iI (th)), .int (iI ((n : Nat) : Int)), .int (iI (rc)), .ref MB, .ref MR, .ref ME, .ref MZ, .int (iI (wo)), .int (iI (wy + ((1 : Nat) : Int))), .int (iI (po)), .ref MT, .int (iI (fe)), .int (iI (wh)), .int (iI (wi)), .int (iI (mu))])), (MB, zArr cI 36 b), (MR, zArr cI 6 mr), (ME, zArr cI 6 me), (MZ, zArr cI 6 mq), (MT, zArr cI 6 mt)] H := hP
        have hD : va_D A [(M, .inr (3, [.int (iI (th)), .int (iI ((n : Nat) : Int)), .int (iI (rc)), .ref MB, .ref MR, .ref ME, .ref MZ, .int (iI (wo)), .int (iI (wy + ((1 : Nat) : Int))), .int (iI (po)), .ref MT, .int (iI (fe)), .int (iI (wh)), .int (iI (wi)), .int (iI (mu))])), (MB, zArr cI 36 b), (MR, zArr cI 6 mr), (ME, zArr cI 6 me), (MZ, zArr cI 6 mq), (MT, zArr cI 6 mt)] := hD
        refine lv_iload_n hx hb dX3_tryFrom_45 rfl (lv_at hl 2 rfl) ?_
        refine lv_aload_n hx hb dX3_tryFrom_46 rfl (lv_at hl 0 rfl) ?_
        refine va_get (D := D) (ci := 3) (v := .int (iI (wo))) (C := RX3) (T := TX3) (N := 15) hx hb hts (by decide +kernel) hown hK hP 0 rfl rfl 7 (by decide) (hts (.fieldLink RX3 64 "RentHarmonyModel" "worth" "I") (by decide +kernel)) (fun _ h9 => h9) rfl dX3_tryFrom_47 ?_
        refine zr_icmp_gt (tgt := 54) hx hb dX3_tryFrom_50 (by decide) (zB_of (by omega) (by omega)) (zB_of (by omega) (by omega)) (fun c14 => ?_) (fun c14 => ?_)
        · exact absurd c14 (by omega)
        · exact zWv_ret hx hb hr hlocks hS dX3_tryFrom_53 (wo, (wy + ((1 : Nat) : Int)), mr, mt) ⟨by show zStep n pre sum (zG n (zAl wh wi mu) (zVf b fe) (n - 5) 5 (zTk mt 5)) wo wy mr _ _ _; rw [e0]; exact hlf.2.1 (by omega), fun _ _ => rfl, by show -1 ≤ _ ∧ _ ≤ (6000 : Int); omega⟩ hP
    · have hgt := c11
      refine zr_ic (n := ((1 : Nat) : Int)) hx hb dX3_tryFrom_17 ?_
      refine lv_goto (tgt := 42) hx hb dX3_tryFrom_18 (by decide) ?_
      refine va_put (D := D) (ci := 3) (v := .int (iI ((1 : Nat) : Int))) (ty := .int) (C := RX3) (T := TX3) (N := 15) hx hb hts (by decide +kernel) tyX3 tyX3_ok nmX3 hown hK hP hD hS 0 rfl rfl 8 (by decide) (hts (.fieldLink RX3 67 "RentHarmonyModel" "ways" "I") (by decide +kernel)) (fun _ h9 => h9) rfl (by decide +kernel) rfl rfl (Nat.le_of_ble_eq_true rfl) dX3_tryFrom_42 (fun H locs hP hD hS => ?_)
      have hP : va_P D vwCl [(M, .inr (3, [.int (iI (th)), .int (iI ((n : Nat) : Int)), .int (iI (rc)), .ref MB, .ref MR, .ref ME, .ref MZ, .int (iI (wo)), .int (iI ((1 : Nat) : Int)), .int (iI (po)), .ref MT, .int (iI (fe)), .int (iI (wh)), .int (iI (wi)), .int (iI (mu))])), (MB, zArr cI 36 b), (MR, zArr cI 6 mr), (ME, zArr cI 6 me), (MZ, zArr cI 6 mq), (MT, zArr cI 6 mt)] H := hP
      have hD : va_D A [(M, .inr (3, [.int (iI (th)), .int (iI ((n : Nat) : Int)), .int (iI (rc)), .ref MB, .ref MR, .ref ME, .ref MZ, .int (iI (wo)), .int (iI ((1 : Nat) : Int)), .int (iI (po)), .ref MT, .int (iI (fe)), .int (iI (wh)), .int (iI (wi)), .int (iI (mu))])), (MB, zArr cI 36 b), (MR, zArr cI 6 mr), (ME, zArr cI 6 me), (MZ, zArr cI 6 mq), (MT, zArr cI 6 mt)] := hD
      refine lv_iload_n hx hb dX3_tryFrom_45 rfl (lv_at hl 2 rfl) ?_
      refine lv_aload_n hx hb dX3_tryFrom_46 rfl (lv_at hl 0 rfl) ?_
      refine va_get (D := D) (ci := 3) (v := .int (iI (wo))) (C := RX3) (T := TX3) (N := 15) hx hb hts (by decide +kernel) hown hK hP 0 rfl rfl 7 (by decide) (hts (.fieldLink RX3 64 "RentHarmonyModel" "worth" "I") (by decide +kernel)) (fun _ h9 => h9) rfl dX3_tryFrom_47 ?_
      refine zr_icmp_gt (tgt := 54) hx hb dX3_tryFrom_50 (by decide) (zB_of (by omega) (by omega)) (zB_of (by omega) (by omega)) (fun c15 => ?_) (fun c15 => ?_)
      · refine lv_aload_n hx hb dX3_tryFrom_54 rfl (lv_at hl 0 rfl) ?_
        refine lv_iload_n hx hb dX3_tryFrom_55 rfl (lv_at hl 2 rfl) ?_
        refine va_put (D := D) (ci := 3) (v := .int (iI (sum))) (ty := .int) (C := RX3) (T := TX3) (N := 15) hx hb hts (by decide +kernel) tyX3 tyX3_ok nmX3 hown hK hP hD hS 0 rfl rfl 7 (by decide) (hts (.fieldLink RX3 64 "RentHarmonyModel" "worth" "I") (by decide +kernel)) (fun _ h9 => h9) rfl (by decide +kernel) rfl rfl (Nat.le_of_ble_eq_true rfl) dX3_tryFrom_56 (fun H locs hP hD hS => ?_)
        have hP : va_P D vwCl [(M, .inr (3, [.int (iI (th)), .int (iI ((n : Nat) : Int)), .int (iI (rc)), .ref MB, .ref MR, .ref ME, .ref MZ, .int (iI (sum)), .int (iI ((1 : Nat) : Int)), .int (iI (po)), .ref MT, .int (iI (fe)), .int (iI (wh)), .int (iI (wi)), .int (iI (mu))])), (MB, zArr cI 36 b), (MR, zArr cI 6 mr), (ME, zArr cI 6 me), (MZ, zArr cI 6 mq), (MT, zArr cI 6 mt)] H := hP
        have hD : va_D A [(M, .inr (3, [.int (iI (th)), .int (iI ((n : Nat) : Int)), .int (iI (rc)), .ref MB, .ref MR, .ref ME, .ref MZ, .int (iI (sum)), .int (iI ((1 : Nat) : Int)), .int (iI (po)), .ref MT, .int (iI (fe)), .int (iI (wh)), .int (iI (wi)), .int (iI (mu))])), (MB, zArr cI 36 b), (MR, zArr cI 6 mr), (ME, zArr cI 6 me), (MZ, zArr cI 6 mq), (MT, zArr cI 6 mt)] := hD
        refine lv_aload_n hx hb dX3_tryFrom_59 rfl (lv_at hl 0 rfl) ?_
        refine va_get (D := D) (ci := 3) (v := .ref MT) (C := RX3) (T := TX3) (N := 15) hx hb hts (by decide +kernel) hown hK hP 0 rfl rfl 10 (by decide) (hts (.fieldLink RX3 22 "RentHarmonyModel" "tried" "[I") (by decide +kernel)) (fun _ h9 => h9) rfl dX3_tryFrom_60 ?_
        refine zr_ic (n := ((0 : Nat) : Int)) hx hb dX3_tryFrom_63 ?_
        refine lv_aload_n hx hb dX3_tryFrom_64 rfl (lv_at hl 0 rfl) ?_
        refine va_get (D := D) (ci := 3) (v := .ref MR) (C := RX3) (T := TX3) (N := 15) hx hb hts (by decide +kernel) hown hK hP 0 rfl rfl 4 (by decide) (hts (.fieldLink RX3 13 "RentHarmonyModel" "rooms" "[I") (by decide +kernel)) (fun _ h9 => h9) rfl dX3_tryFrom_65 ?_
        refine zr_ic (n := ((0 : Nat) : Int)) hx hb dX3_tryFrom_68 ?_
        refine lv_aload_n hx hb dX3_tryFrom_69 rfl (lv_at hl 0 rfl) ?_
        refine va_get (D := D) (ci := 3) (v := .int (iI ((n : Nat) : Int))) (C := RX3) (T := TX3) (N := 15) hx hb hts (by decide +kernel) hown hK hP 0 rfl rfl 1 (by decide) (hts (.fieldLink RX3 38 "RentHarmonyModel" "lodgers" "I") (by decide +kernel)) (fun _ h9 => h9) rfl dX3_tryFrom_70 ?_
        refine zr_copy (rest := []) hx hb (hml.trans hl.1.symm) hown (hts (.methodLink RX3 70 arraycopyName) (by decide +kernel)) (hts (.native arraycopyName) (by decide +kernel)) (hts (.static arraycopyName) (by decide +kernel)) (hts (.initialized "java/lang/System") (by decide +kernel)) hK hP hD hS 5 2 0 rfl rfl rfl (n) (by omega) (by omega) (by omega) (by decide) (Nat.le_of_ble_eq_true rfl) (by decide +kernel) dX3_tryFrom_73 (fun H locs hP hD hS => ?_)
        have hP : va_P D vwCl [(M, .inr (3, [.int (iI (th)), .int (iI ((n : Nat) : Int)), .int (iI (rc)), .ref MB, .ref MR, .ref ME, .ref MZ, .int (iI (sum)), .int (iI ((1 : Nat) : Int)), .int (iI (po)), .ref MT, .int (iI (fe)), .int (iI (wh)), .int (iI (wi)), .int (iI (mu))])), (MB, zArr cI 36 b), (MR, zArr cI 6 (zCpy mt mr (n))), (ME, zArr cI 6 me), (MZ, zArr cI 6 mq), (MT, zArr cI 6 mt)] H := hP
        have hD : va_D A [(M, .inr (3, [.int (iI (th)), .int (iI ((n : Nat) : Int)), .int (iI (rc)), .ref MB, .ref MR, .ref ME, .ref MZ, .int (iI (sum)), .int (iI ((1 : Nat) : Int)), .int (iI (po)), .ref MT, .int (iI (fe)), .int (iI (wh)), .int (iI (wi)), .int (iI (mu))])), (MB, zArr cI 36 b), (MR, zArr cI 6 (zCpy mt mr (n))), (ME, zArr cI 6 me), (MZ, zArr cI 6 mq), (MT, zArr cI 6 mt)] := hD
        exact zWv_ret hx hb hr hlocks hS dX3_tryFrom_76 (sum, ((1 : Nat) : Int), (zCpy mt mr (n)), mt) ⟨by show zStep n pre sum (zG n (zAl wh wi mu) (zVf b fe) (n - 5) 5 (zTk mt 5)) wo wy mr _ _ _; rw [e0]; exact hlf.1 (by omega), fun _ _ => rfl, by show -1 ≤ _ ∧ _ ≤ (6000 : Int); omega⟩ hP
      · exact absurd c15 (by omega)
set_option maxHeartbeats 4000000 in
set_option maxRecDepth 100000 in
/-- X3_tryFrom -/
theorem c_X3_tryFrom_4 (l : Launch) (D : va_G) (cI : ClassId) (M MB MR ME MZ MT n : Nat) (b mr me mq mt : Nat → Int) (th rc wo wy po fe wh wi mu : Int) (pre : List Nat) (sum : Int) (hn : n ≤ 6) (hb0 : ∀ k, 0 ≤ b k ∧ b k ≤ 999) (hkn : 4 ≤ n) (hlen : pre.length = 4) (hpre : ∀ j, j < 4 → mt j = ((pre.getD j 0 : Nat) : Int)) (hpl : ∀ j, j < 4 → pre.getD j 0 < 6) (hsum : 0 ≤ sum ∧ sum ≤ 999 * 4) (hwo : -1 ≤ wo ∧ wo ≤ 6000) (hfe : zB fe) (hwh : zB wh) (hwi : zB wi) (hmu : 0 ≤ mu ∧ mu ≤ 1) : zWv (S := Int × Int × (Nat → Int) × (Nat → Int)) l yX3_tryFrom wsX3_tryFrom 3 76 D cI [.ref M, .int (iI ((4 : Nat) : Int)), .int (iI (sum))] [(M, .inr (3, [.int (iI (th)), .int (iI ((n : Nat) : Int)), .int (iI (rc)), .ref MB, .ref MR, .ref ME, .ref MZ, .int (iI (wo)), .int (iI (wy)), .int (iI (po)), .ref MT, .int (iI (fe)), .int (iI (wh)), .int (iI (wi)), .int (iI (mu))])), (MB, zArr cI 36 b), (MR, zArr cI 6 mr), (ME, zArr cI 6 me), (MZ, zArr cI 6 mq), (MT, zArr cI 6 mt)] (fun u8 => zStep n pre sum (zG n (zAl wh wi mu) (zVf b fe) (n - 4) 4 (zTk mt 4)) wo wy mr u8.1 u8.2.1 u8.2.2.1 ∧ (∀ j, j < 4 → u8.2.2.2 j = mt j) ∧ (-1 ≤ u8.1 ∧ u8.1 ≤ 6000)) (fun u8 => [(M, .inr (3, [.int (iI (th)), .int (iI ((n : Nat) : Int)), .int (iI (rc)), .ref MB, .ref MR, .ref ME, .ref MZ, .int (iI (u8.1)), .int (iI (u8.2.1)), .int (iI (po)), .ref MT, .int (iI (fe)), .int (iI (wh)), .int (iI (wi)), .int (iI (mu))])), (MB, zArr cI 36 b), (MR, zArr cI 6 u8.2.2.1), (ME, zArr cI 6 me), (MZ, zArr cI 6 mq), (MT, zArr cI 6 u8.2.2.2)]) := by
  refine zWv_of (cc := cX3_tryFrom) (maxL := 4) (by decide) rfl (Nat.le_of_ble_eq_true rfl) ?_
  intro p e s m args below meth c ls A hF hr hlocks hP hK hD hS hl
  have hF : zFix p m c cX3_tryFrom 4 s args wsX3_tryFrom RX3 := hF
  obtain ⟨hx, hb, hml, hown, hts⟩ := id hF
  have hP : va_P D vwCl [(M, .inr (3, [.int (iI (th)), .int (iI ((n : Nat) : Int)), .int (iI (rc)), .ref MB, .ref MR, .ref ME, .ref MZ, .int (iI (wo)), .int (iI (wy)), .int (iI (po)), .ref MT, .int (iI (fe)), .int (iI (wh)), .int (iI (wi)), .int (iI (mu))])), (MB, zArr cI 36 b), (MR, zArr cI 6 mr), (ME, zArr cI 6 me), (MZ, zArr cI 6 mq), (MT, zArr cI 6 mt)] s.heap := hP
  have hD : va_D A [(M, .inr (3, [.int (iI (th)), .int (iI ((n : Nat) : Int)), .int (iI (rc)), .ref MB, .ref MR, .ref ME, .ref MZ, .int (iI (wo)), .int (iI (wy)), .int (iI (po)), .ref MT, .int (iI (fe)), .int (iI (wh)), .int (iI (wi)), .int (iI (mu))])), (MB, zArr cI 36 b), (MR, zArr cI 6 mr), (ME, zArr cI 6 me), (MZ, zArr cI 6 mq), (MT, zArr cI 6 mt)] := hD
  skip
  have hl : lv_has ls 4 [(0, .ref M), (1, .int (iI ((4 : Nat) : Int))), (2, .int (iI (sum)))] := hl
  have hfe1 := hfe.1
  have hfe2 := hfe.2
  refine lv_iload_n hx hb dX3_tryFrom_0 rfl (lv_at hl 1 rfl) ?_
  refine lv_aload_n hx hb dX3_tryFrom_1 rfl (lv_at hl 0 rfl) ?_
  refine va_get (D := D) (ci := 3) (v := .int (iI ((n : Nat) : Int))) (C := RX3) (T := TX3) (N := 15) hx hb hts (by decide +kernel) hown hK hP 0 rfl rfl 1 (by decide) (hts (.fieldLink RX3 38 "RentHarmonyModel" "lodgers" "I") (by decide +kernel)) (fun _ h9 => h9) rfl dX3_tryFrom_2 ?_
  refine zr_icmp_ne (tgt := 77) hx hb dX3_tryFrom_5 (by decide) (zB_of (by omega) (by omega)) (zB_of (by omega) (by omega)) (fun c1 => ?_) (fun c1 => ?_)
  · have hlt : 4 < n := by omega
    refine zr_ic (n := ((0 : Nat) : Int)) hx hb dX3_tryFrom_77 ?_
    refine lv_istore_n (lv' := [(3, .int (iI ((0 : Nat) : Int))), (0, .ref M), (1, .int (iI ((4 : Nat) : Int))), (2, .int (iI (sum)))]) hx hb dX3_tryFrom_78 rfl hl (by decide) rfl (fun ls hl => ?_)
    have LT : ∀ (k0 : Nat) (r : Nat) (wo1 : Int) (wy1 : Int) (ro1 : Nat → Int) (mt1 : Nat → Int), n - r < k0 → (hr1 : r ≤ n) → (hst : zStep n pre sum (zFold (zFF n b fe wh wi mu mt 4) r) wo wy mr wo1 wy1 ro1) → (hmt1 : ∀ j, j < 4 → mt1 j = mt j) → (hwo1 : -1 ≤ wo1 ∧ wo1 ≤ 6000) → ∀ (H : Heap) (locs : List Loc), va_P D vwCl [(M, .inr (3, [.int (iI (th)), .int (iI ((n : Nat) : Int)), .int (iI (rc)), .ref MB, .ref MR, .ref ME, .ref MZ, .int (iI (wo1)), .int (iI (wy1)), .int (iI (po)), .ref MT, .int (iI (fe)), .int (iI (wh)), .int (iI (wi)), .int (iI (mu))])), (MB, zArr cI 36 b), (MR, zArr cI 6 ro1), (ME, zArr cI 6 me), (MZ, zArr cI 6 mq), (MT, zArr cI 6 mt1)] H → va_D A [(M, .inr (3, [.int (iI (th)), .int (iI ((n : Nat) : Int)), .int (iI (rc)), .ref MB, .ref MR, .ref ME, .ref MZ, .int (iI (wo1)), .int (iI (wy1)), .int (iI (po)), .ref MT, .int (iI (fe)), .int (iI (wh)), .int (iI (wi)), .int (iI (mu))])), (MB, zArr cI 36 b), (MR, zArr cI 6 ro1), (ME, zArr cI 6 me), (MZ, zArr cI 6 mq), (MT, zArr cI 6 mt1)] → va_S A s.heap H locs → ∀ (ls : Array Slot), lv_has ls 4 [(0, .ref M), (1, .int (iI ((4 : Nat) : Int))), (2, .int (iI (sum))), (3, .int (iI ((r : Nat) : Int)))] → W p l e (zRm 3 76) s m args below meth c H locs 0 0 (MQ below (va_Qv (S := Int × Int × (Nat → Int) × (Nat → Int)) (fun u8 => zStep n pre sum (zG n (zAl wh wi mu) (zVf b fe) (n - 4) 4 (zTk mt 4)) wo wy mr u8.1 u8.2.1 u8.2.2.1 ∧ (∀ j, j < 4 → u8.2.2.2 j = mt j) ∧ (-1 ≤ u8.1 ∧ u8.1 ≤ 6000)) (fun u9 t9 => va_P D vwCl ((fun u8 => [(M, .inr (3, [.int (iI (th)), .int (iI ((n : Nat) : Int)), .int (iI (rc)), .ref MB, .ref MR, .ref ME, .ref MZ, .int (iI (u8.1)), .int (iI (u8.2.1)), .int (iI (po)), .ref MT, .int (iI (fe)), .int (iI (wh)), .int (iI (wi)), .int (iI (mu))])), (MB, zArr cI 36 b), (MR, zArr cI 6 u8.2.2.1), (ME, zArr cI 6 me), (MZ, zArr cI 6 mq), (MT, zArr cI 6 u8.2.2.2)]) u9) t9.heap) A) args s 0 0 A) (F0 m 79 ls []) := by
      intro k0
      induction k0 with
      | zero => intro r wo1 wy1 ro1 mt1 hk; exact absurd hk (Nat.not_lt_zero _)
      | succ k0 ih_LT =>
        intro r wo1 wy1 ro1 mt1 hk hr1 hst hmt1 hwo1 H locs hP hD hS ls hl
        refine lv_iload_n hx hb dX3_tryFrom_79 rfl (lv_at hl 3 rfl) ?_
        refine lv_aload_n hx hb dX3_tryFrom_80 rfl (lv_at hl 0 rfl) ?_
        refine va_get (D := D) (ci := 3) (v := .int (iI ((n : Nat) : Int))) (C := RX3) (T := TX3) (N := 15) hx hb hts (by decide +kernel) hown hK hP 0 rfl rfl 1 (by decide) (hts (.fieldLink RX3 38 "RentHarmonyModel" "lodgers" "I") (by decide +kernel)) (fun _ h9 => h9) rfl dX3_tryFrom_81 ?_
        refine zr_icmp_ge (tgt := 139) hx hb dX3_tryFrom_84 (by decide) (zB_of (by omega) (by omega)) (zB_of (by omega) (by omega)) (fun c2 => ?_) (fun c2 => ?_)
        · exact zWv_ret hx hb hr hlocks hS dX3_tryFrom_139 (wo1, wy1, ro1, mt1) ⟨by have e9 : r = n := (by omega); rw [zG_FF hlt]; rw [e9] at hst; exact hst, hmt1, hwo1⟩ hP
        · refine lv_aload_n hx hb dX3_tryFrom_87 rfl (lv_at hl 0 rfl) ?_
          refine lv_iload_n hx hb dX3_tryFrom_88 rfl (lv_at hl 1 rfl) ?_
          refine lv_iload_n hx hb dX3_tryFrom_89 rfl (lv_at hl 3 rfl) ?_
          have hmtb : ∀ j, j < 4 → 0 ≤ mt1 j ∧ mt1 j ≤ 6 := fun j hj => by rw [hmt1 j hj, hpre j hj]; have := hpl j hj; omega
          have eT : zTk mt1 4 = zTk mt 4 := zTk_congr 4 hmt1
          refine zc_ri (As := [.int (iI ((4 : Nat) : Int)), .int (iI ((r : Nat) : Int))]) (rest := []) hF (c_X3_isTaken l D cI M MB MR ME MZ MT n b ro1 me mq mt1 th rc wo1 wy1 po fe wh wi mu 4 r (by omega) (by omega) (by assumption) (by assumption) (by assumption) (by assumption)) (cwV 2 hts gX3_tryFrom_X3_isTaken rfl rfl rfl (by decide +kernel) ⟨Nat.le_of_ble_eq_true rfl, Nat.le_of_ble_eq_true rfl⟩) hK hP [0, 1, 2, 3, 4, 5] rfl 0 rfl 0 rfl rfl rfl rfl hl.1 rfl (Nat.le_of_ble_eq_true rfl) dX3_tryFrom_90 ⟨Nat.zero_le _, Nat.zero_le _⟩ ?_
          refine zr_ifB_eq (tgt := 99) hx hb dX3_tryFrom_93 (by decide)  (fun c3 => ?_) (fun c3 => ?_)
          · have hP9 := c3
            rw [eT] at hP9
            refine lv_aload_n hx hb dX3_tryFrom_99 rfl (lv_at hl 0 rfl) ?_
            refine va_get (D := D) (ci := 3) (v := .ref MT) (C := RX3) (T := TX3) (N := 15) hx hb hts (by decide +kernel) hown hK hP 0 rfl rfl 10 (by decide) (hts (.fieldLink RX3 22 "RentHarmonyModel" "tried" "[I") (by decide +kernel)) (fun _ h9 => h9) rfl dX3_tryFrom_100 ?_
            refine lv_iload_n hx hb dX3_tryFrom_103 rfl (lv_at hl 1 rfl) ?_
            refine lv_iload_n hx hb dX3_tryFrom_104 rfl (lv_at hl 3 rfl) ?_
            refine zr_iast hx hb hK hP hD hS 5 0 rfl rfl (4) (by omega) (by omega) (by omega) dX3_tryFrom_105 (fun H locs hP hD hS => ?_)
            have hP : va_P D vwCl [(M, .inr (3, [.int (iI (th)), .int (iI ((n : Nat) : Int)), .int (iI (rc)), .ref MB, .ref MR, .ref ME, .ref MZ, .int (iI (wo1)), .int (iI (wy1)), .int (iI (po)), .ref MT, .int (iI (fe)), .int (iI (wh)), .int (iI (wi)), .int (iI (mu))])), (MB, zArr cI 36 b), (MR, zArr cI 6 ro1), (ME, zArr cI 6 me), (MZ, zArr cI 6 mq), (MT, zArr cI 6 (uZ mt1 (4) ((r : Nat) : Int)))] H := hP
            have hD : va_D A [(M, .inr (3, [.int (iI (th)), .int (iI ((n : Nat) : Int)), .int (iI (rc)), .ref MB, .ref MR, .ref ME, .ref MZ, .int (iI (wo1)), .int (iI (wy1)), .int (iI (po)), .ref MT, .int (iI (fe)), .int (iI (wh)), .int (iI (wi)), .int (iI (mu))])), (MB, zArr cI 36 b), (MR, zArr cI 6 ro1), (ME, zArr cI 6 me), (MZ, zArr cI 6 mq), (MT, zArr cI 6 (uZ mt1 (4) ((r : Nat) : Int)))] := hD
            refine lv_aload_n hx hb dX3_tryFrom_106 rfl (lv_at hl 0 rfl) ?_
            refine lv_iload_n hx hb dX3_tryFrom_107 rfl (lv_at hl 1 rfl) ?_
            refine zr_ic (n := ((1 : Nat) : Int)) hx hb dX3_tryFrom_108 ?_
            refine zr_addN (x := 4) (y := 1) hx hb dX3_tryFrom_109 ?_
            refine zr_topi (show ((4 + 1 : Nat) : Int) = ((5 : Nat) : Int) from rfl) ?_
            refine lv_iload_n hx hb dX3_tryFrom_110 rfl (lv_at hl 2 rfl) ?_
            refine lv_iload_n hx hb dX3_tryFrom_111 rfl (lv_at hl 1 rfl) ?_
            refine lv_aload_n hx hb dX3_tryFrom_112 rfl (lv_at hl 0 rfl) ?_
            refine va_get (D := D) (ci := 3) (v := .int (iI (fe))) (C := RX3) (T := TX3) (N := 15) hx hb hts (by decide +kernel) hown hK hP 0 rfl rfl 11 (by decide) (hts (.fieldLink RX3 25 "RentHarmonyModel" "free" "I") (by decide +kernel)) (fun _ h9 => h9) rfl dX3_tryFrom_113 ?_
            refine zr_icmp_ne (tgt := 123) hx hb dX3_tryFrom_116 (by decide) (zB_of (by omega) (by omega)) (zB_of (by omega) (by omega)) (fun c4 => ?_) (fun c4 => ?_)
            · have hf9 := c4
              refine lv_aload_n hx hb dX3_tryFrom_123 rfl (lv_at hl 0 rfl) ?_
              refine lv_iload_n hx hb dX3_tryFrom_124 rfl (lv_at hl 1 rfl) ?_
              refine lv_iload_n hx hb dX3_tryFrom_125 rfl (lv_at hl 3 rfl) ?_
              refine zc_ri (As := [.int (iI ((4 : Nat) : Int)), .int (iI ((r : Nat) : Int))]) (rest := [.int (iI (sum)), .int (iI ((5 : Nat) : Int)), .ref M]) hF (c_X3_bi l D cI M MB MR ME MZ MT n b ro1 me mq (uZ mt1 (4) ((r : Nat) : Int)) th rc wo1 wy1 po fe wh wi mu 4 r (by omega) (by omega)) (cwV 2 hts gX3_tryFrom_X3_bi rfl rfl rfl (by decide +kernel) ⟨Nat.le_of_ble_eq_true rfl, Nat.le_of_ble_eq_true rfl⟩) hK hP [0, 1, 2, 3, 4, 5] rfl 0 rfl 0 rfl rfl rfl rfl hl.1 rfl (Nat.le_of_ble_eq_true rfl) dX3_tryFrom_126 ⟨Nat.zero_le _, Nat.zero_le _⟩ ?_
              refine zr_topi (show (b (4 * 6 + r)) = (zVf b fe 4 r) from by unfold zVf; rw [if_neg hf9]) ?_
              have hvb := zVf_b hb0 fe 4 r
              refine zr_add hx hb dX3_tryFrom_129 ?_
              refine zc_wv (As := [.int (iI ((5 : Nat) : Int)), .int (iI (sum + (zVf b fe 4 r)))]) (rest := []) hF (c_X3_tryFrom_5 l D cI M MB MR ME MZ MT n b ro1 me mq (uZ mt1 (4) ((r : Nat) : Int)) th rc wo1 wy1 po fe wh wi mu (pre ++ [r]) (sum + (zVf b fe 4 r)) (by omega) (by assumption) (by omega) (by rw [List.length_append, hlen]; rfl) (zSnoc hlen (fun j hj => (hmt1 j hj).trans (hpre j hj))) (zSnoc_lt hlen hpl (by omega)) (by omega) (by omega) (by assumption) (by assumption) (by assumption) (by assumption)) (cwV 2 hts gX3_tryFrom_X3_tryFrom rfl rfl rfl (by decide +kernel) ⟨Nat.le_of_ble_eq_true rfl, Nat.le_of_ble_eq_true rfl⟩) hK hP hD hS [0, 1, 2, 3, 4, 5] rfl rfl (fun _ => rfl) 0 rfl 0 rfl rfl rfl rfl hl.1 rfl (Nat.le_of_ble_eq_true rfl) dX3_tryFrom_130 ⟨Nat.zero_le _, Nat.zero_le _⟩ (fun u5 H locs hw hP hD hS => ?_)
              obtain ⟨wo7, wy7, ro7, mt7⟩ := u5
              obtain ⟨hs7, hm7, hb7⟩ := hw
              have hP : va_P D vwCl [(M, .inr (3, [.int (iI (th)), .int (iI ((n : Nat) : Int)), .int (iI (rc)), .ref MB, .ref MR, .ref ME, .ref MZ, .int (iI (wo7)), .int (iI (wy7)), .int (iI (po)), .ref MT, .int (iI (fe)), .int (iI (wh)), .int (iI (wi)), .int (iI (mu))])), (MB, zArr cI 36 b), (MR, zArr cI 6 ro7), (ME, zArr cI 6 me), (MZ, zArr cI 6 mq), (MT, zArr cI 6 mt7)] H := hP
              have hD : va_D A [(M, .inr (3, [.int (iI (th)), .int (iI ((n : Nat) : Int)), .int (iI (rc)), .ref MB, .ref MR, .ref ME, .ref MZ, .int (iI (wo7)), .int (iI (wy7)), .int (iI (po)), .ref MT, .int (iI (fe)), .int (iI (wh)), .int (iI (wi)), .int (iI (mu))])), (MB, zArr cI 36 b), (MR, zArr cI 6 ro7), (ME, zArr cI 6 me), (MZ, zArr cI 6 mq), (MT, zArr cI 6 mt7)] := hD
              have hs9 : zStep n pre sum (zFF n b fe wh wi mu mt 4 r) wo1 wy1 ro1 wo7 wy7 ro7 := by
                have h9 : zStep n (pre ++ [r]) (sum + zVf b fe 4 r) (zG n (zAl wh wi mu) (zVf b fe) (n - 5) 5 (zTk (uZ mt1 4 ((r : Nat) : Int)) (4 + 1))) wo1 wy1 ro1 wo7 wy7 ro7 := hs7
                rw [zTk_add, eT] at h9
                unfold zFF; rw [if_neg hP9]; exact zStep_deep h9
              have hm9 : ∀ j, j < 4 → mt7 j = mt j := fun j hj => (hm7 j (by omega)).trans ((uZ_n _ _ (by omega)).trans (hmt1 j hj))
              have hb9 := hb7
              refine zr_iinc (lv2 := [(3, .int (iI (((r : Nat) : Int) + 1))), (0, .ref M), (1, .int (iI ((4 : Nat) : Int))), (2, .int (iI (sum)))]) hx hb dX3_tryFrom_133 hl (k0 := 3) rfl (by decide) rfl (fun ls hl => ?_)
              have hl : lv_has ls 4 [(3, .int (iI ((r + 1 : Nat) : Int))), (0, .ref M), (1, .int (iI ((4 : Nat) : Int))), (2, .int (iI (sum)))] := hl
              refine lv_goto (tgt := 79) hx hb dX3_tryFrom_136 (by decide) ?_
              exact ih_LT (r + 1) (wo7) (wy7) (ro7) (mt7) (by omega) (by omega) (zStep_comb hst hs9) hm9 hb9 _ _ hP hD hS _ (lv_sub hl [1, 2, 3, 0] rfl)
            · have hf9 := c4
              refine zr_ic (n := ((0 : Nat) : Int)) hx hb dX3_tryFrom_119 ?_
              refine lv_goto (tgt := 129) hx hb dX3_tryFrom_120 (by decide) ?_
              refine zr_topi (show ((0 : Nat) : Int) = (zVf b fe 4 r) from by unfold zVf; rw [if_pos hf9]; rfl) ?_
              have hvb := zVf_b hb0 fe 4 r
              refine zr_add hx hb dX3_tryFrom_129 ?_
              refine zc_wv (As := [.int (iI ((5 : Nat) : Int)), .int (iI (sum + (zVf b fe 4 r)))]) (rest := []) hF (c_X3_tryFrom_5 l D cI M MB MR ME MZ MT n b ro1 me mq (uZ mt1 (4) ((r : Nat) : Int)) th rc wo1 wy1 po fe wh wi mu (pre ++ [r]) (sum + (zVf b fe 4 r)) (by omega) (by assumption) (by omega) (by rw [List.length_append, hlen]; rfl) (zSnoc hlen (fun j hj => (hmt1 j hj).trans (hpre j hj))) (zSnoc_lt hlen hpl (by omega)) (by omega) (by omega) (by assumption) (by assumption) (by assumption) (by assumption)) (cwV 2 hts gX3_tryFrom_X3_tryFrom rfl rfl rfl (by decide +kernel) ⟨Nat.le_of_ble_eq_true rfl, Nat.le_of_ble_eq_true rfl⟩) hK hP hD hS [0, 1, 2, 3, 4, 5] rfl rfl (fun _ => rfl) 0 rfl 0 rfl rfl rfl rfl hl.1 rfl (Nat.le_of_ble_eq_true rfl) dX3_tryFrom_130 ⟨Nat.zero_le _, Nat.zero_le _⟩ (fun u8 H locs hw hP hD hS => ?_)
              obtain ⟨wo10, wy10, ro10, mt10⟩ := u8
              obtain ⟨hs10, hm10, hb10⟩ := hw
              have hP : va_P D vwCl [(M, .inr (3, [.int (iI (th)), .int (iI ((n : Nat) : Int)), .int (iI (rc)), .ref MB, .ref MR, .ref ME, .ref MZ, .int (iI (wo10)), .int (iI (wy10)), .int (iI (po)), .ref MT, .int (iI (fe)), .int (iI (wh)), .int (iI (wi)), .int (iI (mu))])), (MB, zArr cI 36 b), (MR, zArr cI 6 ro10), (ME, zArr cI 6 me), (MZ, zArr cI 6 mq), (MT, zArr cI 6 mt10)] H := hP
              have hD : va_D A [(M, .inr (3, [.int (iI (th)), .int (iI ((n : Nat) : Int)), .int (iI (rc)), .ref MB, .ref MR, .ref ME, .ref MZ, .int (iI (wo10)), .int (iI (wy10)), .int (iI (po)), .ref MT, .int (iI (fe)), .int (iI (wh)), .int (iI (wi)), .int (iI (mu))])), (MB, zArr cI 36 b), (MR, zArr cI 6 ro10), (ME, zArr cI 6 me), (MZ, zArr cI 6 mq), (MT, zArr cI 6 mt10)] := hD
              have hs9 : zStep n pre sum (zFF n b fe wh wi mu mt 4 r) wo1 wy1 ro1 wo10 wy10 ro10 := by
                have h9 : zStep n (pre ++ [r]) (sum + zVf b fe 4 r) (zG n (zAl wh wi mu) (zVf b fe) (n - 5) 5 (zTk (uZ mt1 4 ((r : Nat) : Int)) (4 + 1))) wo1 wy1 ro1 wo10 wy10 ro10 := hs10
                rw [zTk_add, eT] at h9
                unfold zFF; rw [if_neg hP9]; exact zStep_deep h9
              have hm9 : ∀ j, j < 4 → mt10 j = mt j := fun j hj => (hm10 j (by omega)).trans ((uZ_n _ _ (by omega)).trans (hmt1 j hj))
              have hb9 := hb10
              refine zr_iinc (lv2 := [(3, .int (iI (((r : Nat) : Int) + 1))), (0, .ref M), (1, .int (iI ((4 : Nat) : Int))), (2, .int (iI (sum)))]) hx hb dX3_tryFrom_133 hl (k0 := 3) rfl (by decide) rfl (fun ls hl => ?_)
              have hl : lv_has ls 4 [(3, .int (iI ((r + 1 : Nat) : Int))), (0, .ref M), (1, .int (iI ((4 : Nat) : Int))), (2, .int (iI (sum)))] := hl
              refine lv_goto (tgt := 79) hx hb dX3_tryFrom_136 (by decide) ?_
              exact ih_LT (r + 1) (wo10) (wy10) (ro10) (mt10) (by omega) (by omega) (zStep_comb hst hs9) hm9 hb9 _ _ hP hD hS _ (lv_sub hl [1, 2, 3, 0] rfl)
          · have hP9 := c3
            rw [eT] at hP9
            refine lv_goto (tgt := 133) hx hb dX3_tryFrom_96 (by decide) ?_
            refine zr_iinc (lv2 := [(3, .int (iI (((r : Nat) : Int) + 1))), (0, .ref M), (1, .int (iI ((4 : Nat) : Int))), (2, .int (iI (sum)))]) hx hb dX3_tryFrom_133 hl (k0 := 3) rfl (by decide) rfl (fun ls hl => ?_)
            have hl : lv_has ls 4 [(3, .int (iI ((r + 1 : Nat) : Int))), (0, .ref M), (1, .int (iI ((4 : Nat) : Int))), (2, .int (iI (sum)))] := hl
            refine lv_goto (tgt := 79) hx hb dX3_tryFrom_136 (by decide) ?_
            exact ih_LT (r + 1) (wo1) (wy1) (ro1) (mt1) (by omega) (by omega) (zStep_comb hst (by unfold zFF; rw [if_pos hP9]; exact zStep_none)) hmt1 hwo1 _ _ hP hD hS _ (lv_sub hl [1, 2, 3, 0] rfl)
    exact LT ((n - (0)) + 1) (0) (wo) (wy) (mr) (mt) (Nat.lt_succ_self _) (Nat.zero_le _) ⟨rfl, rfl, rfl⟩ (fun _ _ => rfl) hwo _ _ hP hD hS _ (lv_sub hl [1, 2, 3, 0] rfl)
  · have hkn2 : 4 = n := by omega
    have e0 : n - 4 = 0 := by omega
    have hlf := zStep_leaf (sum := sum) (w := wo) (y := wy) (ro := mr) (hlen.trans hkn2) (fun j hj => hpre j (by omega))
    refine lv_aload_n hx hb dX3_tryFrom_8 rfl (lv_at hl 0 rfl) ?_
    refine lv_iload_n hx hb dX3_tryFrom_9 rfl (lv_at hl 2 rfl) ?_
    refine lv_aload_n hx hb dX3_tryFrom_10 rfl (lv_at hl 0 rfl) ?_
    refine va_get (D := D) (ci := 3) (v := .int (iI (wo))) (C := RX3) (T := TX3) (N := 15) hx hb hts (by decide +kernel) hown hK hP 0 rfl rfl 7 (by decide) (hts (.fieldLink RX3 64 "RentHarmonyModel" "worth" "I") (by decide +kernel)) (fun _ h9 => h9) rfl dX3_tryFrom_11 ?_
    refine zr_icmp_le (tgt := 21) hx hb dX3_tryFrom_14 (by decide) (zB_of (by omega) (by omega)) (zB_of (by omega) (by omega)) (fun c11 => ?_) (fun c11 => ?_)
    · refine lv_iload_n hx hb dX3_tryFrom_21 rfl (lv_at hl 2 rfl) ?_
      refine lv_aload_n hx hb dX3_tryFrom_22 rfl (lv_at hl 0 rfl) ?_
      refine va_get (D := D) (ci := 3) (v := .int (iI (wo))) (C := RX3) (T := TX3) (N := 15) hx hb hts (by decide +kernel) hown hK hP 0 rfl rfl 7 (by decide) (hts (.fieldLink RX3 64 "RentHarmonyModel" "worth" "I") (by decide +kernel)) (fun _ h9 => h9) rfl dX3_tryFrom_23 ?_
      refine zr_icmp_ne (tgt := 38) hx hb dX3_tryFrom_26 (by decide) (zB_of (by omega) (by omega)) (zB_of (by omega) (by omega)) (fun c12 => ?_) (fun c12 => ?_)
      · have hcmp := c12
        refine lv_aload_n hx hb dX3_tryFrom_38 rfl (lv_at hl 0 rfl) ?_
        refine va_get (D := D) (ci := 3) (v := .int (iI (wy))) (C := RX3) (T := TX3) (N := 15) hx hb hts (by decide +kernel) hown hK hP 0 rfl rfl 8 (by decide) (hts (.fieldLink RX3 67 "RentHarmonyModel" "ways" "I") (by decide +kernel)) (fun _ h9 => h9) rfl dX3_tryFrom_39 ?_
        refine va_put (D := D) (ci := 3) (v := .int (iI (wy))) (ty := .int) (C := RX3) (T := TX3) (N := 15) hx hb hts (by decide +kernel) tyX3 tyX3_ok nmX3 hown hK hP hD hS 0 rfl rfl 8 (by decide) (hts (.fieldLink RX3 67 "RentHarmonyModel" "ways" "I") (by decide +kernel)) (fun _ h9 => h9) rfl (by decide +kernel) rfl rfl (Nat.le_of_ble_eq_true rfl) dX3_tryFrom_42 (fun H locs hP hD hS => ?_)
        have hP : va_P D vwCl [(M, .inr (3, [.int (iI (th)), .int (iI ((n : Nat) : Int)), .int (iI (rc)), .ref MB, .ref MR, .ref ME, .ref MZ, .int (iI (wo)), .int (iI (wy)), .int (iI (po)), .ref MT, .int (iI (fe)), .int (iI (wh)), .int (iI (wi)), .int (iI (mu))])), (MB, zArr cI 36 b), (MR, zArr cI 6 mr), (ME, zArr cI 6 me), (MZ, zArr cI 6 mq), (MT, zArr cI 6 mt)] H := hP
        have hD : va_D A [(M, .inr (3, [.int (iI (th)), .int (iI ((n : Nat) : Int)), .int (iI (rc)), .ref MB, .ref MR, .ref ME, .ref MZ, .int (iI (wo)), .int (iI (wy)), .int (iI (po)), .ref MT, .int (iI (fe)), .int (iI (wh)), .int (iI (wi)), .int (iI (mu))])), (MB, zArr cI 36 b), (MR, zArr cI 6 mr), (ME, zArr cI 6 me), (MZ, zArr cI 6 mq), (MT, zArr cI 6 mt)] := hD
        refine lv_iload_n hx hb dX3_tryFrom_45 rfl (lv_at hl 2 rfl) ?_
        refine lv_aload_n hx hb dX3_tryFrom_46 rfl (lv_at hl 0 rfl) ?_
        refine va_get (D := D) (ci := 3) (v := .int (iI (wo))) (C := RX3) (T := TX3) (N := 15) hx hb hts (by decide +kernel) hown hK hP 0 rfl rfl 7 (by decide) (hts (.fieldLink RX3 64 "RentHarmonyModel" "worth" "I") (by decide +kernel)) (fun _ h9 => h9) rfl dX3_tryFrom_47 ?_
        refine zr_icmp_gt (tgt := 54) hx hb dX3_tryFrom_50 (by decide) (zB_of (by omega) (by omega)) (zB_of (by omega) (by omega)) (fun c13 => ?_) (fun c13 => ?_)
        · exact absurd c13 (by omega)
        · exact zWv_ret hx hb hr hlocks hS dX3_tryFrom_53 (wo, wy, mr, mt) ⟨by show zStep n pre sum (zG n (zAl wh wi mu) (zVf b fe) (n - 4) 4 (zTk mt 4)) wo wy mr _ _ _; rw [e0]; exact hlf.2.2 (by omega), fun _ _ => rfl, by show -1 ≤ _ ∧ _ ≤ (6000 : Int); omega⟩ hP
      · have hcmp := c12
        refine lv_aload_n hx hb dX3_tryFrom_29 rfl (lv_at hl 0 rfl) ?_
        refine va_get (D := D) (ci := 3) (v := .int (iI (wy))) (C := RX3) (T := TX3) (N := 15) hx hb hts (by decide +kernel) hown hK hP 0 rfl rfl 8 (by decide) (hts (.fieldLink RX3 67 "RentHarmonyModel" "ways" "I") (by decide +kernel)) (fun _ h9 => h9) rfl dX3_tryFrom_30 ?_
        refine zr_ic (n := ((1 : Nat) : Int)) hx hb dX3_tryFrom_33 ?_
        refine zr_add hx hb dX3_tryFrom_34 ?_
        refine lv_goto (tgt := 42) hx hb dX3_tryFrom_35 (by decide) ?_
        refine va_put (D := D) (ci := 3) (v := .int (iI (wy + ((1 : Nat) : Int)))) (ty := .int) (C := RX3) (T := TX3) (N := 15) hx hb hts (by decide +kernel) tyX3 tyX3_ok nmX3 hown hK hP hD hS 0 rfl rfl 8 (by decide) (hts (.fieldLink RX3 67 "RentHarmonyModel" "ways" "I") (by decide +kernel)) (fun _ h9 => h9) rfl (by decide +kernel) rfl rfl (Nat.le_of_ble_eq_true rfl) dX3_tryFrom_42 (fun H locs hP hD hS => ?_)
        have hP : va_P D vwCl [(M, .inr (3, [.int (iI (th)), .int (iI ((n : Nat) : Int)), .int (iI (rc)), .ref MB, .ref MR, .ref ME, .ref MZ, .int (iI (wo)), .int (iI (wy + ((1 : Nat) : Int))), .int (iI (po)), .ref MT, .int (iI (fe)), .int (iI (wh)), .int (iI (wi)), .int (iI (mu))])), (MB, zArr cI 36 b), (MR, zArr cI 6 mr), (ME, zArr cI 6 me), (MZ, zArr cI 6 mq), (MT, zArr cI 6 mt)] H := hP
        have hD : va_D A [(M, .inr (3, [.int (iI (th)), .int (iI ((n : Nat) : Int)), .int (iI (rc)), .ref MB, .ref MR, .ref ME, .ref MZ, .int (iI (wo)), .int (iI (wy + ((1 : Nat) : Int))), .int (iI (po)), .ref MT, .int (iI (fe)), .int (iI (wh)), .int (iI (wi)), .int (iI (mu))])), (MB, zArr cI 36 b), (MR, zArr cI 6 mr), (ME, zArr cI 6 me), (MZ, zArr cI 6 mq), (MT, zArr cI 6 mt)] := hD
        refine lv_iload_n hx hb dX3_tryFrom_45 rfl (lv_at hl 2 rfl) ?_
        refine lv_aload_n hx hb dX3_tryFrom_46 rfl (lv_at hl 0 rfl) ?_
        refine va_get (D := D) (ci := 3) (v := .int (iI (wo))) (C := RX3) (T := TX3) (N := 15) hx hb hts (by decide +kernel) hown hK hP 0 rfl rfl 7 (by decide) (hts (.fieldLink RX3 64 "RentHarmonyModel" "worth" "I") (by decide +kernel)) (fun _ h9 => h9) rfl dX3_tryFrom_47 ?_
        refine zr_icmp_gt (tgt := 54) hx hb dX3_tryFrom_50 (by decide) (zB_of (by omega) (by omega)) (zB_of (by omega) (by omega)) (fun c14 => ?_) (fun c14 => ?_)
        · exact absurd c14 (by omega)
        · exact zWv_ret hx hb hr hlocks hS dX3_tryFrom_53 (wo, (wy + ((1 : Nat) : Int)), mr, mt) ⟨by show zStep n pre sum (zG n (zAl wh wi mu) (zVf b fe) (n - 4) 4 (zTk mt 4)) wo wy mr _ _ _; rw [e0]; exact hlf.2.1 (by omega), fun _ _ => rfl, by show -1 ≤ _ ∧ _ ≤ (6000 : Int); omega⟩ hP
    · have hgt := c11
      refine zr_ic (n := ((1 : Nat) : Int)) hx hb dX3_tryFrom_17 ?_
      refine lv_goto (tgt := 42) hx hb dX3_tryFrom_18 (by decide) ?_
      refine va_put (D := D) (ci := 3) (v := .int (iI ((1 : Nat) : Int))) (ty := .int) (C := RX3) (T := TX3) (N := 15) hx hb hts (by decide +kernel) tyX3 tyX3_ok nmX3 hown hK hP hD hS 0 rfl rfl 8 (by decide) (hts (.fieldLink RX3 67 "RentHarmonyModel" "ways" "I") (by decide +kernel)) (fun _ h9 => h9) rfl (by decide +kernel) rfl rfl (Nat.le_of_ble_eq_true rfl) dX3_tryFrom_42 (fun H locs hP hD hS => ?_)
      have hP : va_P D vwCl [(M, .inr (3, [.int (iI (th)), .int (iI ((n : Nat) : Int)), .int (iI (rc)), .ref MB, .ref MR, .ref ME, .ref MZ, .int (iI (wo)), .int (iI ((1 : Nat) : Int)), .int (iI (po)), .ref MT, .int (iI (fe)), .int (iI (wh)), .int (iI (wi)), .int (iI (mu))])), (MB, zArr cI 36 b), (MR, zArr cI 6 mr), (ME, zArr cI 6 me), (MZ, zArr cI 6 mq), (MT, zArr cI 6 mt)] H := hP
      have hD : va_D A [(M, .inr (3, [.int (iI (th)), .int (iI ((n : Nat) : Int)), .int (iI (rc)), .ref MB, .ref MR, .ref ME, .ref MZ, .int (iI (wo)), .int (iI ((1 : Nat) : Int)), .int (iI (po)), .ref MT, .int (iI (fe)), .int (iI (wh)), .int (iI (wi)), .int (iI (mu))])), (MB, zArr cI 36 b), (MR, zArr cI 6 mr), (ME, zArr cI 6 me), (MZ, zArr cI 6 mq), (MT, zArr cI 6 mt)] := hD
      refine lv_iload_n hx hb dX3_tryFrom_45 rfl (lv_at hl 2 rfl) ?_
      refine lv_aload_n hx hb dX3_tryFrom_46 rfl (lv_at hl 0 rfl) ?_
      refine va_get (D := D) (ci := 3) (v := .int (iI (wo))) (C := RX3) (T := TX3) (N := 15) hx hb hts (by decide +kernel) hown hK hP 0 rfl rfl 7 (by decide) (hts (.fieldLink RX3 64 "RentHarmonyModel" "worth" "I") (by decide +kernel)) (fun _ h9 => h9) rfl dX3_tryFrom_47 ?_
      refine zr_icmp_gt (tgt := 54) hx hb dX3_tryFrom_50 (by decide) (zB_of (by omega) (by omega)) (zB_of (by omega) (by omega)) (fun c15 => ?_) (fun c15 => ?_)
      · refine lv_aload_n hx hb dX3_tryFrom_54 rfl (lv_at hl 0 rfl) ?_
        refine lv_iload_n hx hb dX3_tryFrom_55 rfl (lv_at hl 2 rfl) ?_
        refine va_put (D := D) (ci := 3) (v := .int (iI (sum))) (ty := .int) (C := RX3) (T := TX3) (N := 15) hx hb hts (by decide +kernel) tyX3 tyX3_ok nmX3 hown hK hP hD hS 0 rfl rfl 7 (by decide) (hts (.fieldLink RX3 64 "RentHarmonyModel" "worth" "I") (by decide +kernel)) (fun _ h9 => h9) rfl (by decide +kernel) rfl rfl (Nat.le_of_ble_eq_true rfl) dX3_tryFrom_56 (fun H locs hP hD hS => ?_)
        have hP : va_P D vwCl [(M, .inr (3, [.int (iI (th)), .int (iI ((n : Nat) : Int)), .int (iI (rc)), .ref MB, .ref MR, .ref ME, .ref MZ, .int (iI (sum)), .int (iI ((1 : Nat) : Int)), .int (iI (po)), .ref MT, .int (iI (fe)), .int (iI (wh)), .int (iI (wi)), .int (iI (mu))])), (MB, zArr cI 36 b), (MR, zArr cI 6 mr), (ME, zArr cI 6 me), (MZ, zArr cI 6 mq), (MT, zArr cI 6 mt)] H := hP
        have hD : va_D A [(M, .inr (3, [.int (iI (th)), .int (iI ((n : Nat) : Int)), .int (iI (rc)), .ref MB, .ref MR, .ref ME, .ref MZ, .int (iI (sum)), .int (iI ((1 : Nat) : Int)), .int (iI (po)), .ref MT, .int (iI (fe)), .int (iI (wh)), .int (iI (wi)), .int (iI (mu))])), (MB, zArr cI 36 b), (MR, zArr cI 6 mr), (ME, zArr cI 6 me), (MZ, zArr cI 6 mq), (MT, zArr cI 6 mt)] := hD
        refine lv_aload_n hx hb dX3_tryFrom_59 rfl (lv_at hl 0 rfl) ?_
        refine va_get (D := D) (ci := 3) (v := .ref MT) (C := RX3) (T := TX3) (N := 15) hx hb hts (by decide +kernel) hown hK hP 0 rfl rfl 10 (by decide) (hts (.fieldLink RX3 22 "RentHarmonyModel" "tried" "[I") (by decide +kernel)) (fun _ h9 => h9) rfl dX3_tryFrom_60 ?_
        refine zr_ic (n := ((0 : Nat) : Int)) hx hb dX3_tryFrom_63 ?_
        refine lv_aload_n hx hb dX3_tryFrom_64 rfl (lv_at hl 0 rfl) ?_
        refine va_get (D := D) (ci := 3) (v := .ref MR) (C := RX3) (T := TX3) (N := 15) hx hb hts (by decide +kernel) hown hK hP 0 rfl rfl 4 (by decide) (hts (.fieldLink RX3 13 "RentHarmonyModel" "rooms" "[I") (by decide +kernel)) (fun _ h9 => h9) rfl dX3_tryFrom_65 ?_
        refine zr_ic (n := ((0 : Nat) : Int)) hx hb dX3_tryFrom_68 ?_
        refine lv_aload_n hx hb dX3_tryFrom_69 rfl (lv_at hl 0 rfl) ?_
        refine va_get (D := D) (ci := 3) (v := .int (iI ((n : Nat) : Int))) (C := RX3) (T := TX3) (N := 15) hx hb hts (by decide +kernel) hown hK hP 0 rfl rfl 1 (by decide) (hts (.fieldLink RX3 38 "RentHarmonyModel" "lodgers" "I") (by decide +kernel)) (fun _ h9 => h9) rfl dX3_tryFrom_70 ?_
        refine zr_copy (rest := []) hx hb (hml.trans hl.1.symm) hown (hts (.methodLink RX3 70 arraycopyName) (by decide +kernel)) (hts (.native arraycopyName) (by decide +kernel)) (hts (.static arraycopyName) (by decide +kernel)) (hts (.initialized "java/lang/System") (by decide +kernel)) hK hP hD hS 5 2 0 rfl rfl rfl (n) (by omega) (by omega) (by omega) (by decide) (Nat.le_of_ble_eq_true rfl) (by decide +kernel) dX3_tryFrom_73 (fun H locs hP hD hS => ?_)
        have hP : va_P D vwCl [(M, .inr (3, [.int (iI (th)), .int (iI ((n : Nat) : Int)), .int (iI (rc)), .ref MB, .ref MR, .ref ME, .ref MZ, .int (iI (sum)), .int (iI ((1 : Nat) : Int)), .int (iI (po)), .ref MT, .int (iI (fe)), .int (iI (wh)), .int (iI (wi)), .int (iI (mu))])), (MB, zArr cI 36 b), (MR, zArr cI 6 (zCpy mt mr (n))), (ME, zArr cI 6 me), (MZ, zArr cI 6 mq), (MT, zArr cI 6 mt)] H := hP
        have hD : va_D A [(M, .inr (3, [.int (iI (th)), .int (iI ((n : Nat) : Int)), .int (iI (rc)), .ref MB, .ref MR, .ref ME, .ref MZ, .int (iI (sum)), .int (iI ((1 : Nat) : Int)), .int (iI (po)), .ref MT, .int (iI (fe)), .int (iI (wh)), .int (iI (wi)), .int (iI (mu))])), (MB, zArr cI 36 b), (MR, zArr cI 6 (zCpy mt mr (n))), (ME, zArr cI 6 me), (MZ, zArr cI 6 mq), (MT, zArr cI 6 mt)] := hD
        exact zWv_ret hx hb hr hlocks hS dX3_tryFrom_76 (sum, ((1 : Nat) : Int), (zCpy mt mr (n)), mt) ⟨by show zStep n pre sum (zG n (zAl wh wi mu) (zVf b fe) (n - 4) 4 (zTk mt 4)) wo wy mr _ _ _; rw [e0]; exact hlf.1 (by omega), fun _ _ => rfl, by show -1 ≤ _ ∧ _ ≤ (6000 : Int); omega⟩ hP
      · exact absurd c15 (by omega)
set_option maxHeartbeats 4000000 in
set_option maxRecDepth 100000 in
/-- X3_tryFrom -/
theorem c_X3_tryFrom_3 (l : Launch) (D : va_G) (cI : ClassId) (M MB MR ME MZ MT n : Nat) (b mr me mq mt : Nat → Int) (th rc wo wy po fe wh wi mu : Int) (pre : List Nat) (sum : Int) (hn : n ≤ 6) (hb0 : ∀ k, 0 ≤ b k ∧ b k ≤ 999) (hkn : 3 ≤ n) (hlen : pre.length = 3) (hpre : ∀ j, j < 3 → mt j = ((pre.getD j 0 : Nat) : Int)) (hpl : ∀ j, j < 3 → pre.getD j 0 < 6) (hsum : 0 ≤ sum ∧ sum ≤ 999 * 3) (hwo : -1 ≤ wo ∧ wo ≤ 6000) (hfe : zB fe) (hwh : zB wh) (hwi : zB wi) (hmu : 0 ≤ mu ∧ mu ≤ 1) : zWv (S := Int × Int × (Nat → Int) × (Nat → Int)) l yX3_tryFrom wsX3_tryFrom 4 99 D cI [.ref M, .int (iI ((3 : Nat) : Int)), .int (iI (sum))] [(M, .inr (3, [.int (iI (th)), .int (iI ((n : Nat) : Int)), .int (iI (rc)), .ref MB, .ref MR, .ref ME, .ref MZ, .int (iI (wo)), .int (iI (wy)), .int (iI (po)), .ref MT, .int (iI (fe)), .int (iI (wh)), .int (iI (wi)), .int (iI (mu))])), (MB, zArr cI 36 b), (MR, zArr cI 6 mr), (ME, zArr cI 6 me), (MZ, zArr cI 6 mq), (MT, zArr cI 6 mt)] (fun u8 => zStep n pre sum (zG n (zAl wh wi mu) (zVf b fe) (n - 3) 3 (zTk mt 3)) wo wy mr u8.1 u8.2.1 u8.2.2.1 ∧ (∀ j, j < 3 → u8.2.2.2 j = mt j) ∧ (-1 ≤ u8.1 ∧ u8.1 ≤ 6000)) (fun u8 => [(M, .inr (3, [.int (iI (th)), .int (iI ((n : Nat) : Int)), .int (iI (rc)), .ref MB, .ref MR, .ref ME, .ref MZ, .int (iI (u8.1)), .int (iI (u8.2.1)), .int (iI (po)), .ref MT, .int (iI (fe)), .int (iI (wh)), .int (iI (wi)), .int (iI (mu))])), (MB, zArr cI 36 b), (MR, zArr cI 6 u8.2.2.1), (ME, zArr cI 6 me), (MZ, zArr cI 6 mq), (MT, zArr cI 6 u8.2.2.2)]) := by
  refine zWv_of (cc := cX3_tryFrom) (maxL := 4) (by decide) rfl (Nat.le_of_ble_eq_true rfl) ?_
  intro p e s m args below meth c ls A hF hr hlocks hP hK hD hS hl
  have hF : zFix p m c cX3_tryFrom 4 s args wsX3_tryFrom RX3 := hF
  obtain ⟨hx, hb, hml, hown, hts⟩ := id hF
  have hP : va_P D vwCl [(M, .inr (3, [.int (iI (th)), .int (iI ((n : Nat) : Int)), .int (iI (rc)), .ref MB, .ref MR, .ref ME, .ref MZ, .int (iI (wo)), .int (iI (wy)), .int (iI (po)), .ref MT, .int (iI (fe)), .int (iI (wh)), .int (iI (wi)), .int (iI (mu))])), (MB, zArr cI 36 b), (MR, zArr cI 6 mr), (ME, zArr cI 6 me), (MZ, zArr cI 6 mq), (MT, zArr cI 6 mt)] s.heap := hP
  have hD : va_D A [(M, .inr (3, [.int (iI (th)), .int (iI ((n : Nat) : Int)), .int (iI (rc)), .ref MB, .ref MR, .ref ME, .ref MZ, .int (iI (wo)), .int (iI (wy)), .int (iI (po)), .ref MT, .int (iI (fe)), .int (iI (wh)), .int (iI (wi)), .int (iI (mu))])), (MB, zArr cI 36 b), (MR, zArr cI 6 mr), (ME, zArr cI 6 me), (MZ, zArr cI 6 mq), (MT, zArr cI 6 mt)] := hD
  skip
  have hl : lv_has ls 4 [(0, .ref M), (1, .int (iI ((3 : Nat) : Int))), (2, .int (iI (sum)))] := hl
  have hfe1 := hfe.1
  have hfe2 := hfe.2
  refine lv_iload_n hx hb dX3_tryFrom_0 rfl (lv_at hl 1 rfl) ?_
  refine lv_aload_n hx hb dX3_tryFrom_1 rfl (lv_at hl 0 rfl) ?_
  refine va_get (D := D) (ci := 3) (v := .int (iI ((n : Nat) : Int))) (C := RX3) (T := TX3) (N := 15) hx hb hts (by decide +kernel) hown hK hP 0 rfl rfl 1 (by decide) (hts (.fieldLink RX3 38 "RentHarmonyModel" "lodgers" "I") (by decide +kernel)) (fun _ h9 => h9) rfl dX3_tryFrom_2 ?_
  refine zr_icmp_ne (tgt := 77) hx hb dX3_tryFrom_5 (by decide) (zB_of (by omega) (by omega)) (zB_of (by omega) (by omega)) (fun c1 => ?_) (fun c1 => ?_)
  · have hlt : 3 < n := by omega
    refine zr_ic (n := ((0 : Nat) : Int)) hx hb dX3_tryFrom_77 ?_
    refine lv_istore_n (lv' := [(3, .int (iI ((0 : Nat) : Int))), (0, .ref M), (1, .int (iI ((3 : Nat) : Int))), (2, .int (iI (sum)))]) hx hb dX3_tryFrom_78 rfl hl (by decide) rfl (fun ls hl => ?_)
    have LT : ∀ (k0 : Nat) (r : Nat) (wo1 : Int) (wy1 : Int) (ro1 : Nat → Int) (mt1 : Nat → Int), n - r < k0 → (hr1 : r ≤ n) → (hst : zStep n pre sum (zFold (zFF n b fe wh wi mu mt 3) r) wo wy mr wo1 wy1 ro1) → (hmt1 : ∀ j, j < 3 → mt1 j = mt j) → (hwo1 : -1 ≤ wo1 ∧ wo1 ≤ 6000) → ∀ (H : Heap) (locs : List Loc), va_P D vwCl [(M, .inr (3, [.int (iI (th)), .int (iI ((n : Nat) : Int)), .int (iI (rc)), .ref MB, .ref MR, .ref ME, .ref MZ, .int (iI (wo1)), .int (iI (wy1)), .int (iI (po)), .ref MT, .int (iI (fe)), .int (iI (wh)), .int (iI (wi)), .int (iI (mu))])), (MB, zArr cI 36 b), (MR, zArr cI 6 ro1), (ME, zArr cI 6 me), (MZ, zArr cI 6 mq), (MT, zArr cI 6 mt1)] H → va_D A [(M, .inr (3, [.int (iI (th)), .int (iI ((n : Nat) : Int)), .int (iI (rc)), .ref MB, .ref MR, .ref ME, .ref MZ, .int (iI (wo1)), .int (iI (wy1)), .int (iI (po)), .ref MT, .int (iI (fe)), .int (iI (wh)), .int (iI (wi)), .int (iI (mu))])), (MB, zArr cI 36 b), (MR, zArr cI 6 ro1), (ME, zArr cI 6 me), (MZ, zArr cI 6 mq), (MT, zArr cI 6 mt1)] → va_S A s.heap H locs → ∀ (ls : Array Slot), lv_has ls 4 [(0, .ref M), (1, .int (iI ((3 : Nat) : Int))), (2, .int (iI (sum))), (3, .int (iI ((r : Nat) : Int)))] → W p l e (zRm 4 99) s m args below meth c H locs 0 0 (MQ below (va_Qv (S := Int × Int × (Nat → Int) × (Nat → Int)) (fun u8 => zStep n pre sum (zG n (zAl wh wi mu) (zVf b fe) (n - 3) 3 (zTk mt 3)) wo wy mr u8.1 u8.2.1 u8.2.2.1 ∧ (∀ j, j < 3 → u8.2.2.2 j = mt j) ∧ (-1 ≤ u8.1 ∧ u8.1 ≤ 6000)) (fun u9 t9 => va_P D vwCl ((fun u8 => [(M, .inr (3, [.int (iI (th)), .int (iI ((n : Nat) : Int)), .int (iI (rc)), .ref MB, .ref MR, .ref ME, .ref MZ, .int (iI (u8.1)), .int (iI (u8.2.1)), .int (iI (po)), .ref MT, .int (iI (fe)), .int (iI (wh)), .int (iI (wi)), .int (iI (mu))])), (MB, zArr cI 36 b), (MR, zArr cI 6 u8.2.2.1), (ME, zArr cI 6 me), (MZ, zArr cI 6 mq), (MT, zArr cI 6 u8.2.2.2)]) u9) t9.heap) A) args s 0 0 A) (F0 m 79 ls []) := by
      intro k0
      induction k0 with
      | zero => intro r wo1 wy1 ro1 mt1 hk; exact absurd hk (Nat.not_lt_zero _)
      | succ k0 ih_LT =>
        intro r wo1 wy1 ro1 mt1 hk hr1 hst hmt1 hwo1 H locs hP hD hS ls hl
        refine lv_iload_n hx hb dX3_tryFrom_79 rfl (lv_at hl 3 rfl) ?_
        refine lv_aload_n hx hb dX3_tryFrom_80 rfl (lv_at hl 0 rfl) ?_
        refine va_get (D := D) (ci := 3) (v := .int (iI ((n : Nat) : Int))) (C := RX3) (T := TX3) (N := 15) hx hb hts (by decide +kernel) hown hK hP 0 rfl rfl 1 (by decide) (hts (.fieldLink RX3 38 "RentHarmonyModel" "lodgers" "I") (by decide +kernel)) (fun _ h9 => h9) rfl dX3_tryFrom_81 ?_
        refine zr_icmp_ge (tgt := 139) hx hb dX3_tryFrom_84 (by decide) (zB_of (by omega) (by omega)) (zB_of (by omega) (by omega)) (fun c2 => ?_) (fun c2 => ?_)
        · exact zWv_ret hx hb hr hlocks hS dX3_tryFrom_139 (wo1, wy1, ro1, mt1) ⟨by have e9 : r = n := (by omega); rw [zG_FF hlt]; rw [e9] at hst; exact hst, hmt1, hwo1⟩ hP
        · refine lv_aload_n hx hb dX3_tryFrom_87 rfl (lv_at hl 0 rfl) ?_
          refine lv_iload_n hx hb dX3_tryFrom_88 rfl (lv_at hl 1 rfl) ?_
          refine lv_iload_n hx hb dX3_tryFrom_89 rfl (lv_at hl 3 rfl) ?_
          have hmtb : ∀ j, j < 3 → 0 ≤ mt1 j ∧ mt1 j ≤ 6 := fun j hj => by rw [hmt1 j hj, hpre j hj]; have := hpl j hj; omega
          have eT : zTk mt1 3 = zTk mt 3 := zTk_congr 3 hmt1
          refine zc_ri (As := [.int (iI ((3 : Nat) : Int)), .int (iI ((r : Nat) : Int))]) (rest := []) hF (c_X3_isTaken l D cI M MB MR ME MZ MT n b ro1 me mq mt1 th rc wo1 wy1 po fe wh wi mu 3 r (by omega) (by omega) (by assumption) (by assumption) (by assumption) (by assumption)) (cwV 2 hts gX3_tryFrom_X3_isTaken rfl rfl rfl (by decide +kernel) ⟨Nat.le_of_ble_eq_true rfl, Nat.le_of_ble_eq_true rfl⟩) hK hP [0, 1, 2, 3, 4, 5] rfl 0 rfl 0 rfl rfl rfl rfl hl.1 rfl (Nat.le_of_ble_eq_true rfl) dX3_tryFrom_90 ⟨Nat.zero_le _, Nat.zero_le _⟩ ?_
          refine zr_ifB_eq (tgt := 99) hx hb dX3_tryFrom_93 (by decide)  (fun c3 => ?_) (fun c3 => ?_)
          · have hP9 := c3
            rw [eT] at hP9
            refine lv_aload_n hx hb dX3_tryFrom_99 rfl (lv_at hl 0 rfl) ?_
            refine va_get (D := D) (ci := 3) (v := .ref MT) (C := RX3) (T := TX3) (N := 15) hx hb hts (by decide +kernel) hown hK hP 0 rfl rfl 10 (by decide) (hts (.fieldLink RX3 22 "RentHarmonyModel" "tried" "[I") (by decide +kernel)) (fun _ h9 => h9) rfl dX3_tryFrom_100 ?_
            refine lv_iload_n hx hb dX3_tryFrom_103 rfl (lv_at hl 1 rfl) ?_
            refine lv_iload_n hx hb dX3_tryFrom_104 rfl (lv_at hl 3 rfl) ?_
            refine zr_iast hx hb hK hP hD hS 5 0 rfl rfl (3) (by omega) (by omega) (by omega) dX3_tryFrom_105 (fun H locs hP hD hS => ?_)
            have hP : va_P D vwCl [(M, .inr (3, [.int (iI (th)), .int (iI ((n : Nat) : Int)), .int (iI (rc)), .ref MB, .ref MR, .ref ME, .ref MZ, .int (iI (wo1)), .int (iI (wy1)), .int (iI (po)), .ref MT, .int (iI (fe)), .int (iI (wh)), .int (iI (wi)), .int (iI (mu))])), (MB, zArr cI 36 b), (MR, zArr cI 6 ro1), (ME, zArr cI 6 me), (MZ, zArr cI 6 mq), (MT, zArr cI 6 (uZ mt1 (3) ((r : Nat) : Int)))] H := hP
            have hD : va_D A [(M, .inr (3, [.int (iI (th)), .int (iI ((n : Nat) : Int)), .int (iI (rc)), .ref MB, .ref MR, .ref ME, .ref MZ, .int (iI (wo1)), .int (iI (wy1)), .int (iI (po)), .ref MT, .int (iI (fe)), .int (iI (wh)), .int (iI (wi)), .int (iI (mu))])), (MB, zArr cI 36 b), (MR, zArr cI 6 ro1), (ME, zArr cI 6 me), (MZ, zArr cI 6 mq), (MT, zArr cI 6 (uZ mt1 (3) ((r : Nat) : Int)))] := hD
            refine lv_aload_n hx hb dX3_tryFrom_106 rfl (lv_at hl 0 rfl) ?_
            refine lv_iload_n hx hb dX3_tryFrom_107 rfl (lv_at hl 1 rfl) ?_
            refine zr_ic (n := ((1 : Nat) : Int)) hx hb dX3_tryFrom_108 ?_
            refine zr_addN (x := 3) (y := 1) hx hb dX3_tryFrom_109 ?_
            refine zr_topi (show ((3 + 1 : Nat) : Int) = ((4 : Nat) : Int) from rfl) ?_
            refine lv_iload_n hx hb dX3_tryFrom_110 rfl (lv_at hl 2 rfl) ?_
            refine lv_iload_n hx hb dX3_tryFrom_111 rfl (lv_at hl 1 rfl) ?_
            refine lv_aload_n hx hb dX3_tryFrom_112 rfl (lv_at hl 0 rfl) ?_
            refine va_get (D := D) (ci := 3) (v := .int (iI (fe))) (C := RX3) (T := TX3) (N := 15) hx hb hts (by decide +kernel) hown hK hP 0 rfl rfl 11 (by decide) (hts (.fieldLink RX3 25 "RentHarmonyModel" "free" "I") (by decide +kernel)) (fun _ h9 => h9) rfl dX3_tryFrom_113 ?_
            refine zr_icmp_ne (tgt := 123) hx hb dX3_tryFrom_116 (by decide) (zB_of (by omega) (by omega)) (zB_of (by omega) (by omega)) (fun c4 => ?_) (fun c4 => ?_)
            · have hf9 := c4
              refine lv_aload_n hx hb dX3_tryFrom_123 rfl (lv_at hl 0 rfl) ?_
              refine lv_iload_n hx hb dX3_tryFrom_124 rfl (lv_at hl 1 rfl) ?_
              refine lv_iload_n hx hb dX3_tryFrom_125 rfl (lv_at hl 3 rfl) ?_
              refine zc_ri (As := [.int (iI ((3 : Nat) : Int)), .int (iI ((r : Nat) : Int))]) (rest := [.int (iI (sum)), .int (iI ((4 : Nat) : Int)), .ref M]) hF (c_X3_bi l D cI M MB MR ME MZ MT n b ro1 me mq (uZ mt1 (3) ((r : Nat) : Int)) th rc wo1 wy1 po fe wh wi mu 3 r (by omega) (by omega)) (cwV 2 hts gX3_tryFrom_X3_bi rfl rfl rfl (by decide +kernel) ⟨Nat.le_of_ble_eq_true rfl, Nat.le_of_ble_eq_true rfl⟩) hK hP [0, 1, 2, 3, 4, 5] rfl 0 rfl 0 rfl rfl rfl rfl hl.1 rfl (Nat.le_of_ble_eq_true rfl) dX3_tryFrom_126 ⟨Nat.zero_le _, Nat.zero_le _⟩ ?_
              refine zr_topi (show (b (3 * 6 + r)) = (zVf b fe 3 r) from by unfold zVf; rw [if_neg hf9]) ?_
              have hvb := zVf_b hb0 fe 3 r
              refine zr_add hx hb dX3_tryFrom_129 ?_
              refine zc_wv (As := [.int (iI ((4 : Nat) : Int)), .int (iI (sum + (zVf b fe 3 r)))]) (rest := []) hF (c_X3_tryFrom_4 l D cI M MB MR ME MZ MT n b ro1 me mq (uZ mt1 (3) ((r : Nat) : Int)) th rc wo1 wy1 po fe wh wi mu (pre ++ [r]) (sum + (zVf b fe 3 r)) (by omega) (by assumption) (by omega) (by rw [List.length_append, hlen]; rfl) (zSnoc hlen (fun j hj => (hmt1 j hj).trans (hpre j hj))) (zSnoc_lt hlen hpl (by omega)) (by omega) (by omega) (by assumption) (by assumption) (by assumption) (by assumption)) (cwV 2 hts gX3_tryFrom_X3_tryFrom rfl rfl rfl (by decide +kernel) ⟨Nat.le_of_ble_eq_true rfl, Nat.le_of_ble_eq_true rfl⟩) hK hP hD hS [0, 1, 2, 3, 4, 5] rfl rfl (fun _ => rfl) 0 rfl 0 rfl rfl rfl rfl hl.1 rfl (Nat.le_of_ble_eq_true rfl) dX3_tryFrom_130 ⟨Nat.zero_le _, Nat.zero_le _⟩ (fun u5 H locs hw hP hD hS => ?_)
              obtain ⟨wo7, wy7, ro7, mt7⟩ := u5
              obtain ⟨hs7, hm7, hb7⟩ := hw
              have hP : va_P D vwCl [(M, .inr (3, [.int (iI (th)), .int (iI ((n : Nat) : Int)), .int (iI (rc)), .ref MB, .ref MR, .ref ME, .ref MZ, .int (iI (wo7)), .int (iI (wy7)), .int (iI (po)), .ref MT, .int (iI (fe)), .int (iI (wh)), .int (iI (wi)), .int (iI (mu))])), (MB, zArr cI 36 b), (MR, zArr cI 6 ro7), (ME, zArr cI 6 me), (MZ, zArr cI 6 mq), (MT, zArr cI 6 mt7)] H := hP
              have hD : va_D A [(M, .inr (3, [.int (iI (th)), .int (iI ((n : Nat) : Int)), .int (iI (rc)), .ref MB, .ref MR, .ref ME, .ref MZ, .int (iI (wo7)), .int (iI (wy7)), .int (iI (po)), .ref MT, .int (iI (fe)), .int (iI (wh)), .int (iI (wi)), .int (iI (mu))])), (MB, zArr cI 36 b), (MR, zArr cI 6 ro7), (ME, zArr cI 6 me), (MZ, zArr cI 6 mq), (MT, zArr cI 6 mt7)] := hD
              have hs9 : zStep n pre sum (zFF n b fe wh wi mu mt 3 r) wo1 wy1 ro1 wo7 wy7 ro7 := by
                have h9 : zStep n (pre ++ [r]) (sum + zVf b fe 3 r) (zG n (zAl wh wi mu) (zVf b fe) (n - 4) 4 (zTk (uZ mt1 3 ((r : Nat) : Int)) (3 + 1))) wo1 wy1 ro1 wo7 wy7 ro7 := hs7
                rw [zTk_add, eT] at h9
                unfold zFF; rw [if_neg hP9]; exact zStep_deep h9
              have hm9 : ∀ j, j < 3 → mt7 j = mt j := fun j hj => (hm7 j (by omega)).trans ((uZ_n _ _ (by omega)).trans (hmt1 j hj))
              have hb9 := hb7
              refine zr_iinc (lv2 := [(3, .int (iI (((r : Nat) : Int) + 1))), (0, .ref M), (1, .int (iI ((3 : Nat) : Int))), (2, .int (iI (sum)))]) hx hb dX3_tryFrom_133 hl (k0 := 3) rfl (by decide) rfl (fun ls hl => ?_)
              have hl : lv_has ls 4 [(3, .int (iI ((r + 1 : Nat) : Int))), (0, .ref M), (1, .int (iI ((3 : Nat) : Int))), (2, .int (iI (sum)))] := hl
              refine lv_goto (tgt := 79) hx hb dX3_tryFrom_136 (by decide) ?_
              exact ih_LT (r + 1) (wo7) (wy7) (ro7) (mt7) (by omega) (by omega) (zStep_comb hst hs9) hm9 hb9 _ _ hP hD hS _ (lv_sub hl [1, 2, 3, 0] rfl)
            · have hf9 := c4
              refine zr_ic (n := ((0 : Nat) : Int)) hx hb dX3_tryFrom_119 ?_
              refine lv_goto (tgt := 129) hx hb dX3_tryFrom_120 (by decide) ?_
              refine zr_topi (show ((0 : Nat) : Int) = (zVf b fe 3 r) from by unfold zVf; rw [if_pos hf9]; rfl) ?_
              have hvb := zVf_b hb0 fe 3 r
              refine zr_add hx hb dX3_tryFrom_129 ?_
              refine zc_wv (As := [.int (iI ((4 : Nat) : Int)), .int (iI (sum + (zVf b fe 3 r)))]) (rest := []) hF (c_X3_tryFrom_4 l D cI M MB MR ME MZ MT n b ro1 me mq (uZ mt1 (3) ((r : Nat) : Int)) th rc wo1 wy1 po fe wh wi mu (pre ++ [r]) (sum + (zVf b fe 3 r)) (by omega) (by assumption) (by omega) (by rw [List.length_append, hlen]; rfl) (zSnoc hlen (fun j hj => (hmt1 j hj).trans (hpre j hj))) (zSnoc_lt hlen hpl (by omega)) (by omega) (by omega) (by assumption) (by assumption) (by assumption) (by assumption)) (cwV 2 hts gX3_tryFrom_X3_tryFrom rfl rfl rfl (by decide +kernel) ⟨Nat.le_of_ble_eq_true rfl, Nat.le_of_ble_eq_true rfl⟩) hK hP hD hS [0, 1, 2, 3, 4, 5] rfl rfl (fun _ => rfl) 0 rfl 0 rfl rfl rfl rfl hl.1 rfl (Nat.le_of_ble_eq_true rfl) dX3_tryFrom_130 ⟨Nat.zero_le _, Nat.zero_le _⟩ (fun u8 H locs hw hP hD hS => ?_)
              obtain ⟨wo10, wy10, ro10, mt10⟩ := u8
              obtain ⟨hs10, hm10, hb10⟩ := hw
              have hP : va_P D vwCl [(M, .inr (3, [.int (iI (th)), .int (iI ((n : Nat) : Int)), .int (iI (rc)), .ref MB, .ref MR, .ref ME, .ref MZ, .int (iI (wo10)), .int (iI (wy10)), .int (iI (po)), .ref MT, .int (iI (fe)), .int (iI (wh)), .int (iI (wi)), .int (iI (mu))])), (MB, zArr cI 36 b), (MR, zArr cI 6 ro10), (ME, zArr cI 6 me), (MZ, zArr cI 6 mq), (MT, zArr cI 6 mt10)] H := hP
              have hD : va_D A [(M, .inr (3, [.int (iI (th)), .int (iI ((n : Nat) : Int)), .int (iI (rc)), .ref MB, .ref MR, .ref ME, .ref MZ, .int (iI (wo10)), .int (iI (wy10)), .int (iI (po)), .ref MT, .int (iI (fe)), .int (iI (wh)), .int (iI (wi)), .int (iI (mu))])), (MB, zArr cI 36 b), (MR, zArr cI 6 ro10), (ME, zArr cI 6 me), (MZ, zArr cI 6 mq), (MT, zArr cI 6 mt10)] := hD
              have hs9 : zStep n pre sum (zFF n b fe wh wi mu mt 3 r) wo1 wy1 ro1 wo10 wy10 ro10 := by
                have h9 : zStep n (pre ++ [r]) (sum + zVf b fe 3 r) (zG n (zAl wh wi mu) (zVf b fe) (n - 4) 4 (zTk (uZ mt1 3 ((r : Nat) : Int)) (3 + 1))) wo1 wy1 ro1 wo10 wy10 ro10 := hs10
                rw [zTk_add, eT] at h9
                unfold zFF; rw [if_neg hP9]; exact zStep_deep h9
              have hm9 : ∀ j, j < 3 → mt10 j = mt j := fun j hj => (hm10 j (by omega)).trans ((uZ_n _ _ (by omega)).trans (hmt1 j hj))
              have hb9 := hb10
              refine zr_iinc (lv2 := [(3, .int (iI (((r : Nat) : Int) + 1))), (0, .ref M), (1, .int (iI ((3 : Nat) : Int))), (2, .int (iI (sum)))]) hx hb dX3_tryFrom_133 hl (k0 := 3) rfl (by decide) rfl (fun ls hl => ?_)
              have hl : lv_has ls 4 [(3, .int (iI ((r + 1 : Nat) : Int))), (0, .ref M), (1, .int (iI ((3 : Nat) : Int))), (2, .int (iI (sum)))] := hl
              refine lv_goto (tgt := 79) hx hb dX3_tryFrom_136 (by decide) ?_
              exact ih_LT (r + 1) (wo10) (wy10) (ro10) (mt10) (by omega) (by omega) (zStep_comb hst hs9) hm9 hb9 _ _ hP hD hS _ (lv_sub hl [1, 2, 3, 0] rfl)
          · have hP9 := c3
            rw [eT] at hP9
            refine lv_goto (tgt := 133) hx hb dX3_tryFrom_96 (by decide) ?_
            refine zr_iinc (lv2 := [(3, .int (iI (((r : Nat) : Int) + 1))), (0, .ref M), (1, .int (iI ((3 : Nat) : Int))), (2, .int (iI (sum)))]) hx hb dX3_tryFrom_133 hl (k0 := 3) rfl (by decide) rfl (fun ls hl => ?_)
            have hl : lv_has ls 4 [(3, .int (iI ((r + 1 : Nat) : Int))), (0, .ref M), (1, .int (iI ((3 : Nat) : Int))), (2, .int (iI (sum)))] := hl
            refine lv_goto (tgt := 79) hx hb dX3_tryFrom_136 (by decide) ?_
            exact ih_LT (r + 1) (wo1) (wy1) (ro1) (mt1) (by omega) (by omega) (zStep_comb hst (by unfold zFF; rw [if_pos hP9]; exact zStep_none)) hmt1 hwo1 _ _ hP hD hS _ (lv_sub hl [1, 2, 3, 0] rfl)
    exact LT ((n - (0)) + 1) (0) (wo) (wy) (mr) (mt) (Nat.lt_succ_self _) (Nat.zero_le _) ⟨rfl, rfl, rfl⟩ (fun _ _ => rfl) hwo _ _ hP hD hS _ (lv_sub hl [1, 2, 3, 0] rfl)
  · have hkn2 : 3 = n := by omega
    have e0 : n - 3 = 0 := by omega
    have hlf := zStep_leaf (sum := sum) (w := wo) (y := wy) (ro := mr) (hlen.trans hkn2) (fun j hj => hpre j (by omega))
    refine lv_aload_n hx hb dX3_tryFrom_8 rfl (lv_at hl 0 rfl) ?_
    refine lv_iload_n hx hb dX3_tryFrom_9 rfl (lv_at hl 2 rfl) ?_
    refine lv_aload_n hx hb dX3_tryFrom_10 rfl (lv_at hl 0 rfl) ?_
    refine va_get (D := D) (ci := 3) (v := .int (iI (wo))) (C := RX3) (T := TX3) (N := 15) hx hb hts (by decide +kernel) hown hK hP 0 rfl rfl 7 (by decide) (hts (.fieldLink RX3 64 "RentHarmonyModel" "worth" "I") (by decide +kernel)) (fun _ h9 => h9) rfl dX3_tryFrom_11 ?_
    refine zr_icmp_le (tgt := 21) hx hb dX3_tryFrom_14 (by decide) (zB_of (by omega) (by omega)) (zB_of (by omega) (by omega)) (fun c11 => ?_) (fun c11 => ?_)
    · refine lv_iload_n hx hb dX3_tryFrom_21 rfl (lv_at hl 2 rfl) ?_
      refine lv_aload_n hx hb dX3_tryFrom_22 rfl (lv_at hl 0 rfl) ?_
      refine va_get (D := D) (ci := 3) (v := .int (iI (wo))) (C := RX3) (T := TX3) (N := 15) hx hb hts (by decide +kernel) hown hK hP 0 rfl rfl 7 (by decide) (hts (.fieldLink RX3 64 "RentHarmonyModel" "worth" "I") (by decide +kernel)) (fun _ h9 => h9) rfl dX3_tryFrom_23 ?_
      refine zr_icmp_ne (tgt := 38) hx hb dX3_tryFrom_26 (by decide) (zB_of (by omega) (by omega)) (zB_of (by omega) (by omega)) (fun c12 => ?_) (fun c12 => ?_)
      · have hcmp := c12
        refine lv_aload_n hx hb dX3_tryFrom_38 rfl (lv_at hl 0 rfl) ?_
        refine va_get (D := D) (ci := 3) (v := .int (iI (wy))) (C := RX3) (T := TX3) (N := 15) hx hb hts (by decide +kernel) hown hK hP 0 rfl rfl 8 (by decide) (hts (.fieldLink RX3 67 "RentHarmonyModel" "ways" "I") (by decide +kernel)) (fun _ h9 => h9) rfl dX3_tryFrom_39 ?_
        refine va_put (D := D) (ci := 3) (v := .int (iI (wy))) (ty := .int) (C := RX3) (T := TX3) (N := 15) hx hb hts (by decide +kernel) tyX3 tyX3_ok nmX3 hown hK hP hD hS 0 rfl rfl 8 (by decide) (hts (.fieldLink RX3 67 "RentHarmonyModel" "ways" "I") (by decide +kernel)) (fun _ h9 => h9) rfl (by decide +kernel) rfl rfl (Nat.le_of_ble_eq_true rfl) dX3_tryFrom_42 (fun H locs hP hD hS => ?_)
        have hP : va_P D vwCl [(M, .inr (3, [.int (iI (th)), .int (iI ((n : Nat) : Int)), .int (iI (rc)), .ref MB, .ref MR, .ref ME, .ref MZ, .int (iI (wo)), .int (iI (wy)), .int (iI (po)), .ref MT, .int (iI (fe)), .int (iI (wh)), .int (iI (wi)), .int (iI (mu))])), (MB, zArr cI 36 b), (MR, zArr cI 6 mr), (ME, zArr cI 6 me), (MZ, zArr cI 6 mq), (MT, zArr cI 6 mt)] H := hP
        have hD : va_D A [(M, .inr (3, [.int (iI (th)), .int (iI ((n : Nat) : Int)), .int (iI (rc)), .ref MB, .ref MR, .ref ME, .ref MZ, .int (iI (wo)), .int (iI (wy)), .int (iI (po)), .ref MT, .int (iI (fe)), .int (iI (wh)), .int (iI (wi)), .int (iI (mu))])), (MB, zArr cI 36 b), (MR, zArr cI 6 mr), (ME, zArr cI 6 me), (MZ, zArr cI 6 mq), (MT, zArr cI 6 mt)] := hD
        refine lv_iload_n hx hb dX3_tryFrom_45 rfl (lv_at hl 2 rfl) ?_
        refine lv_aload_n hx hb dX3_tryFrom_46 rfl (lv_at hl 0 rfl) ?_
        refine va_get (D := D) (ci := 3) (v := .int (iI (wo))) (C := RX3) (T := TX3) (N := 15) hx hb hts (by decide +kernel) hown hK hP 0 rfl rfl 7 (by decide) (hts (.fieldLink RX3 64 "RentHarmonyModel" "worth" "I") (by decide +kernel)) (fun _ h9 => h9) rfl dX3_tryFrom_47 ?_
        refine zr_icmp_gt (tgt := 54) hx hb dX3_tryFrom_50 (by decide) (zB_of (by omega) (by omega)) (zB_of (by omega) (by omega)) (fun c13 => ?_) (fun c13 => ?_)
        · exact absurd c13 (by omega)
        · exact zWv_ret hx hb hr hlocks hS dX3_tryFrom_53 (wo, wy, mr, mt) ⟨by show zStep n pre sum (zG n (zAl wh wi mu) (zVf b fe) (n - 3) 3 (zTk mt 3)) wo wy mr _ _ _; rw [e0]; exact hlf.2.2 (by omega), fun _ _ => rfl, by show -1 ≤ _ ∧ _ ≤ (6000 : Int); omega⟩ hP
      · have hcmp := c12
        refine lv_aload_n hx hb dX3_tryFrom_29 rfl (lv_at hl 0 rfl) ?_
        refine va_get (D := D) (ci := 3) (v := .int (iI (wy))) (C := RX3) (T := TX3) (N := 15) hx hb hts (by decide +kernel) hown hK hP 0 rfl rfl 8 (by decide) (hts (.fieldLink RX3 67 "RentHarmonyModel" "ways" "I") (by decide +kernel)) (fun _ h9 => h9) rfl dX3_tryFrom_30 ?_
        refine zr_ic (n := ((1 : Nat) : Int)) hx hb dX3_tryFrom_33 ?_
        refine zr_add hx hb dX3_tryFrom_34 ?_
        refine lv_goto (tgt := 42) hx hb dX3_tryFrom_35 (by decide) ?_
        refine va_put (D := D) (ci := 3) (v := .int (iI (wy + ((1 : Nat) : Int)))) (ty := .int) (C := RX3) (T := TX3) (N := 15) hx hb hts (by decide +kernel) tyX3 tyX3_ok nmX3 hown hK hP hD hS 0 rfl rfl 8 (by decide) (hts (.fieldLink RX3 67 "RentHarmonyModel" "ways" "I") (by decide +kernel)) (fun _ h9 => h9) rfl (by decide +kernel) rfl rfl (Nat.le_of_ble_eq_true rfl) dX3_tryFrom_42 (fun H locs hP hD hS => ?_)
        have hP : va_P D vwCl [(M, .inr (3, [.int (iI (th)), .int (iI ((n : Nat) : Int)), .int (iI (rc)), .ref MB, .ref MR, .ref ME, .ref MZ, .int (iI (wo)), .int (iI (wy + ((1 : Nat) : Int))), .int (iI (po)), .ref MT, .int (iI (fe)), .int (iI (wh)), .int (iI (wi)), .int (iI (mu))])), (MB, zArr cI 36 b), (MR, zArr cI 6 mr), (ME, zArr cI 6 me), (MZ, zArr cI 6 mq), (MT, zArr cI 6 mt)] H := hP
        have hD : va_D A [(M, .inr (3, [.int (iI (th)), .int (iI ((n : Nat) : Int)), .int (iI (rc)), .ref MB, .ref MR, .ref ME, .ref MZ, .int (iI (wo)), .int (iI (wy + ((1 : Nat) : Int))), .int (iI (po)), .ref MT, .int (iI (fe)), .int (iI (wh)), .int (iI (wi)), .int (iI (mu))])), (MB, zArr cI 36 b), (MR, zArr cI 6 mr), (ME, zArr cI 6 me), (MZ, zArr cI 6 mq), (MT, zArr cI 6 mt)] := hD
        refine lv_iload_n hx hb dX3_tryFrom_45 rfl (lv_at hl 2 rfl) ?_
        refine lv_aload_n hx hb dX3_tryFrom_46 rfl (lv_at hl 0 rfl) ?_
        refine va_get (D := D) (ci := 3) (v := .int (iI (wo))) (C := RX3) (T := TX3) (N := 15) hx hb hts (by decide +kernel) hown hK hP 0 rfl rfl 7 (by decide) (hts (.fieldLink RX3 64 "RentHarmonyModel" "worth" "I") (by decide +kernel)) (fun _ h9 => h9) rfl dX3_tryFrom_47 ?_
        refine zr_icmp_gt (tgt := 54) hx hb dX3_tryFrom_50 (by decide) (zB_of (by omega) (by omega)) (zB_of (by omega) (by omega)) (fun c14 => ?_) (fun c14 => ?_)
        · exact absurd c14 (by omega)
        · exact zWv_ret hx hb hr hlocks hS dX3_tryFrom_53 (wo, (wy + ((1 : Nat) : Int)), mr, mt) ⟨by show zStep n pre sum (zG n (zAl wh wi mu) (zVf b fe) (n - 3) 3 (zTk mt 3)) wo wy mr _ _ _; rw [e0]; exact hlf.2.1 (by omega), fun _ _ => rfl, by show -1 ≤ _ ∧ _ ≤ (6000 : Int); omega⟩ hP
    · have hgt := c11
      refine zr_ic (n := ((1 : Nat) : Int)) hx hb dX3_tryFrom_17 ?_
      refine lv_goto (tgt := 42) hx hb dX3_tryFrom_18 (by decide) ?_
      refine va_put (D := D) (ci := 3) (v := .int (iI ((1 : Nat) : Int))) (ty := .int) (C := RX3) (T := TX3) (N := 15) hx hb hts (by decide +kernel) tyX3 tyX3_ok nmX3 hown hK hP hD hS 0 rfl rfl 8 (by decide) (hts (.fieldLink RX3 67 "RentHarmonyModel" "ways" "I") (by decide +kernel)) (fun _ h9 => h9) rfl (by decide +kernel) rfl rfl (Nat.le_of_ble_eq_true rfl) dX3_tryFrom_42 (fun H locs hP hD hS => ?_)
      have hP : va_P D vwCl [(M, .inr (3, [.int (iI (th)), .int (iI ((n : Nat) : Int)), .int (iI (rc)), .ref MB, .ref MR, .ref ME, .ref MZ, .int (iI (wo)), .int (iI ((1 : Nat) : Int)), .int (iI (po)), .ref MT, .int (iI (fe)), .int (iI (wh)), .int (iI (wi)), .int (iI (mu))])), (MB, zArr cI 36 b), (MR, zArr cI 6 mr), (ME, zArr cI 6 me), (MZ, zArr cI 6 mq), (MT, zArr cI 6 mt)] H := hP
      have hD : va_D A [(M, .inr (3, [.int (iI (th)), .int (iI ((n : Nat) : Int)), .int (iI (rc)), .ref MB, .ref MR, .ref ME, .ref MZ, .int (iI (wo)), .int (iI ((1 : Nat) : Int)), .int (iI (po)), .ref MT, .int (iI (fe)), .int (iI (wh)), .int (iI (wi)), .int (iI (mu))])), (MB, zArr cI 36 b), (MR, zArr cI 6 mr), (ME, zArr cI 6 me), (MZ, zArr cI 6 mq), (MT, zArr cI 6 mt)] := hD
      refine lv_iload_n hx hb dX3_tryFrom_45 rfl (lv_at hl 2 rfl) ?_
      refine lv_aload_n hx hb dX3_tryFrom_46 rfl (lv_at hl 0 rfl) ?_
      refine va_get (D := D) (ci := 3) (v := .int (iI (wo))) (C := RX3) (T := TX3) (N := 15) hx hb hts (by decide +kernel) hown hK hP 0 rfl rfl 7 (by decide) (hts (.fieldLink RX3 64 "RentHarmonyModel" "worth" "I") (by decide +kernel)) (fun _ h9 => h9) rfl dX3_tryFrom_47 ?_
      refine zr_icmp_gt (tgt := 54) hx hb dX3_tryFrom_50 (by decide) (zB_of (by omega) (by omega)) (zB_of (by omega) (by omega)) (fun c15 => ?_) (fun c15 => ?_)
      · refine lv_aload_n hx hb dX3_tryFrom_54 rfl (lv_at hl 0 rfl) ?_
        refine lv_iload_n hx hb dX3_tryFrom_55 rfl (lv_at hl 2 rfl) ?_
        refine va_put (D := D) (ci := 3) (v := .int (iI (sum))) (ty := .int) (C := RX3) (T := TX3) (N := 15) hx hb hts (by decide +kernel) tyX3 tyX3_ok nmX3 hown hK hP hD hS 0 rfl rfl 7 (by decide) (hts (.fieldLink RX3 64 "RentHarmonyModel" "worth" "I") (by decide +kernel)) (fun _ h9 => h9) rfl (by decide +kernel) rfl rfl (Nat.le_of_ble_eq_true rfl) dX3_tryFrom_56 (fun H locs hP hD hS => ?_)
        have hP : va_P D vwCl [(M, .inr (3, [.int (iI (th)), .int (iI ((n : Nat) : Int)), .int (iI (rc)), .ref MB, .ref MR, .ref ME, .ref MZ, .int (iI (sum)), .int (iI ((1 : Nat) : Int)), .int (iI (po)), .ref MT, .int (iI (fe)), .int (iI (wh)), .int (iI (wi)), .int (iI (mu))])), (MB, zArr cI 36 b), (MR, zArr cI 6 mr), (ME, zArr cI 6 me), (MZ, zArr cI 6 mq), (MT, zArr cI 6 mt)] H := hP
        have hD : va_D A [(M, .inr (3, [.int (iI (th)), .int (iI ((n : Nat) : Int)), .int (iI (rc)), .ref MB, .ref MR, .ref ME, .ref MZ, .int (iI (sum)), .int (iI ((1 : Nat) : Int)), .int (iI (po)), .ref MT, .int (iI (fe)), .int (iI (wh)), .int (iI (wi)), .int (iI (mu))])), (MB, zArr cI 36 b), (MR, zArr cI 6 mr), (ME, zArr cI 6 me), (MZ, zArr cI 6 mq), (MT, zArr cI 6 mt)] := hD
        refine lv_aload_n hx hb dX3_tryFrom_59 rfl (lv_at hl 0 rfl) ?_
        refine va_get (D := D) (ci := 3) (v := .ref MT) (C := RX3) (T := TX3) (N := 15) hx hb hts (by decide +kernel) hown hK hP 0 rfl rfl 10 (by decide) (hts (.fieldLink RX3 22 "RentHarmonyModel" "tried" "[I") (by decide +kernel)) (fun _ h9 => h9) rfl dX3_tryFrom_60 ?_
        refine zr_ic (n := ((0 : Nat) : Int)) hx hb dX3_tryFrom_63 ?_
        refine lv_aload_n hx hb dX3_tryFrom_64 rfl (lv_at hl 0 rfl) ?_
        refine va_get (D := D) (ci := 3) (v := .ref MR) (C := RX3) (T := TX3) (N := 15) hx hb hts (by decide +kernel) hown hK hP 0 rfl rfl 4 (by decide) (hts (.fieldLink RX3 13 "RentHarmonyModel" "rooms" "[I") (by decide +kernel)) (fun _ h9 => h9) rfl dX3_tryFrom_65 ?_
        refine zr_ic (n := ((0 : Nat) : Int)) hx hb dX3_tryFrom_68 ?_
        refine lv_aload_n hx hb dX3_tryFrom_69 rfl (lv_at hl 0 rfl) ?_
        refine va_get (D := D) (ci := 3) (v := .int (iI ((n : Nat) : Int))) (C := RX3) (T := TX3) (N := 15) hx hb hts (by decide +kernel) hown hK hP 0 rfl rfl 1 (by decide) (hts (.fieldLink RX3 38 "RentHarmonyModel" "lodgers" "I") (by decide +kernel)) (fun _ h9 => h9) rfl dX3_tryFrom_70 ?_
        refine zr_copy (rest := []) hx hb (hml.trans hl.1.symm) hown (hts (.methodLink RX3 70 arraycopyName) (by decide +kernel)) (hts (.native arraycopyName) (by decide +kernel)) (hts (.static arraycopyName) (by decide +kernel)) (hts (.initialized "java/lang/System") (by decide +kernel)) hK hP hD hS 5 2 0 rfl rfl rfl (n) (by omega) (by omega) (by omega) (by decide) (Nat.le_of_ble_eq_true rfl) (by decide +kernel) dX3_tryFrom_73 (fun H locs hP hD hS => ?_)
        have hP : va_P D vwCl [(M, .inr (3, [.int (iI (th)), .int (iI ((n : Nat) : Int)), .int (iI (rc)), .ref MB, .ref MR, .ref ME, .ref MZ, .int (iI (sum)), .int (iI ((1 : Nat) : Int)), .int (iI (po)), .ref MT, .int (iI (fe)), .int (iI (wh)), .int (iI (wi)), .int (iI (mu))])), (MB, zArr cI 36 b), (MR, zArr cI 6 (zCpy mt mr (n))), (ME, zArr cI 6 me), (MZ, zArr cI 6 mq), (MT, zArr cI 6 mt)] H := hP
        have hD : va_D A [(M, .inr (3, [.int (iI (th)), .int (iI ((n : Nat) : Int)), .int (iI (rc)), .ref MB, .ref MR, .ref ME, .ref MZ, .int (iI (sum)), .int (iI ((1 : Nat) : Int)), .int (iI (po)), .ref MT, .int (iI (fe)), .int (iI (wh)), .int (iI (wi)), .int (iI (mu))])), (MB, zArr cI 36 b), (MR, zArr cI 6 (zCpy mt mr (n))), (ME, zArr cI 6 me), (MZ, zArr cI 6 mq), (MT, zArr cI 6 mt)] := hD
        exact zWv_ret hx hb hr hlocks hS dX3_tryFrom_76 (sum, ((1 : Nat) : Int), (zCpy mt mr (n)), mt) ⟨by show zStep n pre sum (zG n (zAl wh wi mu) (zVf b fe) (n - 3) 3 (zTk mt 3)) wo wy mr _ _ _; rw [e0]; exact hlf.1 (by omega), fun _ _ => rfl, by show -1 ≤ _ ∧ _ ≤ (6000 : Int); omega⟩ hP
      · exact absurd c15 (by omega)
set_option maxHeartbeats 4000000 in
set_option maxRecDepth 100000 in
/-- X3_tryFrom -/
theorem c_X3_tryFrom_2 (l : Launch) (D : va_G) (cI : ClassId) (M MB MR ME MZ MT n : Nat) (b mr me mq mt : Nat → Int) (th rc wo wy po fe wh wi mu : Int) (pre : List Nat) (sum : Int) (hn : n ≤ 6) (hb0 : ∀ k, 0 ≤ b k ∧ b k ≤ 999) (hkn : 2 ≤ n) (hlen : pre.length = 2) (hpre : ∀ j, j < 2 → mt j = ((pre.getD j 0 : Nat) : Int)) (hpl : ∀ j, j < 2 → pre.getD j 0 < 6) (hsum : 0 ≤ sum ∧ sum ≤ 999 * 2) (hwo : -1 ≤ wo ∧ wo ≤ 6000) (hfe : zB fe) (hwh : zB wh) (hwi : zB wi) (hmu : 0 ≤ mu ∧ mu ≤ 1) : zWv (S := Int × Int × (Nat → Int) × (Nat → Int)) l yX3_tryFrom wsX3_tryFrom 5 122 D cI [.ref M, .int (iI ((2 : Nat) : Int)), .int (iI (sum))] [(M, .inr (3, [.int (iI (th)), .int (iI ((n : Nat) : Int)), .int (iI (rc)), .ref MB, .ref MR, .ref ME, .ref MZ, .int (iI (wo)), .int (iI (wy)), .int (iI (po)), .ref MT, .int (iI (fe)), .int (iI (wh)), .int (iI (wi)), .int (iI (mu))])), (MB, zArr cI 36 b), (MR, zArr cI 6 mr), (ME, zArr cI 6 me), (MZ, zArr cI 6 mq), (MT, zArr cI 6 mt)] (fun u8 => zStep n pre sum (zG n (zAl wh wi mu) (zVf b fe) (n - 2) 2 (zTk mt 2)) wo wy mr u8.1 u8.2.1 u8.2.2.1 ∧ (∀ j, j < 2 → u8.2.2.2 j = mt j) ∧ (-1 ≤ u8.1 ∧ u8.1 ≤ 6000)) (fun u8 => [(M, .inr (3, [.int (iI (th)), .int (iI ((n : Nat) : Int)), .int (iI (rc)), .ref MB, .ref MR, .ref ME, .ref MZ, .int (iI (u8.1)), .int (iI (u8.2.1)), .int (iI (po)), .ref MT, .int (iI (fe)), .int (iI (wh)), .int (iI (wi)), .int (iI (mu))])), (MB, zArr cI 36 b), (MR, zArr cI 6 u8.2.2.1), (ME, zArr cI 6 me), (MZ, zArr cI 6 mq), (MT, zArr cI 6 u8.2.2.2)]) := by
  refine zWv_of (cc := cX3_tryFrom) (maxL := 4) (by decide) rfl (Nat.le_of_ble_eq_true rfl) ?_
  intro p e s m args below meth c ls A hF hr hlocks hP hK hD hS hl
  have hF : zFix p m c cX3_tryFrom 4 s args wsX3_tryFrom RX3 := hF
  obtain ⟨hx, hb, hml, hown, hts⟩ := id hF
  have hP : va_P D vwCl [(M, .inr (3, [.int (iI (th)), .int (iI ((n : Nat) : Int)), .int (iI (rc)), .ref MB, .ref MR, .ref ME, .ref MZ, .int (iI (wo)), .int (iI (wy)), .int (iI (po)), .ref MT, .int (iI (fe)), .int (iI (wh)), .int (iI (wi)), .int (iI (mu))])), (MB, zArr cI 36 b), (MR, zArr cI 6 mr), (ME, zArr cI 6 me), (MZ, zArr cI 6 mq), (MT, zArr cI 6 mt)] s.heap := hP
  have hD : va_D A [(M, .inr (3, [.int (iI (th)), .int (iI ((n : Nat) : Int)), .int (iI (rc)), .ref MB, .ref MR, .ref ME, .ref MZ, .int (iI (wo)), .int (iI (wy)), .int (iI (po)), .ref MT, .int (iI (fe)), .int (iI (wh)), .int (iI (wi)), .int (iI (mu))])), (MB, zArr cI 36 b), (MR, zArr cI 6 mr), (ME, zArr cI 6 me), (MZ, zArr cI 6 mq), (MT, zArr cI 6 mt)] := hD
  skip
  have hl : lv_has ls 4 [(0, .ref M), (1, .int (iI ((2 : Nat) : Int))), (2, .int (iI (sum)))] := hl
  have hfe1 := hfe.1
  have hfe2 := hfe.2
  refine lv_iload_n hx hb dX3_tryFrom_0 rfl (lv_at hl 1 rfl) ?_
  refine lv_aload_n hx hb dX3_tryFrom_1 rfl (lv_at hl 0 rfl) ?_
  refine va_get (D := D) (ci := 3) (v := .int (iI ((n : Nat) : Int))) (C := RX3) (T := TX3) (N := 15) hx hb hts (by decide +kernel) hown hK hP 0 rfl rfl 1 (by decide) (hts (.fieldLink RX3 38 "RentHarmonyModel" "lodgers" "I") (by decide +kernel)) (fun _ h9 => h9) rfl dX3_tryFrom_2 ?_
  refine zr_icmp_ne (tgt := 77) hx hb dX3_tryFrom_5 (by decide) (zB_of (by omega) (by omega)) (zB_of (by omega) (by omega)) (fun c1 => ?_) (fun c1 => ?_)
  · have hlt : 2 < n := by omega
    refine zr_ic (n := ((0 : Nat) : Int)) hx hb dX3_tryFrom_77 ?_
    refine lv_istore_n (lv' := [(3, .int (iI ((0 : Nat) : Int))), (0, .ref M), (1, .int (iI ((2 : Nat) : Int))), (2, .int (iI (sum)))]) hx hb dX3_tryFrom_78 rfl hl (by decide) rfl (fun ls hl => ?_)
    have LT : ∀ (k0 : Nat) (r : Nat) (wo1 : Int) (wy1 : Int) (ro1 : Nat → Int) (mt1 : Nat → Int), n - r < k0 → (hr1 : r ≤ n) → (hst : zStep n pre sum (zFold (zFF n b fe wh wi mu mt 2) r) wo wy mr wo1 wy1 ro1) → (hmt1 : ∀ j, j < 2 → mt1 j = mt j) → (hwo1 : -1 ≤ wo1 ∧ wo1 ≤ 6000) → ∀ (H : Heap) (locs : List Loc), va_P D vwCl [(M, .inr (3, [.int (iI (th)), .int (iI ((n : Nat) : Int)), .int (iI (rc)), .ref MB, .ref MR, .ref ME, .ref MZ, .int (iI (wo1)), .int (iI (wy1)), .int (iI (po)), .ref MT, .int (iI (fe)), .int (iI (wh)), .int (iI (wi)), .int (iI (mu))])), (MB, zArr cI 36 b), (MR, zArr cI 6 ro1), (ME, zArr cI 6 me), (MZ, zArr cI 6 mq), (MT, zArr cI 6 mt1)] H → va_D A [(M, .inr (3, [.int (iI (th)), .int (iI ((n : Nat) : Int)), .int (iI (rc)), .ref MB, .ref MR, .ref ME, .ref MZ, .int (iI (wo1)), .int (iI (wy1)), .int (iI (po)), .ref MT, .int (iI (fe)), .int (iI (wh)), .int (iI (wi)), .int (iI (mu))])), (MB, zArr cI 36 b), (MR, zArr cI 6 ro1), (ME, zArr cI 6 me), (MZ, zArr cI 6 mq), (MT, zArr cI 6 mt1)] → va_S A s.heap H locs → ∀ (ls : Array Slot), lv_has ls 4 [(0, .ref M), (1, .int (iI ((2 : Nat) : Int))), (2, .int (iI (sum))), (3, .int (iI ((r : Nat) : Int)))] → W p l e (zRm 5 122) s m args below meth c H locs 0 0 (MQ below (va_Qv (S := Int × Int × (Nat → Int) × (Nat → Int)) (fun u8 => zStep n pre sum (zG n (zAl wh wi mu) (zVf b fe) (n - 2) 2 (zTk mt 2)) wo wy mr u8.1 u8.2.1 u8.2.2.1 ∧ (∀ j, j < 2 → u8.2.2.2 j = mt j) ∧ (-1 ≤ u8.1 ∧ u8.1 ≤ 6000)) (fun u9 t9 => va_P D vwCl ((fun u8 => [(M, .inr (3, [.int (iI (th)), .int (iI ((n : Nat) : Int)), .int (iI (rc)), .ref MB, .ref MR, .ref ME, .ref MZ, .int (iI (u8.1)), .int (iI (u8.2.1)), .int (iI (po)), .ref MT, .int (iI (fe)), .int (iI (wh)), .int (iI (wi)), .int (iI (mu))])), (MB, zArr cI 36 b), (MR, zArr cI 6 u8.2.2.1), (ME, zArr cI 6 me), (MZ, zArr cI 6 mq), (MT, zArr cI 6 u8.2.2.2)]) u9) t9.heap) A) args s 0 0 A) (F0 m 79 ls []) := by
      intro k0
      induction k0 with
      | zero => intro r wo1 wy1 ro1 mt1 hk; exact absurd hk (Nat.not_lt_zero _)
      | succ k0 ih_LT =>
        intro r wo1 wy1 ro1 mt1 hk hr1 hst hmt1 hwo1 H locs hP hD hS ls hl
        refine lv_iload_n hx hb dX3_tryFrom_79 rfl (lv_at hl 3 rfl) ?_
        refine lv_aload_n hx hb dX3_tryFrom_80 rfl (lv_at hl 0 rfl) ?_
        refine va_get (D := D) (ci := 3) (v := .int (iI ((n : Nat) : Int))) (C := RX3) (T := TX3) (N := 15) hx hb hts (by decide +kernel) hown hK hP 0 rfl rfl 1 (by decide) (hts (.fieldLink RX3 38 "RentHarmonyModel" "lodgers" "I") (by decide +kernel)) (fun _ h9 => h9) rfl dX3_tryFrom_81 ?_
        refine zr_icmp_ge (tgt := 139) hx hb dX3_tryFrom_84 (by decide) (zB_of (by omega) (by omega)) (zB_of (by omega) (by omega)) (fun c2 => ?_) (fun c2 => ?_)
        · exact zWv_ret hx hb hr hlocks hS dX3_tryFrom_139 (wo1, wy1, ro1, mt1) ⟨by have e9 : r = n := (by omega); rw [zG_FF hlt]; rw [e9] at hst; exact hst, hmt1, hwo1⟩ hP
        · refine lv_aload_n hx hb dX3_tryFrom_87 rfl (lv_at hl 0 rfl) ?_
          refine lv_iload_n hx hb dX3_tryFrom_88 rfl (lv_at hl 1 rfl) ?_
          refine lv_iload_n hx hb dX3_tryFrom_89 rfl (lv_at hl 3 rfl) ?_
          have hmtb : ∀ j, j < 2 → 0 ≤ mt1 j ∧ mt1 j ≤ 6 := fun j hj => by rw [hmt1 j hj, hpre j hj]; have := hpl j hj; omega
          have eT : zTk mt1 2 = zTk mt 2 := zTk_congr 2 hmt1
          refine zc_ri (As := [.int (iI ((2 : Nat) : Int)), .int (iI ((r : Nat) : Int))]) (rest := []) hF (c_X3_isTaken l D cI M MB MR ME MZ MT n b ro1 me mq mt1 th rc wo1 wy1 po fe wh wi mu 2 r (by omega) (by omega) (by assumption) (by assumption) (by assumption) (by assumption)) (cwV 2 hts gX3_tryFrom_X3_isTaken rfl rfl rfl (by decide +kernel) ⟨Nat.le_of_ble_eq_true rfl, Nat.le_of_ble_eq_true rfl⟩) hK hP [0, 1, 2, 3, 4, 5] rfl 0 rfl 0 rfl rfl rfl rfl hl.1 rfl (Nat.le_of_ble_eq_true rfl) dX3_tryFrom_90 ⟨Nat.zero_le _, Nat.zero_le _⟩ ?_
          refine zr_ifB_eq (tgt := 99) hx hb dX3_tryFrom_93 (by decide)  (fun c3 => ?_) (fun c3 => ?_)
          · have hP9 := c3
            rw [eT] at hP9
            refine lv_aload_n hx hb dX3_tryFrom_99 rfl (lv_at hl 0 rfl) ?_
            refine va_get (D := D) (ci := 3) (v := .ref MT) (C := RX3) (T := TX3) (N := 15) hx hb hts (by decide +kernel) hown hK hP 0 rfl rfl 10 (by decide) (hts (.fieldLink RX3 22 "RentHarmonyModel" "tried" "[I") (by decide +kernel)) (fun _ h9 => h9) rfl dX3_tryFrom_100 ?_
            refine lv_iload_n hx hb dX3_tryFrom_103 rfl (lv_at hl 1 rfl) ?_
            refine lv_iload_n hx hb dX3_tryFrom_104 rfl (lv_at hl 3 rfl) ?_
            refine zr_iast hx hb hK hP hD hS 5 0 rfl rfl (2) (by omega) (by omega) (by omega) dX3_tryFrom_105 (fun H locs hP hD hS => ?_)
            have hP : va_P D vwCl [(M, .inr (3, [.int (iI (th)), .int (iI ((n : Nat) : Int)), .int (iI (rc)), .ref MB, .ref MR, .ref ME, .ref MZ, .int (iI (wo1)), .int (iI (wy1)), .int (iI (po)), .ref MT, .int (iI (fe)), .int (iI (wh)), .int (iI (wi)), .int (iI (mu))])), (MB, zArr cI 36 b), (MR, zArr cI 6 ro1), (ME, zArr cI 6 me), (MZ, zArr cI 6 mq), (MT, zArr cI 6 (uZ mt1 (2) ((r : Nat) : Int)))] H := hP
            have hD : va_D A [(M, .inr (3, [.int (iI (th)), .int (iI ((n : Nat) : Int)), .int (iI (rc)), .ref MB, .ref MR, .ref ME, .ref MZ, .int (iI (wo1)), .int (iI (wy1)), .int (iI (po)), .ref MT, .int (iI (fe)), .int (iI (wh)), .int (iI (wi)), .int (iI (mu))])), (MB, zArr cI 36 b), (MR, zArr cI 6 ro1), (ME, zArr cI 6 me), (MZ, zArr cI 6 mq), (MT, zArr cI 6 (uZ mt1 (2) ((r : Nat) : Int)))] := hD
            refine lv_aload_n hx hb dX3_tryFrom_106 rfl (lv_at hl 0 rfl) ?_
            refine lv_iload_n hx hb dX3_tryFrom_107 rfl (lv_at hl 1 rfl) ?_
            refine zr_ic (n := ((1 : Nat) : Int)) hx hb dX3_tryFrom_108 ?_
            refine zr_addN (x := 2) (y := 1) hx hb dX3_tryFrom_109 ?_
            refine zr_topi (show ((2 + 1 : Nat) : Int) = ((3 : Nat) : Int) from rfl) ?_
            refine lv_iload_n hx hb dX3_tryFrom_110 rfl (lv_at hl 2 rfl) ?_
            refine lv_iload_n hx hb dX3_tryFrom_111 rfl (lv_at hl 1 rfl) ?_
            refine lv_aload_n hx hb dX3_tryFrom_112 rfl (lv_at hl 0 rfl) ?_
            refine va_get (D := D) (ci := 3) (v := .int (iI (fe))) (C := RX3) (T := TX3) (N := 15) hx hb hts (by decide +kernel) hown hK hP 0 rfl rfl 11 (by decide) (hts (.fieldLink RX3 25 "RentHarmonyModel" "free" "I") (by decide +kernel)) (fun _ h9 => h9) rfl dX3_tryFrom_113 ?_
            refine zr_icmp_ne (tgt := 123) hx hb dX3_tryFrom_116 (by decide) (zB_of (by omega) (by omega)) (zB_of (by omega) (by omega)) (fun c4 => ?_) (fun c4 => ?_)
            · have hf9 := c4
              refine lv_aload_n hx hb dX3_tryFrom_123 rfl (lv_at hl 0 rfl) ?_
              refine lv_iload_n hx hb dX3_tryFrom_124 rfl (lv_at hl 1 rfl) ?_
              refine lv_iload_n hx hb dX3_tryFrom_125 rfl (lv_at hl 3 rfl) ?_
              refine zc_ri (As := [.int (iI ((2 : Nat) : Int)), .int (iI ((r : Nat) : Int))]) (rest := [.int (iI (sum)), .int (iI ((3 : Nat) : Int)), .ref M]) hF (c_X3_bi l D cI M MB MR ME MZ MT n b ro1 me mq (uZ mt1 (2) ((r : Nat) : Int)) th rc wo1 wy1 po fe wh wi mu 2 r (by omega) (by omega)) (cwV 2 hts gX3_tryFrom_X3_bi rfl rfl rfl (by decide +kernel) ⟨Nat.le_of_ble_eq_true rfl, Nat.le_of_ble_eq_true rfl⟩) hK hP [0, 1, 2, 3, 4, 5] rfl 0 rfl 0 rfl rfl rfl rfl hl.1 rfl (Nat.le_of_ble_eq_true rfl) dX3_tryFrom_126 ⟨Nat.zero_le _, Nat.zero_le _⟩ ?_
              refine zr_topi (show (b (2 * 6 + r)) = (zVf b fe 2 r) from by unfold zVf; rw [if_neg hf9]) ?_
              have hvb := zVf_b hb0 fe 2 r
              refine zr_add hx hb dX3_tryFrom_129 ?_
              refine zc_wv (As := [.int (iI ((3 : Nat) : Int)), .int (iI (sum + (zVf b fe 2 r)))]) (rest := []) hF (c_X3_tryFrom_3 l D cI M MB MR ME MZ MT n b ro1 me mq (uZ mt1 (2) ((r : Nat) : Int)) th rc wo1 wy1 po fe wh wi mu (pre ++ [r]) (sum + (zVf b fe 2 r)) (by omega) (by assumption) (by omega) (by rw [List.length_append, hlen]; rfl) (zSnoc hlen (fun j hj => (hmt1 j hj).trans (hpre j hj))) (zSnoc_lt hlen hpl (by omega)) (by omega) (by omega) (by assumption) (by assumption) (by assumption) (by assumption)) (cwV 2 hts gX3_tryFrom_X3_tryFrom rfl rfl rfl (by decide +kernel) ⟨Nat.le_of_ble_eq_true rfl, Nat.le_of_ble_eq_true rfl⟩) hK hP hD hS [0, 1, 2, 3, 4, 5] rfl rfl (fun _ => rfl) 0 rfl 0 rfl rfl rfl rfl hl.1 rfl (Nat.le_of_ble_eq_true rfl) dX3_tryFrom_130 ⟨Nat.zero_le _, Nat.zero_le _⟩ (fun u5 H locs hw hP hD hS => ?_)
              obtain ⟨wo7, wy7, ro7, mt7⟩ := u5
              obtain ⟨hs7, hm7, hb7⟩ := hw
              have hP : va_P D vwCl [(M, .inr (3, [.int (iI (th)), .int (iI ((n : Nat) : Int)), .int (iI (rc)), .ref MB, .ref MR, .ref ME, .ref MZ, .int (iI (wo7)), .int (iI (wy7)), .int (iI (po)), .ref MT, .int (iI (fe)), .int (iI (wh)), .int (iI (wi)), .int (iI (mu))])), (MB, zArr cI 36 b), (MR, zArr cI 6 ro7), (ME, zArr cI 6 me), (MZ, zArr cI 6 mq), (MT, zArr cI 6 mt7)] H := hP
              have hD : va_D A [(M, .inr (3, [.int (iI (th)), .int (iI ((n : Nat) : Int)), .int (iI (rc)), .ref MB, .ref MR, .ref ME, .ref MZ, .int (iI (wo7)), .int (iI (wy7)), .int (iI (po)), .ref MT, .int (iI (fe)), .int (iI (wh)), .int (iI (wi)), .int (iI (mu))])), (MB, zArr cI 36 b), (MR, zArr cI 6 ro7), (ME, zArr cI 6 me), (MZ, zArr cI 6 mq), (MT, zArr cI 6 mt7)] := hD
              have hs9 : zStep n pre sum (zFF n b fe wh wi mu mt 2 r) wo1 wy1 ro1 wo7 wy7 ro7 := by
                have h9 : zStep n (pre ++ [r]) (sum + zVf b fe 2 r) (zG n (zAl wh wi mu) (zVf b fe) (n - 3) 3 (zTk (uZ mt1 2 ((r : Nat) : Int)) (2 + 1))) wo1 wy1 ro1 wo7 wy7 ro7 := hs7
                rw [zTk_add, eT] at h9
                unfold zFF; rw [if_neg hP9]; exact zStep_deep h9
              have hm9 : ∀ j, j < 2 → mt7 j = mt j := fun j hj => (hm7 j (by omega)).trans ((uZ_n _ _ (by omega)).trans (hmt1 j hj))
              have hb9 := hb7
              refine zr_iinc (lv2 := [(3, .int (iI (((r : Nat) : Int) + 1))), (0, .ref M), (1, .int (iI ((2 : Nat) : Int))), (2, .int (iI (sum)))]) hx hb dX3_tryFrom_133 hl (k0 := 3) rfl (by decide) rfl (fun ls hl => ?_)
              have hl : lv_has ls 4 [(3, .int (iI ((r + 1 : Nat) : Int))), (0, .ref M), (1, .int (iI ((2 : Nat) : Int))), (2, .int (iI (sum)))] := hl
              refine lv_goto (tgt := 79) hx hb dX3_tryFrom_136 (by decide) ?_
              exact ih_LT (r + 1) (wo7) (wy7) (ro7) (mt7) (by omega) (by omega) (zStep_comb hst hs9) hm9 hb9 _ _ hP hD hS _ (lv_sub hl [1, 2, 3, 0] rfl)
            · have hf9 := c4
              refine zr_ic (n := ((0 : Nat) : Int)) hx hb dX3_tryFrom_119 ?_
              refine lv_goto (tgt := 129) hx hb dX3_tryFrom_120 (by decide) ?_
              refine zr_topi (show ((0 : Nat) : Int) = (zVf b fe 2 r) from by unfold zVf; rw [if_pos hf9]; rfl) ?_
              have hvb := zVf_b hb0 fe 2 r
              refine zr_add hx hb dX3_tryFrom_129 ?_
              refine zc_wv (As := [.int (iI ((3 : Nat) : Int)), .int (iI (sum + (zVf b fe 2 r)))]) (rest := []) hF (c_X3_tryFrom_3 l D cI M MB MR ME MZ MT n b ro1 me mq (uZ mt1 (2) ((r : Nat) : Int)) th rc wo1 wy1 po fe wh wi mu (pre ++ [r]) (sum + (zVf b fe 2 r)) (by omega) (by assumption) (by omega) (by rw [List.length_append, hlen]; rfl) (zSnoc hlen (fun j hj => (hmt1 j hj).trans (hpre j hj))) (zSnoc_lt hlen hpl (by omega)) (by omega) (by omega) (by assumption) (by assumption) (by assumption) (by assumption)) (cwV 2 hts gX3_tryFrom_X3_tryFrom rfl rfl rfl (by decide +kernel) ⟨Nat.le_of_ble_eq_true rfl, Nat.le_of_ble_eq_true rfl⟩) hK hP hD hS [0, 1, 2, 3, 4, 5] rfl rfl (fun _ => rfl) 0 rfl 0 rfl rfl rfl rfl hl.1 rfl (Nat.le_of_ble_eq_true rfl) dX3_tryFrom_130 ⟨Nat.zero_le _, Nat.zero_le _⟩ (fun u8 H locs hw hP hD hS => ?_)
              obtain ⟨wo10, wy10, ro10, mt10⟩ := u8
              obtain ⟨hs10, hm10, hb10⟩ := hw
              have hP : va_P D vwCl [(M, .inr (3, [.int (iI (th)), .int (iI ((n : Nat) : Int)), .int (iI (rc)), .ref MB, .ref MR, .ref ME, .ref MZ, .int (iI (wo10)), .int (iI (wy10)), .int (iI (po)), .ref MT, .int (iI (fe)), .int (iI (wh)), .int (iI (wi)), .int (iI (mu))])), (MB, zArr cI 36 b), (MR, zArr cI 6 ro10), (ME, zArr cI 6 me), (MZ, zArr cI 6 mq), (MT, zArr cI 6 mt10)] H := hP
              have hD : va_D A [(M, .inr (3, [.int (iI (th)), .int (iI ((n : Nat) : Int)), .int (iI (rc)), .ref MB, .ref MR, .ref ME, .ref MZ, .int (iI (wo10)), .int (iI (wy10)), .int (iI (po)), .ref MT, .int (iI (fe)), .int (iI (wh)), .int (iI (wi)), .int (iI (mu))])), (MB, zArr cI 36 b), (MR, zArr cI 6 ro10), (ME, zArr cI 6 me), (MZ, zArr cI 6 mq), (MT, zArr cI 6 mt10)] := hD
              have hs9 : zStep n pre sum (zFF n b fe wh wi mu mt 2 r) wo1 wy1 ro1 wo10 wy10 ro10 := by
                have h9 : zStep n (pre ++ [r]) (sum + zVf b fe 2 r) (zG n (zAl wh wi mu) (zVf b fe) (n - 3) 3 (zTk (uZ mt1 2 ((r : Nat) : Int)) (2 + 1))) wo1 wy1 ro1 wo10 wy10 ro10 := hs10
                rw [zTk_add, eT] at h9
                unfold zFF; rw [if_neg hP9]; exact zStep_deep h9
              have hm9 : ∀ j, j < 2 → mt10 j = mt j := fun j hj => (hm10 j (by omega)).trans ((uZ_n _ _ (by omega)).trans (hmt1 j hj))
              have hb9 := hb10
              refine zr_iinc (lv2 := [(3, .int (iI (((r : Nat) : Int) + 1))), (0, .ref M), (1, .int (iI ((2 : Nat) : Int))), (2, .int (iI (sum)))]) hx hb dX3_tryFrom_133 hl (k0 := 3) rfl (by decide) rfl (fun ls hl => ?_)
              have hl : lv_has ls 4 [(3, .int (iI ((r + 1 : Nat) : Int))), (0, .ref M), (1, .int (iI ((2 : Nat) : Int))), (2, .int (iI (sum)))] := hl
              refine lv_goto (tgt := 79) hx hb dX3_tryFrom_136 (by decide) ?_
              exact ih_LT (r + 1) (wo10) (wy10) (ro10) (mt10) (by omega) (by omega) (zStep_comb hst hs9) hm9 hb9 _ _ hP hD hS _ (lv_sub hl [1, 2, 3, 0] rfl)
          · have hP9 := c3
            rw [eT] at hP9
            refine lv_goto (tgt := 133) hx hb dX3_tryFrom_96 (by decide) ?_
            refine zr_iinc (lv2 := [(3, .int (iI (((r : Nat) : Int) + 1))), (0, .ref M), (1, .int (iI ((2 : Nat) : Int))), (2, .int (iI (sum)))]) hx hb dX3_tryFrom_133 hl (k0 := 3) rfl (by decide) rfl (fun ls hl => ?_)
            have hl : lv_has ls 4 [(3, .int (iI ((r + 1 : Nat) : Int))), (0, .ref M), (1, .int (iI ((2 : Nat) : Int))), (2, .int (iI (sum)))] := hl
            refine lv_goto (tgt := 79) hx hb dX3_tryFrom_136 (by decide) ?_
            exact ih_LT (r + 1) (wo1) (wy1) (ro1) (mt1) (by omega) (by omega) (zStep_comb hst (by unfold zFF; rw [if_pos hP9]; exact zStep_none)) hmt1 hwo1 _ _ hP hD hS _ (lv_sub hl [1, 2, 3, 0] rfl)
    exact LT ((n - (0)) + 1) (0) (wo) (wy) (mr) (mt) (Nat.lt_succ_self _) (Nat.zero_le _) ⟨rfl, rfl, rfl⟩ (fun _ _ => rfl) hwo _ _ hP hD hS _ (lv_sub hl [1, 2, 3, 0] rfl)
  · have hkn2 : 2 = n := by omega
    have e0 : n - 2 = 0 := by omega
    have hlf := zStep_leaf (sum := sum) (w := wo) (y := wy) (ro := mr) (hlen.trans hkn2) (fun j hj => hpre j (by omega))
    refine lv_aload_n hx hb dX3_tryFrom_8 rfl (lv_at hl 0 rfl) ?_
    refine lv_iload_n hx hb dX3_tryFrom_9 rfl (lv_at hl 2 rfl) ?_
    refine lv_aload_n hx hb dX3_tryFrom_10 rfl (lv_at hl 0 rfl) ?_
    refine va_get (D := D) (ci := 3) (v := .int (iI (wo))) (C := RX3) (T := TX3) (N := 15) hx hb hts (by decide +kernel) hown hK hP 0 rfl rfl 7 (by decide) (hts (.fieldLink RX3 64 "RentHarmonyModel" "worth" "I") (by decide +kernel)) (fun _ h9 => h9) rfl dX3_tryFrom_11 ?_
    refine zr_icmp_le (tgt := 21) hx hb dX3_tryFrom_14 (by decide) (zB_of (by omega) (by omega)) (zB_of (by omega) (by omega)) (fun c11 => ?_) (fun c11 => ?_)
    · refine lv_iload_n hx hb dX3_tryFrom_21 rfl (lv_at hl 2 rfl) ?_
      refine lv_aload_n hx hb dX3_tryFrom_22 rfl (lv_at hl 0 rfl) ?_
      refine va_get (D := D) (ci := 3) (v := .int (iI (wo))) (C := RX3) (T := TX3) (N := 15) hx hb hts (by decide +kernel) hown hK hP 0 rfl rfl 7 (by decide) (hts (.fieldLink RX3 64 "RentHarmonyModel" "worth" "I") (by decide +kernel)) (fun _ h9 => h9) rfl dX3_tryFrom_23 ?_
      refine zr_icmp_ne (tgt := 38) hx hb dX3_tryFrom_26 (by decide) (zB_of (by omega) (by omega)) (zB_of (by omega) (by omega)) (fun c12 => ?_) (fun c12 => ?_)
      · have hcmp := c12
        refine lv_aload_n hx hb dX3_tryFrom_38 rfl (lv_at hl 0 rfl) ?_
        refine va_get (D := D) (ci := 3) (v := .int (iI (wy))) (C := RX3) (T := TX3) (N := 15) hx hb hts (by decide +kernel) hown hK hP 0 rfl rfl 8 (by decide) (hts (.fieldLink RX3 67 "RentHarmonyModel" "ways" "I") (by decide +kernel)) (fun _ h9 => h9) rfl dX3_tryFrom_39 ?_
        refine va_put (D := D) (ci := 3) (v := .int (iI (wy))) (ty := .int) (C := RX3) (T := TX3) (N := 15) hx hb hts (by decide +kernel) tyX3 tyX3_ok nmX3 hown hK hP hD hS 0 rfl rfl 8 (by decide) (hts (.fieldLink RX3 67 "RentHarmonyModel" "ways" "I") (by decide +kernel)) (fun _ h9 => h9) rfl (by decide +kernel) rfl rfl (Nat.le_of_ble_eq_true rfl) dX3_tryFrom_42 (fun H locs hP hD hS => ?_)
        have hP : va_P D vwCl [(M, .inr (3, [.int (iI (th)), .int (iI ((n : Nat) : Int)), .int (iI (rc)), .ref MB, .ref MR, .ref ME, .ref MZ, .int (iI (wo)), .int (iI (wy)), .int (iI (po)), .ref MT, .int (iI (fe)), .int (iI (wh)), .int (iI (wi)), .int (iI (mu))])), (MB, zArr cI 36 b), (MR, zArr cI 6 mr), (ME, zArr cI 6 me), (MZ, zArr cI 6 mq), (MT, zArr cI 6 mt)] H := hP
        have hD : va_D A [(M, .inr (3, [.int (iI (th)), .int (iI ((n : Nat) : Int)), .int (iI (rc)), .ref MB, .ref MR, .ref ME, .ref MZ, .int (iI (wo)), .int (iI (wy)), .int (iI (po)), .ref MT, .int (iI (fe)), .int (iI (wh)), .int (iI (wi)), .int (iI (mu))])), (MB, zArr cI 36 b), (MR, zArr cI 6 mr), (ME, zArr cI 6 me), (MZ, zArr cI 6 mq), (MT, zArr cI 6 mt)] := hD
        refine lv_iload_n hx hb dX3_tryFrom_45 rfl (lv_at hl 2 rfl) ?_
        refine lv_aload_n hx hb dX3_tryFrom_46 rfl (lv_at hl 0 rfl) ?_
        refine va_get (D := D) (ci := 3) (v := .int (iI (wo))) (C := RX3) (T := TX3) (N := 15) hx hb hts (by decide +kernel) hown hK hP 0 rfl rfl 7 (by decide) (hts (.fieldLink RX3 64 "RentHarmonyModel" "worth" "I") (by decide +kernel)) (fun _ h9 => h9) rfl dX3_tryFrom_47 ?_
        refine zr_icmp_gt (tgt := 54) hx hb dX3_tryFrom_50 (by decide) (zB_of (by omega) (by omega)) (zB_of (by omega) (by omega)) (fun c13 => ?_) (fun c13 => ?_)
        · exact absurd c13 (by omega)
        · exact zWv_ret hx hb hr hlocks hS dX3_tryFrom_53 (wo, wy, mr, mt) ⟨by show zStep n pre sum (zG n (zAl wh wi mu) (zVf b fe) (n - 2) 2 (zTk mt 2)) wo wy mr _ _ _; rw [e0]; exact hlf.2.2 (by omega), fun _ _ => rfl, by show -1 ≤ _ ∧ _ ≤ (6000 : Int); omega⟩ hP
      · have hcmp := c12
        refine lv_aload_n hx hb dX3_tryFrom_29 rfl (lv_at hl 0 rfl) ?_
        refine va_get (D := D) (ci := 3) (v := .int (iI (wy))) (C := RX3) (T := TX3) (N := 15) hx hb hts (by decide +kernel) hown hK hP 0 rfl rfl 8 (by decide) (hts (.fieldLink RX3 67 "RentHarmonyModel" "ways" "I") (by decide +kernel)) (fun _ h9 => h9) rfl dX3_tryFrom_30 ?_
        refine zr_ic (n := ((1 : Nat) : Int)) hx hb dX3_tryFrom_33 ?_
        refine zr_add hx hb dX3_tryFrom_34 ?_
        refine lv_goto (tgt := 42) hx hb dX3_tryFrom_35 (by decide) ?_
        refine va_put (D := D) (ci := 3) (v := .int (iI (wy + ((1 : Nat) : Int)))) (ty := .int) (C := RX3) (T := TX3) (N := 15) hx hb hts (by decide +kernel) tyX3 tyX3_ok nmX3 hown hK hP hD hS 0 rfl rfl 8 (by decide) (hts (.fieldLink RX3 67 "RentHarmonyModel" "ways" "I") (by decide +kernel)) (fun _ h9 => h9) rfl (by decide +kernel) rfl rfl (Nat.le_of_ble_eq_true rfl) dX3_tryFrom_42 (fun H locs hP hD hS => ?_)
        have hP : va_P D vwCl [(M, .inr (3, [.int (iI (th)), .int (iI ((n : Nat) : Int)), .int (iI (rc)), .ref MB, .ref MR, .ref ME, .ref MZ, .int (iI (wo)), .int (iI (wy + ((1 : Nat) : Int))), .int (iI (po)), .ref MT, .int (iI (fe)), .int (iI (wh)), .int (iI (wi)), .int (iI (mu))])), (MB, zArr cI 36 b), (MR, zArr cI 6 mr), (ME, zArr cI 6 me), (MZ, zArr cI 6 mq), (MT, zArr cI 6 mt)] H := hP
        have hD : va_D A [(M, .inr (3, [.int (iI (th)), .int (iI ((n : Nat) : Int)), .int (iI (rc)), .ref MB, .ref MR, .ref ME, .ref MZ, .int (iI (wo)), .int (iI (wy + ((1 : Nat) : Int))), .int (iI (po)), .ref MT, .int (iI (fe)), .int (iI (wh)), .int (iI (wi)), .int (iI (mu))])), (MB, zArr cI 36 b), (MR, zArr cI 6 mr), (ME, zArr cI 6 me), (MZ, zArr cI 6 mq), (MT, zArr cI 6 mt)] := hD
        refine lv_iload_n hx hb dX3_tryFrom_45 rfl (lv_at hl 2 rfl) ?_
        refine lv_aload_n hx hb dX3_tryFrom_46 rfl (lv_at hl 0 rfl) ?_
        refine va_get (D := D) (ci := 3) (v := .int (iI (wo))) (C := RX3) (T := TX3) (N := 15) hx hb hts (by decide +kernel) hown hK hP 0 rfl rfl 7 (by decide) (hts (.fieldLink RX3 64 "RentHarmonyModel" "worth" "I") (by decide +kernel)) (fun _ h9 => h9) rfl dX3_tryFrom_47 ?_
        refine zr_icmp_gt (tgt := 54) hx hb dX3_tryFrom_50 (by decide) (zB_of (by omega) (by omega)) (zB_of (by omega) (by omega)) (fun c14 => ?_) (fun c14 => ?_)
        · exact absurd c14 (by omega)
        · exact zWv_ret hx hb hr hlocks hS dX3_tryFrom_53 (wo, (wy + ((1 : Nat) : Int)), mr, mt) ⟨by show zStep n pre sum (zG n (zAl wh wi mu) (zVf b fe) (n - 2) 2 (zTk mt 2)) wo wy mr _ _ _; rw [e0]; exact hlf.2.1 (by omega), fun _ _ => rfl, by show -1 ≤ _ ∧ _ ≤ (6000 : Int); omega⟩ hP
    · have hgt := c11
      refine zr_ic (n := ((1 : Nat) : Int)) hx hb dX3_tryFrom_17 ?_
      refine lv_goto (tgt := 42) hx hb dX3_tryFrom_18 (by decide) ?_
      refine va_put (D := D) (ci := 3) (v := .int (iI ((1 : Nat) : Int))) (ty := .int) (C := RX3) (T := TX3) (N := 15) hx hb hts (by decide +kernel) tyX3 tyX3_ok nmX3 hown hK hP hD hS 0 rfl rfl 8 (by decide) (hts (.fieldLink RX3 67 "RentHarmonyModel" "ways" "I") (by decide +kernel)) (fun _ h9 => h9) rfl (by decide +kernel) rfl rfl (Nat.le_of_ble_eq_true rfl) dX3_tryFrom_42 (fun H locs hP hD hS => ?_)
      have hP : va_P D vwCl [(M, .inr (3, [.int (iI (th)), .int (iI ((n : Nat) : Int)), .int (iI (rc)), .ref MB, .ref MR, .ref ME, .ref MZ, .int (iI (wo)), .int (iI ((1 : Nat) : Int)), .int (iI (po)), .ref MT, .int (iI (fe)), .int (iI (wh)), .int (iI (wi)), .int (iI (mu))])), (MB, zArr cI 36 b), (MR, zArr cI 6 mr), (ME, zArr cI 6 me), (MZ, zArr cI 6 mq), (MT, zArr cI 6 mt)] H := hP
      have hD : va_D A [(M, .inr (3, [.int (iI (th)), .int (iI ((n : Nat) : Int)), .int (iI (rc)), .ref MB, .ref MR, .ref ME, .ref MZ, .int (iI (wo)), .int (iI ((1 : Nat) : Int)), .int (iI (po)), .ref MT, .int (iI (fe)), .int (iI (wh)), .int (iI (wi)), .int (iI (mu))])), (MB, zArr cI 36 b), (MR, zArr cI 6 mr), (ME, zArr cI 6 me), (MZ, zArr cI 6 mq), (MT, zArr cI 6 mt)] := hD
      refine lv_iload_n hx hb dX3_tryFrom_45 rfl (lv_at hl 2 rfl) ?_
      refine lv_aload_n hx hb dX3_tryFrom_46 rfl (lv_at hl 0 rfl) ?_
      refine va_get (D := D) (ci := 3) (v := .int (iI (wo))) (C := RX3) (T := TX3) (N := 15) hx hb hts (by decide +kernel) hown hK hP 0 rfl rfl 7 (by decide) (hts (.fieldLink RX3 64 "RentHarmonyModel" "worth" "I") (by decide +kernel)) (fun _ h9 => h9) rfl dX3_tryFrom_47 ?_
      refine zr_icmp_gt (tgt := 54) hx hb dX3_tryFrom_50 (by decide) (zB_of (by omega) (by omega)) (zB_of (by omega) (by omega)) (fun c15 => ?_) (fun c15 => ?_)
      · refine lv_aload_n hx hb dX3_tryFrom_54 rfl (lv_at hl 0 rfl) ?_
        refine lv_iload_n hx hb dX3_tryFrom_55 rfl (lv_at hl 2 rfl) ?_
        refine va_put (D := D) (ci := 3) (v := .int (iI (sum))) (ty := .int) (C := RX3) (T := TX3) (N := 15) hx hb hts (by decide +kernel) tyX3 tyX3_ok nmX3 hown hK hP hD hS 0 rfl rfl 7 (by decide) (hts (.fieldLink RX3 64 "RentHarmonyModel" "worth" "I") (by decide +kernel)) (fun _ h9 => h9) rfl (by decide +kernel) rfl rfl (Nat.le_of_ble_eq_true rfl) dX3_tryFrom_56 (fun H locs hP hD hS => ?_)
        have hP : va_P D vwCl [(M, .inr (3, [.int (iI (th)), .int (iI ((n : Nat) : Int)), .int (iI (rc)), .ref MB, .ref MR, .ref ME, .ref MZ, .int (iI (sum)), .int (iI ((1 : Nat) : Int)), .int (iI (po)), .ref MT, .int (iI (fe)), .int (iI (wh)), .int (iI (wi)), .int (iI (mu))])), (MB, zArr cI 36 b), (MR, zArr cI 6 mr), (ME, zArr cI 6 me), (MZ, zArr cI 6 mq), (MT, zArr cI 6 mt)] H := hP
        have hD : va_D A [(M, .inr (3, [.int (iI (th)), .int (iI ((n : Nat) : Int)), .int (iI (rc)), .ref MB, .ref MR, .ref ME, .ref MZ, .int (iI (sum)), .int (iI ((1 : Nat) : Int)), .int (iI (po)), .ref MT, .int (iI (fe)), .int (iI (wh)), .int (iI (wi)), .int (iI (mu))])), (MB, zArr cI 36 b), (MR, zArr cI 6 mr), (ME, zArr cI 6 me), (MZ, zArr cI 6 mq), (MT, zArr cI 6 mt)] := hD
        refine lv_aload_n hx hb dX3_tryFrom_59 rfl (lv_at hl 0 rfl) ?_
        refine va_get (D := D) (ci := 3) (v := .ref MT) (C := RX3) (T := TX3) (N := 15) hx hb hts (by decide +kernel) hown hK hP 0 rfl rfl 10 (by decide) (hts (.fieldLink RX3 22 "RentHarmonyModel" "tried" "[I") (by decide +kernel)) (fun _ h9 => h9) rfl dX3_tryFrom_60 ?_
        refine zr_ic (n := ((0 : Nat) : Int)) hx hb dX3_tryFrom_63 ?_
        refine lv_aload_n hx hb dX3_tryFrom_64 rfl (lv_at hl 0 rfl) ?_
        refine va_get (D := D) (ci := 3) (v := .ref MR) (C := RX3) (T := TX3) (N := 15) hx hb hts (by decide +kernel) hown hK hP 0 rfl rfl 4 (by decide) (hts (.fieldLink RX3 13 "RentHarmonyModel" "rooms" "[I") (by decide +kernel)) (fun _ h9 => h9) rfl dX3_tryFrom_65 ?_
        refine zr_ic (n := ((0 : Nat) : Int)) hx hb dX3_tryFrom_68 ?_
        refine lv_aload_n hx hb dX3_tryFrom_69 rfl (lv_at hl 0 rfl) ?_
        refine va_get (D := D) (ci := 3) (v := .int (iI ((n : Nat) : Int))) (C := RX3) (T := TX3) (N := 15) hx hb hts (by decide +kernel) hown hK hP 0 rfl rfl 1 (by decide) (hts (.fieldLink RX3 38 "RentHarmonyModel" "lodgers" "I") (by decide +kernel)) (fun _ h9 => h9) rfl dX3_tryFrom_70 ?_
        refine zr_copy (rest := []) hx hb (hml.trans hl.1.symm) hown (hts (.methodLink RX3 70 arraycopyName) (by decide +kernel)) (hts (.native arraycopyName) (by decide +kernel)) (hts (.static arraycopyName) (by decide +kernel)) (hts (.initialized "java/lang/System") (by decide +kernel)) hK hP hD hS 5 2 0 rfl rfl rfl (n) (by omega) (by omega) (by omega) (by decide) (Nat.le_of_ble_eq_true rfl) (by decide +kernel) dX3_tryFrom_73 (fun H locs hP hD hS => ?_)
        have hP : va_P D vwCl [(M, .inr (3, [.int (iI (th)), .int (iI ((n : Nat) : Int)), .int (iI (rc)), .ref MB, .ref MR, .ref ME, .ref MZ, .int (iI (sum)), .int (iI ((1 : Nat) : Int)), .int (iI (po)), .ref MT, .int (iI (fe)), .int (iI (wh)), .int (iI (wi)), .int (iI (mu))])), (MB, zArr cI 36 b), (MR, zArr cI 6 (zCpy mt mr (n))), (ME, zArr cI 6 me), (MZ, zArr cI 6 mq), (MT, zArr cI 6 mt)] H := hP
        have hD : va_D A [(M, .inr (3, [.int (iI (th)), .int (iI ((n : Nat) : Int)), .int (iI (rc)), .ref MB, .ref MR, .ref ME, .ref MZ, .int (iI (sum)), .int (iI ((1 : Nat) : Int)), .int (iI (po)), .ref MT, .int (iI (fe)), .int (iI (wh)), .int (iI (wi)), .int (iI (mu))])), (MB, zArr cI 36 b), (MR, zArr cI 6 (zCpy mt mr (n))), (ME, zArr cI 6 me), (MZ, zArr cI 6 mq), (MT, zArr cI 6 mt)] := hD
        exact zWv_ret hx hb hr hlocks hS dX3_tryFrom_76 (sum, ((1 : Nat) : Int), (zCpy mt mr (n)), mt) ⟨by show zStep n pre sum (zG n (zAl wh wi mu) (zVf b fe) (n - 2) 2 (zTk mt 2)) wo wy mr _ _ _; rw [e0]; exact hlf.1 (by omega), fun _ _ => rfl, by show -1 ≤ _ ∧ _ ≤ (6000 : Int); omega⟩ hP
      · exact absurd c15 (by omega)
set_option maxHeartbeats 4000000 in
set_option maxRecDepth 100000 in
/-- X3_tryFrom -/
theorem c_X3_tryFrom_1 (l : Launch) (D : va_G) (cI : ClassId) (M MB MR ME MZ MT n : Nat) (b mr me mq mt : Nat → Int) (th rc wo wy po fe wh wi mu : Int) (pre : List Nat) (sum : Int) (hn : n ≤ 6) (hb0 : ∀ k, 0 ≤ b k ∧ b k ≤ 999) (hkn : 1 ≤ n) (hlen : pre.length = 1) (hpre : ∀ j, j < 1 → mt j = ((pre.getD j 0 : Nat) : Int)) (hpl : ∀ j, j < 1 → pre.getD j 0 < 6) (hsum : 0 ≤ sum ∧ sum ≤ 999 * 1) (hwo : -1 ≤ wo ∧ wo ≤ 6000) (hfe : zB fe) (hwh : zB wh) (hwi : zB wi) (hmu : 0 ≤ mu ∧ mu ≤ 1) : zWv (S := Int × Int × (Nat → Int) × (Nat → Int)) l yX3_tryFrom wsX3_tryFrom 6 145 D cI [.ref M, .int (iI ((1 : Nat) : Int)), .int (iI (sum))] [(M, .inr (3, [.int (iI (th)), .int (iI ((n : Nat) : Int)), .int (iI (rc)), .ref MB, .ref MR, .ref ME, .ref MZ, .int (iI (wo)), .int (iI (wy)), .int (iI (po)), .ref MT, .int (iI (fe)), .int (iI (wh)), .int (iI (wi)), .int (iI (mu))])), (MB, zArr cI 36 b), (MR, zArr cI 6 mr), (ME, zArr cI 6 me), (MZ, zArr cI 6 mq), (MT, zArr cI 6 mt)] (fun u8 => zStep n pre sum (zG n (zAl wh wi mu) (zVf b fe) (n - 1) 1 (zTk mt 1)) wo wy mr u8.1 u8.2.1 u8.2.2.1 ∧ (∀ j, j < 1 → u8.2.2.2 j = mt j) ∧ (-1 ≤ u8.1 ∧ u8.1 ≤ 6000)) (fun u8 => [(M, .inr (3, [.int (iI (th)), .int (iI ((n : Nat) : Int)), .int (iI (rc)), .ref MB, .ref MR, .ref ME, .ref MZ, .int (iI (u8.1)), .int (iI (u8.2.1)), .int (iI (po)), .ref MT, .int (iI (fe)), .int (iI (wh)), .int (iI (wi)), .int (iI (mu))])), (MB, zArr cI 36 b), (MR, zArr cI 6 u8.2.2.1), (ME, zArr cI 6 me), (MZ, zArr cI 6 mq), (MT, zArr cI 6 u8.2.2.2)]) := by
  refine zWv_of (cc := cX3_tryFrom) (maxL := 4) (by decide) rfl (Nat.le_of_ble_eq_true rfl) ?_
  intro p e s m args below meth c ls A hF hr hlocks hP hK hD hS hl
  have hF : zFix p m c cX3_tryFrom 4 s args wsX3_tryFrom RX3 := hF
  obtain ⟨hx, hb, hml, hown, hts⟩ := id hF
  have hP : va_P D vwCl [(M, .inr (3, [.int (iI (th)), .int (iI ((n : Nat) : Int)), .int (iI (rc)), .ref MB, .ref MR, .ref ME, .ref MZ, .int (iI (wo)), .int (iI (wy)), .int (iI (po)), .ref MT, .int (iI (fe)), .int (iI (wh)), .int (iI (wi)), .int (iI (mu))])), (MB, zArr cI 36 b), (MR, zArr cI 6 mr), (ME, zArr cI 6 me), (MZ, zArr cI 6 mq), (MT, zArr cI 6 mt)] s.heap := hP
  have hD : va_D A [(M, .inr (3, [.int (iI (th)), .int (iI ((n : Nat) : Int)), .int (iI (rc)), .ref MB, .ref MR, .ref ME, .ref MZ, .int (iI (wo)), .int (iI (wy)), .int (iI (po)), .ref MT, .int (iI (fe)), .int (iI (wh)), .int (iI (wi)), .int (iI (mu))])), (MB, zArr cI 36 b), (MR, zArr cI 6 mr), (ME, zArr cI 6 me), (MZ, zArr cI 6 mq), (MT, zArr cI 6 mt)] := hD
  skip
  have hl : lv_has ls 4 [(0, .ref M), (1, .int (iI ((1 : Nat) : Int))), (2, .int (iI (sum)))] := hl
  have hfe1 := hfe.1
  have hfe2 := hfe.2
  refine lv_iload_n hx hb dX3_tryFrom_0 rfl (lv_at hl 1 rfl) ?_
  refine lv_aload_n hx hb dX3_tryFrom_1 rfl (lv_at hl 0 rfl) ?_
  refine va_get (D := D) (ci := 3) (v := .int (iI ((n : Nat) : Int))) (C := RX3) (T := TX3) (N := 15) hx hb hts (by decide +kernel) hown hK hP 0 rfl rfl 1 (by decide) (hts (.fieldLink RX3 38 "RentHarmonyModel" "lodgers" "I") (by decide +kernel)) (fun _ h9 => h9) rfl dX3_tryFrom_2 ?_
  refine zr_icmp_ne (tgt := 77) hx hb dX3_tryFrom_5 (by decide) (zB_of (by omega) (by omega)) (zB_of (by omega) (by omega)) (fun c1 => ?_) (fun c1 => ?_)
  · have hlt : 1 < n := by omega
    refine zr_ic (n := ((0 : Nat) : Int)) hx hb dX3_tryFrom_77 ?_
    refine lv_istore_n (lv' := [(3, .int (iI ((0 : Nat) : Int))), (0, .ref M), (1, .int (iI ((1 : Nat) : Int))), (2, .int (iI (sum)))]) hx hb dX3_tryFrom_78 rfl hl (by decide) rfl (fun ls hl => ?_)
    have LT : ∀ (k0 : Nat) (r : Nat) (wo1 : Int) (wy1 : Int) (ro1 : Nat → Int) (mt1 : Nat → Int), n - r < k0 → (hr1 : r ≤ n) → (hst : zStep n pre sum (zFold (zFF n b fe wh wi mu mt 1) r) wo wy mr wo1 wy1 ro1) → (hmt1 : ∀ j, j < 1 → mt1 j = mt j) → (hwo1 : -1 ≤ wo1 ∧ wo1 ≤ 6000) → ∀ (H : Heap) (locs : List Loc), va_P D vwCl [(M, .inr (3, [.int (iI (th)), .int (iI ((n : Nat) : Int)), .int (iI (rc)), .ref MB, .ref MR, .ref ME, .ref MZ, .int (iI (wo1)), .int (iI (wy1)), .int (iI (po)), .ref MT, .int (iI (fe)), .int (iI (wh)), .int (iI (wi)), .int (iI (mu))])), (MB, zArr cI 36 b), (MR, zArr cI 6 ro1), (ME, zArr cI 6 me), (MZ, zArr cI 6 mq), (MT, zArr cI 6 mt1)] H → va_D A [(M, .inr (3, [.int (iI (th)), .int (iI ((n : Nat) : Int)), .int (iI (rc)), .ref MB, .ref MR, .ref ME, .ref MZ, .int (iI (wo1)), .int (iI (wy1)), .int (iI (po)), .ref MT, .int (iI (fe)), .int (iI (wh)), .int (iI (wi)), .int (iI (mu))])), (MB, zArr cI 36 b), (MR, zArr cI 6 ro1), (ME, zArr cI 6 me), (MZ, zArr cI 6 mq), (MT, zArr cI 6 mt1)] → va_S A s.heap H locs → ∀ (ls : Array Slot), lv_has ls 4 [(0, .ref M), (1, .int (iI ((1 : Nat) : Int))), (2, .int (iI (sum))), (3, .int (iI ((r : Nat) : Int)))] → W p l e (zRm 6 145) s m args below meth c H locs 0 0 (MQ below (va_Qv (S := Int × Int × (Nat → Int) × (Nat → Int)) (fun u8 => zStep n pre sum (zG n (zAl wh wi mu) (zVf b fe) (n - 1) 1 (zTk mt 1)) wo wy mr u8.1 u8.2.1 u8.2.2.1 ∧ (∀ j, j < 1 → u8.2.2.2 j = mt j) ∧ (-1 ≤ u8.1 ∧ u8.1 ≤ 6000)) (fun u9 t9 => va_P D vwCl ((fun u8 => [(M, .inr (3, [.int (iI (th)), .int (iI ((n : Nat) : Int)), .int (iI (rc)), .ref MB, .ref MR, .ref ME, .ref MZ, .int (iI (u8.1)), .int (iI (u8.2.1)), .int (iI (po)), .ref MT, .int (iI (fe)), .int (iI (wh)), .int (iI (wi)), .int (iI (mu))])), (MB, zArr cI 36 b), (MR, zArr cI 6 u8.2.2.1), (ME, zArr cI 6 me), (MZ, zArr cI 6 mq), (MT, zArr cI 6 u8.2.2.2)]) u9) t9.heap) A) args s 0 0 A) (F0 m 79 ls []) := by
      intro k0
      induction k0 with
      | zero => intro r wo1 wy1 ro1 mt1 hk; exact absurd hk (Nat.not_lt_zero _)
      | succ k0 ih_LT =>
        intro r wo1 wy1 ro1 mt1 hk hr1 hst hmt1 hwo1 H locs hP hD hS ls hl
        refine lv_iload_n hx hb dX3_tryFrom_79 rfl (lv_at hl 3 rfl) ?_
        refine lv_aload_n hx hb dX3_tryFrom_80 rfl (lv_at hl 0 rfl) ?_
        refine va_get (D := D) (ci := 3) (v := .int (iI ((n : Nat) : Int))) (C := RX3) (T := TX3) (N := 15) hx hb hts (by decide +kernel) hown hK hP 0 rfl rfl 1 (by decide) (hts (.fieldLink RX3 38 "RentHarmonyModel" "lodgers" "I") (by decide +kernel)) (fun _ h9 => h9) rfl dX3_tryFrom_81 ?_
        refine zr_icmp_ge (tgt := 139) hx hb dX3_tryFrom_84 (by decide) (zB_of (by omega) (by omega)) (zB_of (by omega) (by omega)) (fun c2 => ?_) (fun c2 => ?_)
        · exact zWv_ret hx hb hr hlocks hS dX3_tryFrom_139 (wo1, wy1, ro1, mt1) ⟨by have e9 : r = n := (by omega); rw [zG_FF hlt]; rw [e9] at hst; exact hst, hmt1, hwo1⟩ hP
        · refine lv_aload_n hx hb dX3_tryFrom_87 rfl (lv_at hl 0 rfl) ?_
          refine lv_iload_n hx hb dX3_tryFrom_88 rfl (lv_at hl 1 rfl) ?_
          refine lv_iload_n hx hb dX3_tryFrom_89 rfl (lv_at hl 3 rfl) ?_
          have hmtb : ∀ j, j < 1 → 0 ≤ mt1 j ∧ mt1 j ≤ 6 := fun j hj => by rw [hmt1 j hj, hpre j hj]; have := hpl j hj; omega
          have eT : zTk mt1 1 = zTk mt 1 := zTk_congr 1 hmt1
          refine zc_ri (As := [.int (iI ((1 : Nat) : Int)), .int (iI ((r : Nat) : Int))]) (rest := []) hF (c_X3_isTaken l D cI M MB MR ME MZ MT n b ro1 me mq mt1 th rc wo1 wy1 po fe wh wi mu 1 r (by omega) (by omega) (by assumption) (by assumption) (by assumption) (by assumption)) (cwV 2 hts gX3_tryFrom_X3_isTaken rfl rfl rfl (by decide +kernel) ⟨Nat.le_of_ble_eq_true rfl, Nat.le_of_ble_eq_true rfl⟩) hK hP [0, 1, 2, 3, 4, 5] rfl 0 rfl 0 rfl rfl rfl rfl hl.1 rfl (Nat.le_of_ble_eq_true rfl) dX3_tryFrom_90 ⟨Nat.zero_le _, Nat.zero_le _⟩ ?_
          refine zr_ifB_eq (tgt := 99) hx hb dX3_tryFrom_93 (by decide)  (fun c3 => ?_) (fun c3 => ?_)
          · have hP9 := c3
            rw [eT] at hP9
            refine lv_aload_n hx hb dX3_tryFrom_99 rfl (lv_at hl 0 rfl) ?_
            refine va_get (D := D) (ci := 3) (v := .ref MT) (C := RX3) (T := TX3) (N := 15) hx hb hts (by decide +kernel) hown hK hP 0 rfl rfl 10 (by decide) (hts (.fieldLink RX3 22 "RentHarmonyModel" "tried" "[I") (by decide +kernel)) (fun _ h9 => h9) rfl dX3_tryFrom_100 ?_
            refine lv_iload_n hx hb dX3_tryFrom_103 rfl (lv_at hl 1 rfl) ?_
            refine lv_iload_n hx hb dX3_tryFrom_104 rfl (lv_at hl 3 rfl) ?_
            refine zr_iast hx hb hK hP hD hS 5 0 rfl rfl (1) (by omega) (by omega) (by omega) dX3_tryFrom_105 (fun H locs hP hD hS => ?_)
            have hP : va_P D vwCl [(M, .inr (3, [.int (iI (th)), .int (iI ((n : Nat) : Int)), .int (iI (rc)), .ref MB, .ref MR, .ref ME, .ref MZ, .int (iI (wo1)), .int (iI (wy1)), .int (iI (po)), .ref MT, .int (iI (fe)), .int (iI (wh)), .int (iI (wi)), .int (iI (mu))])), (MB, zArr cI 36 b), (MR, zArr cI 6 ro1), (ME, zArr cI 6 me), (MZ, zArr cI 6 mq), (MT, zArr cI 6 (uZ mt1 (1) ((r : Nat) : Int)))] H := hP
            have hD : va_D A [(M, .inr (3, [.int (iI (th)), .int (iI ((n : Nat) : Int)), .int (iI (rc)), .ref MB, .ref MR, .ref ME, .ref MZ, .int (iI (wo1)), .int (iI (wy1)), .int (iI (po)), .ref MT, .int (iI (fe)), .int (iI (wh)), .int (iI (wi)), .int (iI (mu))])), (MB, zArr cI 36 b), (MR, zArr cI 6 ro1), (ME, zArr cI 6 me), (MZ, zArr cI 6 mq), (MT, zArr cI 6 (uZ mt1 (1) ((r : Nat) : Int)))] := hD
            refine lv_aload_n hx hb dX3_tryFrom_106 rfl (lv_at hl 0 rfl) ?_
            refine lv_iload_n hx hb dX3_tryFrom_107 rfl (lv_at hl 1 rfl) ?_
            refine zr_ic (n := ((1 : Nat) : Int)) hx hb dX3_tryFrom_108 ?_
            refine zr_addN (x := 1) (y := 1) hx hb dX3_tryFrom_109 ?_
            refine zr_topi (show ((1 + 1 : Nat) : Int) = ((2 : Nat) : Int) from rfl) ?_
            refine lv_iload_n hx hb dX3_tryFrom_110 rfl (lv_at hl 2 rfl) ?_
            refine lv_iload_n hx hb dX3_tryFrom_111 rfl (lv_at hl 1 rfl) ?_
            refine lv_aload_n hx hb dX3_tryFrom_112 rfl (lv_at hl 0 rfl) ?_
            refine va_get (D := D) (ci := 3) (v := .int (iI (fe))) (C := RX3) (T := TX3) (N := 15) hx hb hts (by decide +kernel) hown hK hP 0 rfl rfl 11 (by decide) (hts (.fieldLink RX3 25 "RentHarmonyModel" "free" "I") (by decide +kernel)) (fun _ h9 => h9) rfl dX3_tryFrom_113 ?_
            refine zr_icmp_ne (tgt := 123) hx hb dX3_tryFrom_116 (by decide) (zB_of (by omega) (by omega)) (zB_of (by omega) (by omega)) (fun c4 => ?_) (fun c4 => ?_)
            · have hf9 := c4
              refine lv_aload_n hx hb dX3_tryFrom_123 rfl (lv_at hl 0 rfl) ?_
              refine lv_iload_n hx hb dX3_tryFrom_124 rfl (lv_at hl 1 rfl) ?_
              refine lv_iload_n hx hb dX3_tryFrom_125 rfl (lv_at hl 3 rfl) ?_
              refine zc_ri (As := [.int (iI ((1 : Nat) : Int)), .int (iI ((r : Nat) : Int))]) (rest := [.int (iI (sum)), .int (iI ((2 : Nat) : Int)), .ref M]) hF (c_X3_bi l D cI M MB MR ME MZ MT n b ro1 me mq (uZ mt1 (1) ((r : Nat) : Int)) th rc wo1 wy1 po fe wh wi mu 1 r (by omega) (by omega)) (cwV 2 hts gX3_tryFrom_X3_bi rfl rfl rfl (by decide +kernel) ⟨Nat.le_of_ble_eq_true rfl, Nat.le_of_ble_eq_true rfl⟩) hK hP [0, 1, 2, 3, 4, 5] rfl 0 rfl 0 rfl rfl rfl rfl hl.1 rfl (Nat.le_of_ble_eq_true rfl) dX3_tryFrom_126 ⟨Nat.zero_le _, Nat.zero_le _⟩ ?_
              refine zr_topi (show (b (1 * 6 + r)) = (zVf b fe 1 r) from by unfold zVf; rw [if_neg hf9]) ?_
              have hvb := zVf_b hb0 fe 1 r
              refine zr_add hx hb dX3_tryFrom_129 ?_
              refine zc_wv (As := [.int (iI ((2 : Nat) : Int)), .int (iI (sum + (zVf b fe 1 r)))]) (rest := []) hF (c_X3_tryFrom_2 l D cI M MB MR ME MZ MT n b ro1 me mq (uZ mt1 (1) ((r : Nat) : Int)) th rc wo1 wy1 po fe wh wi mu (pre ++ [r]) (sum + (zVf b fe 1 r)) (by omega) (by assumption) (by omega) (by rw [List.length_append, hlen]; rfl) (zSnoc hlen (fun j hj => (hmt1 j hj).trans (hpre j hj))) (zSnoc_lt hlen hpl (by omega)) (by omega) (by omega) (by assumption) (by assumption) (by assumption) (by assumption)) (cwV 2 hts gX3_tryFrom_X3_tryFrom rfl rfl rfl (by decide +kernel) ⟨Nat.le_of_ble_eq_true rfl, Nat.le_of_ble_eq_true rfl⟩) hK hP hD hS [0, 1, 2, 3, 4, 5] rfl rfl (fun _ => rfl) 0 rfl 0 rfl rfl rfl rfl hl.1 rfl (Nat.le_of_ble_eq_true rfl) dX3_tryFrom_130 ⟨Nat.zero_le _, Nat.zero_le _⟩ (fun u5 H locs hw hP hD hS => ?_)
              obtain ⟨wo7, wy7, ro7, mt7⟩ := u5
              obtain ⟨hs7, hm7, hb7⟩ := hw
              have hP : va_P D vwCl [(M, .inr (3, [.int (iI (th)), .int (iI ((n : Nat) : Int)), .int (iI (rc)), .ref MB, .ref MR, .ref ME, .ref MZ, .int (iI (wo7)), .int (iI (wy7)), .int (iI (po)), .ref MT, .int (iI (fe)), .int (iI (wh)), .int (iI (wi)), .int (iI (mu))])), (MB, zArr cI 36 b), (MR, zArr cI 6 ro7), (ME, zArr cI 6 me), (MZ, zArr cI 6 mq), (MT, zArr cI 6 mt7)] H := hP
              have hD : va_D A [(M, .inr (3, [.int (iI (th)), .int (iI ((n : Nat) : Int)), .int (iI (rc)), .ref MB, .ref MR, .ref ME, .ref MZ, .int (iI (wo7)), .int (iI (wy7)), .int (iI (po)), .ref MT, .int (iI (fe)), .int (iI (wh)), .int (iI (wi)), .int (iI (mu))])), (MB, zArr cI 36 b), (MR, zArr cI 6 ro7), (ME, zArr cI 6 me), (MZ, zArr cI 6 mq), (MT, zArr cI 6 mt7)] := hD
              have hs9 : zStep n pre sum (zFF n b fe wh wi mu mt 1 r) wo1 wy1 ro1 wo7 wy7 ro7 := by
                have h9 : zStep n (pre ++ [r]) (sum + zVf b fe 1 r) (zG n (zAl wh wi mu) (zVf b fe) (n - 2) 2 (zTk (uZ mt1 1 ((r : Nat) : Int)) (1 + 1))) wo1 wy1 ro1 wo7 wy7 ro7 := hs7
                rw [zTk_add, eT] at h9
                unfold zFF; rw [if_neg hP9]; exact zStep_deep h9
              have hm9 : ∀ j, j < 1 → mt7 j = mt j := fun j hj => (hm7 j (by omega)).trans ((uZ_n _ _ (by omega)).trans (hmt1 j hj))
              have hb9 := hb7
              refine zr_iinc (lv2 := [(3, .int (iI (((r : Nat) : Int) + 1))), (0, .ref M), (1, .int (iI ((1 : Nat) : Int))), (2, .int (iI (sum)))]) hx hb dX3_tryFrom_133 hl (k0 := 3) rfl (by decide) rfl (fun ls hl => ?_)
              have hl : lv_has ls 4 [(3, .int (iI ((r + 1 : Nat) : Int))), (0, .ref M), (1, .int (iI ((1 : Nat) : Int))), (2, .int (iI (sum)))] := hl
              refine lv_goto (tgt := 79) hx hb dX3_tryFrom_136 (by decide) ?_
              exact ih_LT (r + 1) (wo7) (wy7) (ro7) (mt7) (by omega) (by omega) (zStep_comb hst hs9) hm9 hb9 _ _ hP hD hS _ (lv_sub hl [1, 2, 3, 0] rfl)
            · have hf9 := c4
              refine zr_ic (n := ((0 : Nat) : Int)) hx hb dX3_tryFrom_119 ?_
              refine lv_goto (tgt := 129) hx hb dX3_tryFrom_120 (by decide) ?_
              refine zr_topi (show ((0 : Nat) : Int) = (zVf b fe 1 r) from by unfold zVf; rw [if_pos hf9]; rfl) ?_
              have hvb := zVf_b hb0 fe 1 r
              refine zr_add hx hb dX3_tryFrom_129 ?_
              refine zc_wv (As := [.int (iI ((2 : Nat) : Int)), .int (iI (sum + (zVf b fe 1 r)))]) (rest := []) hF (c_X3_tryFrom_2 l D cI M MB MR ME MZ MT n b ro1 me mq (uZ mt1 (1) ((r : Nat) : Int)) th rc wo1 wy1 po fe wh wi mu (pre ++ [r]) (sum + (zVf b fe 1 r)) (by omega) (by assumption) (by omega) (by rw [List.length_append, hlen]; rfl) (zSnoc hlen (fun j hj => (hmt1 j hj).trans (hpre j hj))) (zSnoc_lt hlen hpl (by omega)) (by omega) (by omega) (by assumption) (by assumption) (by assumption) (by assumption)) (cwV 2 hts gX3_tryFrom_X3_tryFrom rfl rfl rfl (by decide +kernel) ⟨Nat.le_of_ble_eq_true rfl, Nat.le_of_ble_eq_true rfl⟩) hK hP hD hS [0, 1, 2, 3, 4, 5] rfl rfl (fun _ => rfl) 0 rfl 0 rfl rfl rfl rfl hl.1 rfl (Nat.le_of_ble_eq_true rfl) dX3_tryFrom_130 ⟨Nat.zero_le _, Nat.zero_le _⟩ (fun u8 H locs hw hP hD hS => ?_)
              obtain ⟨wo10, wy10, ro10, mt10⟩ := u8
              obtain ⟨hs10, hm10, hb10⟩ := hw
              have hP : va_P D vwCl [(M, .inr (3, [.int (iI (th)), .int (iI ((n : Nat) : Int)), .int (iI (rc)), .ref MB, .ref MR, .ref ME, .ref MZ, .int (iI (wo10)), .int (iI (wy10)), .int (iI (po)), .ref MT, .int (iI (fe)), .int (iI (wh)), .int (iI (wi)), .int (iI (mu))])), (MB, zArr cI 36 b), (MR, zArr cI 6 ro10), (ME, zArr cI 6 me), (MZ, zArr cI 6 mq), (MT, zArr cI 6 mt10)] H := hP
              have hD : va_D A [(M, .inr (3, [.int (iI (th)), .int (iI ((n : Nat) : Int)), .int (iI (rc)), .ref MB, .ref MR, .ref ME, .ref MZ, .int (iI (wo10)), .int (iI (wy10)), .int (iI (po)), .ref MT, .int (iI (fe)), .int (iI (wh)), .int (iI (wi)), .int (iI (mu))])), (MB, zArr cI 36 b), (MR, zArr cI 6 ro10), (ME, zArr cI 6 me), (MZ, zArr cI 6 mq), (MT, zArr cI 6 mt10)] := hD
              have hs9 : zStep n pre sum (zFF n b fe wh wi mu mt 1 r) wo1 wy1 ro1 wo10 wy10 ro10 := by
                have h9 : zStep n (pre ++ [r]) (sum + zVf b fe 1 r) (zG n (zAl wh wi mu) (zVf b fe) (n - 2) 2 (zTk (uZ mt1 1 ((r : Nat) : Int)) (1 + 1))) wo1 wy1 ro1 wo10 wy10 ro10 := hs10
                rw [zTk_add, eT] at h9
                unfold zFF; rw [if_neg hP9]; exact zStep_deep h9
              have hm9 : ∀ j, j < 1 → mt10 j = mt j := fun j hj => (hm10 j (by omega)).trans ((uZ_n _ _ (by omega)).trans (hmt1 j hj))
              have hb9 := hb10
              refine zr_iinc (lv2 := [(3, .int (iI (((r : Nat) : Int) + 1))), (0, .ref M), (1, .int (iI ((1 : Nat) : Int))), (2, .int (iI (sum)))]) hx hb dX3_tryFrom_133 hl (k0 := 3) rfl (by decide) rfl (fun ls hl => ?_)
              have hl : lv_has ls 4 [(3, .int (iI ((r + 1 : Nat) : Int))), (0, .ref M), (1, .int (iI ((1 : Nat) : Int))), (2, .int (iI (sum)))] := hl
              refine lv_goto (tgt := 79) hx hb dX3_tryFrom_136 (by decide) ?_
              exact ih_LT (r + 1) (wo10) (wy10) (ro10) (mt10) (by omega) (by omega) (zStep_comb hst hs9) hm9 hb9 _ _ hP hD hS _ (lv_sub hl [1, 2, 3, 0] rfl)
          · have hP9 := c3
            rw [eT] at hP9
            refine lv_goto (tgt := 133) hx hb dX3_tryFrom_96 (by decide) ?_
            refine zr_iinc (lv2 := [(3, .int (iI (((r : Nat) : Int) + 1))), (0, .ref M), (1, .int (iI ((1 : Nat) : Int))), (2, .int (iI (sum)))]) hx hb dX3_tryFrom_133 hl (k0 := 3) rfl (by decide) rfl (fun ls hl => ?_)
            have hl : lv_has ls 4 [(3, .int (iI ((r + 1 : Nat) : Int))), (0, .ref M), (1, .int (iI ((1 : Nat) : Int))), (2, .int (iI (sum)))] := hl
            refine lv_goto (tgt := 79) hx hb dX3_tryFrom_136 (by decide) ?_
            exact ih_LT (r + 1) (wo1) (wy1) (ro1) (mt1) (by omega) (by omega) (zStep_comb hst (by unfold zFF; rw [if_pos hP9]; exact zStep_none)) hmt1 hwo1 _ _ hP hD hS _ (lv_sub hl [1, 2, 3, 0] rfl)
    exact LT ((n - (0)) + 1) (0) (wo) (wy) (mr) (mt) (Nat.lt_succ_self _) (Nat.zero_le _) ⟨rfl, rfl, rfl⟩ (fun _ _ => rfl) hwo _ _ hP hD hS _ (lv_sub hl [1, 2, 3, 0] rfl)
  · have hkn2 : 1 = n := by omega
    have e0 : n - 1 = 0 := by omega
    have hlf := zStep_leaf (sum := sum) (w := wo) (y := wy) (ro := mr) (hlen.trans hkn2) (fun j hj => hpre j (by omega))
    refine lv_aload_n hx hb dX3_tryFrom_8 rfl (lv_at hl 0 rfl) ?_
    refine lv_iload_n hx hb dX3_tryFrom_9 rfl (lv_at hl 2 rfl) ?_
    refine lv_aload_n hx hb dX3_tryFrom_10 rfl (lv_at hl 0 rfl) ?_
    refine va_get (D := D) (ci := 3) (v := .int (iI (wo))) (C := RX3) (T := TX3) (N := 15) hx hb hts (by decide +kernel) hown hK hP 0 rfl rfl 7 (by decide) (hts (.fieldLink RX3 64 "RentHarmonyModel" "worth" "I") (by decide +kernel)) (fun _ h9 => h9) rfl dX3_tryFrom_11 ?_
    refine zr_icmp_le (tgt := 21) hx hb dX3_tryFrom_14 (by decide) (zB_of (by omega) (by omega)) (zB_of (by omega) (by omega)) (fun c11 => ?_) (fun c11 => ?_)
    · refine lv_iload_n hx hb dX3_tryFrom_21 rfl (lv_at hl 2 rfl) ?_
      refine lv_aload_n hx hb dX3_tryFrom_22 rfl (lv_at hl 0 rfl) ?_
      refine va_get (D := D) (ci := 3) (v := .int (iI (wo))) (C := RX3) (T := TX3) (N := 15) hx hb hts (by decide +kernel) hown hK hP 0 rfl rfl 7 (by decide) (hts (.fieldLink RX3 64 "RentHarmonyModel" "worth" "I") (by decide +kernel)) (fun _ h9 => h9) rfl dX3_tryFrom_23 ?_
      refine zr_icmp_ne (tgt := 38) hx hb dX3_tryFrom_26 (by decide) (zB_of (by omega) (by omega)) (zB_of (by omega) (by omega)) (fun c12 => ?_) (fun c12 => ?_)
      · have hcmp := c12
        refine lv_aload_n hx hb dX3_tryFrom_38 rfl (lv_at hl 0 rfl) ?_
        refine va_get (D := D) (ci := 3) (v := .int (iI (wy))) (C := RX3) (T := TX3) (N := 15) hx hb hts (by decide +kernel) hown hK hP 0 rfl rfl 8 (by decide) (hts (.fieldLink RX3 67 "RentHarmonyModel" "ways" "I") (by decide +kernel)) (fun _ h9 => h9) rfl dX3_tryFrom_39 ?_
        refine va_put (D := D) (ci := 3) (v := .int (iI (wy))) (ty := .int) (C := RX3) (T := TX3) (N := 15) hx hb hts (by decide +kernel) tyX3 tyX3_ok nmX3 hown hK hP hD hS 0 rfl rfl 8 (by decide) (hts (.fieldLink RX3 67 "RentHarmonyModel" "ways" "I") (by decide +kernel)) (fun _ h9 => h9) rfl (by decide +kernel) rfl rfl (Nat.le_of_ble_eq_true rfl) dX3_tryFrom_42 (fun H locs hP hD hS => ?_)
        have hP : va_P D vwCl [(M, .inr (3, [.int (iI (th)), .int (iI ((n : Nat) : Int)), .int (iI (rc)), .ref MB, .ref MR, .ref ME, .ref MZ, .int (iI (wo)), .int (iI (wy)), .int (iI (po)), .ref MT, .int (iI (fe)), .int (iI (wh)), .int (iI (wi)), .int (iI (mu))])), (MB, zArr cI 36 b), (MR, zArr cI 6 mr), (ME, zArr cI 6 me), (MZ, zArr cI 6 mq), (MT, zArr cI 6 mt)] H := hP
        have hD : va_D A [(M, .inr (3, [.int (iI (th)), .int (iI ((n : Nat) : Int)), .int (iI (rc)), .ref MB, .ref MR, .ref ME, .ref MZ, .int (iI (wo)), .int (iI (wy)), .int (iI (po)), .ref MT, .int (iI (fe)), .int (iI (wh)), .int (iI (wi)), .int (iI (mu))])), (MB, zArr cI 36 b), (MR, zArr cI 6 mr), (ME, zArr cI 6 me), (MZ, zArr cI 6 mq), (MT, zArr cI 6 mt)] := hD
        refine lv_iload_n hx hb dX3_tryFrom_45 rfl (lv_at hl 2 rfl) ?_
        refine lv_aload_n hx hb dX3_tryFrom_46 rfl (lv_at hl 0 rfl) ?_
        refine va_get (D := D) (ci := 3) (v := .int (iI (wo))) (C := RX3) (T := TX3) (N := 15) hx hb hts (by decide +kernel) hown hK hP 0 rfl rfl 7 (by decide) (hts (.fieldLink RX3 64 "RentHarmonyModel" "worth" "I") (by decide +kernel)) (fun _ h9 => h9) rfl dX3_tryFrom_47 ?_
        refine zr_icmp_gt (tgt := 54) hx hb dX3_tryFrom_50 (by decide) (zB_of (by omega) (by omega)) (zB_of (by omega) (by omega)) (fun c13 => ?_) (fun c13 => ?_)
        · exact absurd c13 (by omega)
        · exact zWv_ret hx hb hr hlocks hS dX3_tryFrom_53 (wo, wy, mr, mt) ⟨by show zStep n pre sum (zG n (zAl wh wi mu) (zVf b fe) (n - 1) 1 (zTk mt 1)) wo wy mr _ _ _; rw [e0]; exact hlf.2.2 (by omega), fun _ _ => rfl, by show -1 ≤ _ ∧ _ ≤ (6000 : Int); omega⟩ hP
      · have hcmp := c12
        refine lv_aload_n hx hb dX3_tryFrom_29 rfl (lv_at hl 0 rfl) ?_
        refine va_get (D := D) (ci := 3) (v := .int (iI (wy))) (C := RX3) (T := TX3) (N := 15) hx hb hts (by decide +kernel) hown hK hP 0 rfl rfl 8 (by decide) (hts (.fieldLink RX3 67 "RentHarmonyModel" "ways" "I") (by decide +kernel)) (fun _ h9 => h9) rfl dX3_tryFrom_30 ?_
        refine zr_ic (n := ((1 : Nat) : Int)) hx hb dX3_tryFrom_33 ?_
        refine zr_add hx hb dX3_tryFrom_34 ?_
        refine lv_goto (tgt := 42) hx hb dX3_tryFrom_35 (by decide) ?_
        refine va_put (D := D) (ci := 3) (v := .int (iI (wy + ((1 : Nat) : Int)))) (ty := .int) (C := RX3) (T := TX3) (N := 15) hx hb hts (by decide +kernel) tyX3 tyX3_ok nmX3 hown hK hP hD hS 0 rfl rfl 8 (by decide) (hts (.fieldLink RX3 67 "RentHarmonyModel" "ways" "I") (by decide +kernel)) (fun _ h9 => h9) rfl (by decide +kernel) rfl rfl (Nat.le_of_ble_eq_true rfl) dX3_tryFrom_42 (fun H locs hP hD hS => ?_)
        have hP : va_P D vwCl [(M, .inr (3, [.int (iI (th)), .int (iI ((n : Nat) : Int)), .int (iI (rc)), .ref MB, .ref MR, .ref ME, .ref MZ, .int (iI (wo)), .int (iI (wy + ((1 : Nat) : Int))), .int (iI (po)), .ref MT, .int (iI (fe)), .int (iI (wh)), .int (iI (wi)), .int (iI (mu))])), (MB, zArr cI 36 b), (MR, zArr cI 6 mr), (ME, zArr cI 6 me), (MZ, zArr cI 6 mq), (MT, zArr cI 6 mt)] H := hP
        have hD : va_D A [(M, .inr (3, [.int (iI (th)), .int (iI ((n : Nat) : Int)), .int (iI (rc)), .ref MB, .ref MR, .ref ME, .ref MZ, .int (iI (wo)), .int (iI (wy + ((1 : Nat) : Int))), .int (iI (po)), .ref MT, .int (iI (fe)), .int (iI (wh)), .int (iI (wi)), .int (iI (mu))])), (MB, zArr cI 36 b), (MR, zArr cI 6 mr), (ME, zArr cI 6 me), (MZ, zArr cI 6 mq), (MT, zArr cI 6 mt)] := hD
        refine lv_iload_n hx hb dX3_tryFrom_45 rfl (lv_at hl 2 rfl) ?_
        refine lv_aload_n hx hb dX3_tryFrom_46 rfl (lv_at hl 0 rfl) ?_
        refine va_get (D := D) (ci := 3) (v := .int (iI (wo))) (C := RX3) (T := TX3) (N := 15) hx hb hts (by decide +kernel) hown hK hP 0 rfl rfl 7 (by decide) (hts (.fieldLink RX3 64 "RentHarmonyModel" "worth" "I") (by decide +kernel)) (fun _ h9 => h9) rfl dX3_tryFrom_47 ?_
        refine zr_icmp_gt (tgt := 54) hx hb dX3_tryFrom_50 (by decide) (zB_of (by omega) (by omega)) (zB_of (by omega) (by omega)) (fun c14 => ?_) (fun c14 => ?_)
        · exact absurd c14 (by omega)
        · exact zWv_ret hx hb hr hlocks hS dX3_tryFrom_53 (wo, (wy + ((1 : Nat) : Int)), mr, mt) ⟨by show zStep n pre sum (zG n (zAl wh wi mu) (zVf b fe) (n - 1) 1 (zTk mt 1)) wo wy mr _ _ _; rw [e0]; exact hlf.2.1 (by omega), fun _ _ => rfl, by show -1 ≤ _ ∧ _ ≤ (6000 : Int); omega⟩ hP
    · have hgt := c11
      refine zr_ic (n := ((1 : Nat) : Int)) hx hb dX3_tryFrom_17 ?_
      refine lv_goto (tgt := 42) hx hb dX3_tryFrom_18 (by decide) ?_
      refine va_put (D := D) (ci := 3) (v := .int (iI ((1 : Nat) : Int))) (ty := .int) (C := RX3) (T := TX3) (N := 15) hx hb hts (by decide +kernel) tyX3 tyX3_ok nmX3 hown hK hP hD hS 0 rfl rfl 8 (by decide) (hts (.fieldLink RX3 67 "RentHarmonyModel" "ways" "I") (by decide +kernel)) (fun _ h9 => h9) rfl (by decide +kernel) rfl rfl (Nat.le_of_ble_eq_true rfl) dX3_tryFrom_42 (fun H locs hP hD hS => ?_)
      have hP : va_P D vwCl [(M, .inr (3, [.int (iI (th)), .int (iI ((n : Nat) : Int)), .int (iI (rc)), .ref MB, .ref MR, .ref ME, .ref MZ, .int (iI (wo)), .int (iI ((1 : Nat) : Int)), .int (iI (po)), .ref MT, .int (iI (fe)), .int (iI (wh)), .int (iI (wi)), .int (iI (mu))])), (MB, zArr cI 36 b), (MR, zArr cI 6 mr), (ME, zArr cI 6 me), (MZ, zArr cI 6 mq), (MT, zArr cI 6 mt)] H := hP
      have hD : va_D A [(M, .inr (3, [.int (iI (th)), .int (iI ((n : Nat) : Int)), .int (iI (rc)), .ref MB, .ref MR, .ref ME, .ref MZ, .int (iI (wo)), .int (iI ((1 : Nat) : Int)), .int (iI (po)), .ref MT, .int (iI (fe)), .int (iI (wh)), .int (iI (wi)), .int (iI (mu))])), (MB, zArr cI 36 b), (MR, zArr cI 6 mr), (ME, zArr cI 6 me), (MZ, zArr cI 6 mq), (MT, zArr cI 6 mt)] := hD
      refine lv_iload_n hx hb dX3_tryFrom_45 rfl (lv_at hl 2 rfl) ?_
      refine lv_aload_n hx hb dX3_tryFrom_46 rfl (lv_at hl 0 rfl) ?_
      refine va_get (D := D) (ci := 3) (v := .int (iI (wo))) (C := RX3) (T := TX3) (N := 15) hx hb hts (by decide +kernel) hown hK hP 0 rfl rfl 7 (by decide) (hts (.fieldLink RX3 64 "RentHarmonyModel" "worth" "I") (by decide +kernel)) (fun _ h9 => h9) rfl dX3_tryFrom_47 ?_
      refine zr_icmp_gt (tgt := 54) hx hb dX3_tryFrom_50 (by decide) (zB_of (by omega) (by omega)) (zB_of (by omega) (by omega)) (fun c15 => ?_) (fun c15 => ?_)
      · refine lv_aload_n hx hb dX3_tryFrom_54 rfl (lv_at hl 0 rfl) ?_
        refine lv_iload_n hx hb dX3_tryFrom_55 rfl (lv_at hl 2 rfl) ?_
        refine va_put (D := D) (ci := 3) (v := .int (iI (sum))) (ty := .int) (C := RX3) (T := TX3) (N := 15) hx hb hts (by decide +kernel) tyX3 tyX3_ok nmX3 hown hK hP hD hS 0 rfl rfl 7 (by decide) (hts (.fieldLink RX3 64 "RentHarmonyModel" "worth" "I") (by decide +kernel)) (fun _ h9 => h9) rfl (by decide +kernel) rfl rfl (Nat.le_of_ble_eq_true rfl) dX3_tryFrom_56 (fun H locs hP hD hS => ?_)
        have hP : va_P D vwCl [(M, .inr (3, [.int (iI (th)), .int (iI ((n : Nat) : Int)), .int (iI (rc)), .ref MB, .ref MR, .ref ME, .ref MZ, .int (iI (sum)), .int (iI ((1 : Nat) : Int)), .int (iI (po)), .ref MT, .int (iI (fe)), .int (iI (wh)), .int (iI (wi)), .int (iI (mu))])), (MB, zArr cI 36 b), (MR, zArr cI 6 mr), (ME, zArr cI 6 me), (MZ, zArr cI 6 mq), (MT, zArr cI 6 mt)] H := hP
        have hD : va_D A [(M, .inr (3, [.int (iI (th)), .int (iI ((n : Nat) : Int)), .int (iI (rc)), .ref MB, .ref MR, .ref ME, .ref MZ, .int (iI (sum)), .int (iI ((1 : Nat) : Int)), .int (iI (po)), .ref MT, .int (iI (fe)), .int (iI (wh)), .int (iI (wi)), .int (iI (mu))])), (MB, zArr cI 36 b), (MR, zArr cI 6 mr), (ME, zArr cI 6 me), (MZ, zArr cI 6 mq), (MT, zArr cI 6 mt)] := hD
        refine lv_aload_n hx hb dX3_tryFrom_59 rfl (lv_at hl 0 rfl) ?_
        refine va_get (D := D) (ci := 3) (v := .ref MT) (C := RX3) (T := TX3) (N := 15) hx hb hts (by decide +kernel) hown hK hP 0 rfl rfl 10 (by decide) (hts (.fieldLink RX3 22 "RentHarmonyModel" "tried" "[I") (by decide +kernel)) (fun _ h9 => h9) rfl dX3_tryFrom_60 ?_
        refine zr_ic (n := ((0 : Nat) : Int)) hx hb dX3_tryFrom_63 ?_
        refine lv_aload_n hx hb dX3_tryFrom_64 rfl (lv_at hl 0 rfl) ?_
        refine va_get (D := D) (ci := 3) (v := .ref MR) (C := RX3) (T := TX3) (N := 15) hx hb hts (by decide +kernel) hown hK hP 0 rfl rfl 4 (by decide) (hts (.fieldLink RX3 13 "RentHarmonyModel" "rooms" "[I") (by decide +kernel)) (fun _ h9 => h9) rfl dX3_tryFrom_65 ?_
        refine zr_ic (n := ((0 : Nat) : Int)) hx hb dX3_tryFrom_68 ?_
        refine lv_aload_n hx hb dX3_tryFrom_69 rfl (lv_at hl 0 rfl) ?_
        refine va_get (D := D) (ci := 3) (v := .int (iI ((n : Nat) : Int))) (C := RX3) (T := TX3) (N := 15) hx hb hts (by decide +kernel) hown hK hP 0 rfl rfl 1 (by decide) (hts (.fieldLink RX3 38 "RentHarmonyModel" "lodgers" "I") (by decide +kernel)) (fun _ h9 => h9) rfl dX3_tryFrom_70 ?_
        refine zr_copy (rest := []) hx hb (hml.trans hl.1.symm) hown (hts (.methodLink RX3 70 arraycopyName) (by decide +kernel)) (hts (.native arraycopyName) (by decide +kernel)) (hts (.static arraycopyName) (by decide +kernel)) (hts (.initialized "java/lang/System") (by decide +kernel)) hK hP hD hS 5 2 0 rfl rfl rfl (n) (by omega) (by omega) (by omega) (by decide) (Nat.le_of_ble_eq_true rfl) (by decide +kernel) dX3_tryFrom_73 (fun H locs hP hD hS => ?_)
        have hP : va_P D vwCl [(M, .inr (3, [.int (iI (th)), .int (iI ((n : Nat) : Int)), .int (iI (rc)), .ref MB, .ref MR, .ref ME, .ref MZ, .int (iI (sum)), .int (iI ((1 : Nat) : Int)), .int (iI (po)), .ref MT, .int (iI (fe)), .int (iI (wh)), .int (iI (wi)), .int (iI (mu))])), (MB, zArr cI 36 b), (MR, zArr cI 6 (zCpy mt mr (n))), (ME, zArr cI 6 me), (MZ, zArr cI 6 mq), (MT, zArr cI 6 mt)] H := hP
        have hD : va_D A [(M, .inr (3, [.int (iI (th)), .int (iI ((n : Nat) : Int)), .int (iI (rc)), .ref MB, .ref MR, .ref ME, .ref MZ, .int (iI (sum)), .int (iI ((1 : Nat) : Int)), .int (iI (po)), .ref MT, .int (iI (fe)), .int (iI (wh)), .int (iI (wi)), .int (iI (mu))])), (MB, zArr cI 36 b), (MR, zArr cI 6 (zCpy mt mr (n))), (ME, zArr cI 6 me), (MZ, zArr cI 6 mq), (MT, zArr cI 6 mt)] := hD
        exact zWv_ret hx hb hr hlocks hS dX3_tryFrom_76 (sum, ((1 : Nat) : Int), (zCpy mt mr (n)), mt) ⟨by show zStep n pre sum (zG n (zAl wh wi mu) (zVf b fe) (n - 1) 1 (zTk mt 1)) wo wy mr _ _ _; rw [e0]; exact hlf.1 (by omega), fun _ _ => rfl, by show -1 ≤ _ ∧ _ ≤ (6000 : Int); omega⟩ hP
      · exact absurd c15 (by omega)
set_option maxHeartbeats 4000000 in
set_option maxRecDepth 100000 in
/-- X3_tryFrom -/
theorem c_X3_tryFrom_0 (l : Launch) (D : va_G) (cI : ClassId) (M MB MR ME MZ MT n : Nat) (b mr me mq mt : Nat → Int) (th rc wo wy po fe wh wi mu : Int) (pre : List Nat) (sum : Int) (hn : n ≤ 6) (hb0 : ∀ k, 0 ≤ b k ∧ b k ≤ 999) (hkn : 0 ≤ n) (hlen : pre.length = 0) (hpre : ∀ j, j < 0 → mt j = ((pre.getD j 0 : Nat) : Int)) (hpl : ∀ j, j < 0 → pre.getD j 0 < 6) (hsum : 0 ≤ sum ∧ sum ≤ 999 * 0) (hwo : -1 ≤ wo ∧ wo ≤ 6000) (hfe : zB fe) (hwh : zB wh) (hwi : zB wi) (hmu : 0 ≤ mu ∧ mu ≤ 1) : zWv (S := Int × Int × (Nat → Int) × (Nat → Int)) l yX3_tryFrom wsX3_tryFrom 7 168 D cI [.ref M, .int (iI ((0 : Nat) : Int)), .int (iI (sum))] [(M, .inr (3, [.int (iI (th)), .int (iI ((n : Nat) : Int)), .int (iI (rc)), .ref MB, .ref MR, .ref ME, .ref MZ, .int (iI (wo)), .int (iI (wy)), .int (iI (po)), .ref MT, .int (iI (fe)), .int (iI (wh)), .int (iI (wi)), .int (iI (mu))])), (MB, zArr cI 36 b), (MR, zArr cI 6 mr), (ME, zArr cI 6 me), (MZ, zArr cI 6 mq), (MT, zArr cI 6 mt)] (fun u8 => zStep n pre sum (zG n (zAl wh wi mu) (zVf b fe) (n - 0) 0 (zTk mt 0)) wo wy mr u8.1 u8.2.1 u8.2.2.1 ∧ (∀ j, j < 0 → u8.2.2.2 j = mt j) ∧ (-1 ≤ u8.1 ∧ u8.1 ≤ 6000)) (fun u8 => [(M, .inr (3, [.int (iI (th)), .int (iI ((n : Nat) : Int)), .int (iI (rc)), .ref MB, .ref MR, .ref ME, .ref MZ, .int (iI (u8.1)), .int (iI (u8.2.1)), .int (iI (po)), .ref MT, .int (iI (fe)), .int (iI (wh)), .int (iI (wi)), .int (iI (mu))])), (MB, zArr cI 36 b), (MR, zArr cI 6 u8.2.2.1), (ME, zArr cI 6 me), (MZ, zArr cI 6 mq), (MT, zArr cI 6 u8.2.2.2)]) := by
  refine zWv_of (cc := cX3_tryFrom) (maxL := 4) (by decide) rfl (Nat.le_of_ble_eq_true rfl) ?_
  intro p e s m args below meth c ls A hF hr hlocks hP hK hD hS hl
  have hF : zFix p m c cX3_tryFrom 4 s args wsX3_tryFrom RX3 := hF
  obtain ⟨hx, hb, hml, hown, hts⟩ := id hF
  have hP : va_P D vwCl [(M, .inr (3, [.int (iI (th)), .int (iI ((n : Nat) : Int)), .int (iI (rc)), .ref MB, .ref MR, .ref ME, .ref MZ, .int (iI (wo)), .int (iI (wy)), .int (iI (po)), .ref MT, .int (iI (fe)), .int (iI (wh)), .int (iI (wi)), .int (iI (mu))])), (MB, zArr cI 36 b), (MR, zArr cI 6 mr), (ME, zArr cI 6 me), (MZ, zArr cI 6 mq), (MT, zArr cI 6 mt)] s.heap := hP
  have hD : va_D A [(M, .inr (3, [.int (iI (th)), .int (iI ((n : Nat) : Int)), .int (iI (rc)), .ref MB, .ref MR, .ref ME, .ref MZ, .int (iI (wo)), .int (iI (wy)), .int (iI (po)), .ref MT, .int (iI (fe)), .int (iI (wh)), .int (iI (wi)), .int (iI (mu))])), (MB, zArr cI 36 b), (MR, zArr cI 6 mr), (ME, zArr cI 6 me), (MZ, zArr cI 6 mq), (MT, zArr cI 6 mt)] := hD
  skip
  have hl : lv_has ls 4 [(0, .ref M), (1, .int (iI ((0 : Nat) : Int))), (2, .int (iI (sum)))] := hl
  have hfe1 := hfe.1
  have hfe2 := hfe.2
  refine lv_iload_n hx hb dX3_tryFrom_0 rfl (lv_at hl 1 rfl) ?_
  refine lv_aload_n hx hb dX3_tryFrom_1 rfl (lv_at hl 0 rfl) ?_
  refine va_get (D := D) (ci := 3) (v := .int (iI ((n : Nat) : Int))) (C := RX3) (T := TX3) (N := 15) hx hb hts (by decide +kernel) hown hK hP 0 rfl rfl 1 (by decide) (hts (.fieldLink RX3 38 "RentHarmonyModel" "lodgers" "I") (by decide +kernel)) (fun _ h9 => h9) rfl dX3_tryFrom_2 ?_
  refine zr_icmp_ne (tgt := 77) hx hb dX3_tryFrom_5 (by decide) (zB_of (by omega) (by omega)) (zB_of (by omega) (by omega)) (fun c1 => ?_) (fun c1 => ?_)
  · have hlt : 0 < n := by omega
    refine zr_ic (n := ((0 : Nat) : Int)) hx hb dX3_tryFrom_77 ?_
    refine lv_istore_n (lv' := [(3, .int (iI ((0 : Nat) : Int))), (0, .ref M), (1, .int (iI ((0 : Nat) : Int))), (2, .int (iI (sum)))]) hx hb dX3_tryFrom_78 rfl hl (by decide) rfl (fun ls hl => ?_)
    have LT : ∀ (k0 : Nat) (r : Nat) (wo1 : Int) (wy1 : Int) (ro1 : Nat → Int) (mt1 : Nat → Int), n - r < k0 → (hr1 : r ≤ n) → (hst : zStep n pre sum (zFold (zFF n b fe wh wi mu mt 0) r) wo wy mr wo1 wy1 ro1) → (hmt1 : ∀ j, j < 0 → mt1 j = mt j) → (hwo1 : -1 ≤ wo1 ∧ wo1 ≤ 6000) → ∀ (H : Heap) (locs : List Loc), va_P D vwCl [(M, .inr (3, [.int (iI (th)), .int (iI ((n : Nat) : Int)), .int (iI (rc)), .ref MB, .ref MR, .ref ME, .ref MZ, .int (iI (wo1)), .int (iI (wy1)), .int (iI (po)), .ref MT, .int (iI (fe)), .int (iI (wh)), .int (iI (wi)), .int (iI (mu))])), (MB, zArr cI 36 b), (MR, zArr cI 6 ro1), (ME, zArr cI 6 me), (MZ, zArr cI 6 mq), (MT, zArr cI 6 mt1)] H → va_D A [(M, .inr (3, [.int (iI (th)), .int (iI ((n : Nat) : Int)), .int (iI (rc)), .ref MB, .ref MR, .ref ME, .ref MZ, .int (iI (wo1)), .int (iI (wy1)), .int (iI (po)), .ref MT, .int (iI (fe)), .int (iI (wh)), .int (iI (wi)), .int (iI (mu))])), (MB, zArr cI 36 b), (MR, zArr cI 6 ro1), (ME, zArr cI 6 me), (MZ, zArr cI 6 mq), (MT, zArr cI 6 mt1)] → va_S A s.heap H locs → ∀ (ls : Array Slot), lv_has ls 4 [(0, .ref M), (1, .int (iI ((0 : Nat) : Int))), (2, .int (iI (sum))), (3, .int (iI ((r : Nat) : Int)))] → W p l e (zRm 7 168) s m args below meth c H locs 0 0 (MQ below (va_Qv (S := Int × Int × (Nat → Int) × (Nat → Int)) (fun u8 => zStep n pre sum (zG n (zAl wh wi mu) (zVf b fe) (n - 0) 0 (zTk mt 0)) wo wy mr u8.1 u8.2.1 u8.2.2.1 ∧ (∀ j, j < 0 → u8.2.2.2 j = mt j) ∧ (-1 ≤ u8.1 ∧ u8.1 ≤ 6000)) (fun u9 t9 => va_P D vwCl ((fun u8 => [(M, .inr (3, [.int (iI (th)), .int (iI ((n : Nat) : Int)), .int (iI (rc)), .ref MB, .ref MR, .ref ME, .ref MZ, .int (iI (u8.1)), .int (iI (u8.2.1)), .int (iI (po)), .ref MT, .int (iI (fe)), .int (iI (wh)), .int (iI (wi)), .int (iI (mu))])), (MB, zArr cI 36 b), (MR, zArr cI 6 u8.2.2.1), (ME, zArr cI 6 me), (MZ, zArr cI 6 mq), (MT, zArr cI 6 u8.2.2.2)]) u9) t9.heap) A) args s 0 0 A) (F0 m 79 ls []) := by
      intro k0
      induction k0 with
      | zero => intro r wo1 wy1 ro1 mt1 hk; exact absurd hk (Nat.not_lt_zero _)
      | succ k0 ih_LT =>
        intro r wo1 wy1 ro1 mt1 hk hr1 hst hmt1 hwo1 H locs hP hD hS ls hl
        refine lv_iload_n hx hb dX3_tryFrom_79 rfl (lv_at hl 3 rfl) ?_
        refine lv_aload_n hx hb dX3_tryFrom_80 rfl (lv_at hl 0 rfl) ?_
        refine va_get (D := D) (ci := 3) (v := .int (iI ((n : Nat) : Int))) (C := RX3) (T := TX3) (N := 15) hx hb hts (by decide +kernel) hown hK hP 0 rfl rfl 1 (by decide) (hts (.fieldLink RX3 38 "RentHarmonyModel" "lodgers" "I") (by decide +kernel)) (fun _ h9 => h9) rfl dX3_tryFrom_81 ?_
        refine zr_icmp_ge (tgt := 139) hx hb dX3_tryFrom_84 (by decide) (zB_of (by omega) (by omega)) (zB_of (by omega) (by omega)) (fun c2 => ?_) (fun c2 => ?_)
        · exact zWv_ret hx hb hr hlocks hS dX3_tryFrom_139 (wo1, wy1, ro1, mt1) ⟨by have e9 : r = n := (by omega); rw [zG_FF hlt]; rw [e9] at hst; exact hst, hmt1, hwo1⟩ hP
        · refine lv_aload_n hx hb dX3_tryFrom_87 rfl (lv_at hl 0 rfl) ?_
          refine lv_iload_n hx hb dX3_tryFrom_88 rfl (lv_at hl 1 rfl) ?_
          refine lv_iload_n hx hb dX3_tryFrom_89 rfl (lv_at hl 3 rfl) ?_
          have hmtb : ∀ j, j < 0 → 0 ≤ mt1 j ∧ mt1 j ≤ 6 := fun j hj => by rw [hmt1 j hj, hpre j hj]; have := hpl j hj; omega
          have eT : zTk mt1 0 = zTk mt 0 := zTk_congr 0 hmt1
          refine zc_ri (As := [.int (iI ((0 : Nat) : Int)), .int (iI ((r : Nat) : Int))]) (rest := []) hF (c_X3_isTaken l D cI M MB MR ME MZ MT n b ro1 me mq mt1 th rc wo1 wy1 po fe wh wi mu 0 r (by omega) (by omega) (by assumption) (by assumption) (by assumption) (by assumption)) (cwV 2 hts gX3_tryFrom_X3_isTaken rfl rfl rfl (by decide +kernel) ⟨Nat.le_of_ble_eq_true rfl, Nat.le_of_ble_eq_true rfl⟩) hK hP [0, 1, 2, 3, 4, 5] rfl 0 rfl 0 rfl rfl rfl rfl hl.1 rfl (Nat.le_of_ble_eq_true rfl) dX3_tryFrom_90 ⟨Nat.zero_le _, Nat.zero_le _⟩ ?_
          refine zr_ifB_eq (tgt := 99) hx hb dX3_tryFrom_93 (by decide)  (fun c3 => ?_) (fun c3 => ?_)
          · have hP9 := c3
            rw [eT] at hP9
            refine lv_aload_n hx hb dX3_tryFrom_99 rfl (lv_at hl 0 rfl) ?_
            refine va_get (D := D) (ci := 3) (v := .ref MT) (C := RX3) (T := TX3) (N := 15) hx hb hts (by decide +kernel) hown hK hP 0 rfl rfl 10 (by decide) (hts (.fieldLink RX3 22 "RentHarmonyModel" "tried" "[I") (by decide +kernel)) (fun _ h9 => h9) rfl dX3_tryFrom_100 ?_
            refine lv_iload_n hx hb dX3_tryFrom_103 rfl (lv_at hl 1 rfl) ?_
            refine lv_iload_n hx hb dX3_tryFrom_104 rfl (lv_at hl 3 rfl) ?_
            refine zr_iast hx hb hK hP hD hS 5 0 rfl rfl (0) (by omega) (by omega) (by omega) dX3_tryFrom_105 (fun H locs hP hD hS => ?_)
            have hP : va_P D vwCl [(M, .inr (3, [.int (iI (th)), .int (iI ((n : Nat) : Int)), .int (iI (rc)), .ref MB, .ref MR, .ref ME, .ref MZ, .int (iI (wo1)), .int (iI (wy1)), .int (iI (po)), .ref MT, .int (iI (fe)), .int (iI (wh)), .int (iI (wi)), .int (iI (mu))])), (MB, zArr cI 36 b), (MR, zArr cI 6 ro1), (ME, zArr cI 6 me), (MZ, zArr cI 6 mq), (MT, zArr cI 6 (uZ mt1 (0) ((r : Nat) : Int)))] H := hP
            have hD : va_D A [(M, .inr (3, [.int (iI (th)), .int (iI ((n : Nat) : Int)), .int (iI (rc)), .ref MB, .ref MR, .ref ME, .ref MZ, .int (iI (wo1)), .int (iI (wy1)), .int (iI (po)), .ref MT, .int (iI (fe)), .int (iI (wh)), .int (iI (wi)), .int (iI (mu))])), (MB, zArr cI 36 b), (MR, zArr cI 6 ro1), (ME, zArr cI 6 me), (MZ, zArr cI 6 mq), (MT, zArr cI 6 (uZ mt1 (0) ((r : Nat) : Int)))] := hD
            refine lv_aload_n hx hb dX3_tryFrom_106 rfl (lv_at hl 0 rfl) ?_
            refine lv_iload_n hx hb dX3_tryFrom_107 rfl (lv_at hl 1 rfl) ?_
            refine zr_ic (n := ((1 : Nat) : Int)) hx hb dX3_tryFrom_108 ?_
            refine zr_addN (x := 0) (y := 1) hx hb dX3_tryFrom_109 ?_
            refine zr_topi (show ((0 + 1 : Nat) : Int) = ((1 : Nat) : Int) from rfl) ?_
            refine lv_iload_n hx hb dX3_tryFrom_110 rfl (lv_at hl 2 rfl) ?_
            refine lv_iload_n hx hb dX3_tryFrom_111 rfl (lv_at hl 1 rfl) ?_
            refine lv_aload_n hx hb dX3_tryFrom_112 rfl (lv_at hl 0 rfl) ?_
            refine va_get (D := D) (ci := 3) (v := .int (iI (fe))) (C := RX3) (T := TX3) (N := 15) hx hb hts (by decide +kernel) hown hK hP 0 rfl rfl 11 (by decide) (hts (.fieldLink RX3 25 "RentHarmonyModel" "free" "I") (by decide +kernel)) (fun _ h9 => h9) rfl dX3_tryFrom_113 ?_
            refine zr_icmp_ne (tgt := 123) hx hb dX3_tryFrom_116 (by decide) (zB_of (by omega) (by omega)) (zB_of (by omega) (by omega)) (fun c4 => ?_) (fun c4 => ?_)
            · have hf9 := c4
              refine lv_aload_n hx hb dX3_tryFrom_123 rfl (lv_at hl 0 rfl) ?_
              refine lv_iload_n hx hb dX3_tryFrom_124 rfl (lv_at hl 1 rfl) ?_
              refine lv_iload_n hx hb dX3_tryFrom_125 rfl (lv_at hl 3 rfl) ?_
              refine zc_ri (As := [.int (iI ((0 : Nat) : Int)), .int (iI ((r : Nat) : Int))]) (rest := [.int (iI (sum)), .int (iI ((1 : Nat) : Int)), .ref M]) hF (c_X3_bi l D cI M MB MR ME MZ MT n b ro1 me mq (uZ mt1 (0) ((r : Nat) : Int)) th rc wo1 wy1 po fe wh wi mu 0 r (by omega) (by omega)) (cwV 2 hts gX3_tryFrom_X3_bi rfl rfl rfl (by decide +kernel) ⟨Nat.le_of_ble_eq_true rfl, Nat.le_of_ble_eq_true rfl⟩) hK hP [0, 1, 2, 3, 4, 5] rfl 0 rfl 0 rfl rfl rfl rfl hl.1 rfl (Nat.le_of_ble_eq_true rfl) dX3_tryFrom_126 ⟨Nat.zero_le _, Nat.zero_le _⟩ ?_
              refine zr_topi (show (b (0 * 6 + r)) = (zVf b fe 0 r) from by unfold zVf; rw [if_neg hf9]) ?_
              have hvb := zVf_b hb0 fe 0 r
              refine zr_add hx hb dX3_tryFrom_129 ?_
              refine zc_wv (As := [.int (iI ((1 : Nat) : Int)), .int (iI (sum + (zVf b fe 0 r)))]) (rest := []) hF (c_X3_tryFrom_1 l D cI M MB MR ME MZ MT n b ro1 me mq (uZ mt1 (0) ((r : Nat) : Int)) th rc wo1 wy1 po fe wh wi mu (pre ++ [r]) (sum + (zVf b fe 0 r)) (by omega) (by assumption) (by omega) (by rw [List.length_append, hlen]; rfl) (zSnoc hlen (fun j hj => (hmt1 j hj).trans (hpre j hj))) (zSnoc_lt hlen hpl (by omega)) (by omega) (by omega) (by assumption) (by assumption) (by assumption) (by assumption)) (cwV 2 hts gX3_tryFrom_X3_tryFrom rfl rfl rfl (by decide +kernel) ⟨Nat.le_of_ble_eq_true rfl, Nat.le_of_ble_eq_true rfl⟩) hK hP hD hS [0, 1, 2, 3, 4, 5] rfl rfl (fun _ => rfl) 0 rfl 0 rfl rfl rfl rfl hl.1 rfl (Nat.le_of_ble_eq_true rfl) dX3_tryFrom_130 ⟨Nat.zero_le _, Nat.zero_le _⟩ (fun u5 H locs hw hP hD hS => ?_)
              obtain ⟨wo7, wy7, ro7, mt7⟩ := u5
              obtain ⟨hs7, hm7, hb7⟩ := hw
              have hP : va_P D vwCl [(M, .inr (3, [.int (iI (th)), .int (iI ((n : Nat) : Int)), .int (iI (rc)), .ref MB, .ref MR, .ref ME, .ref MZ, .int (iI (wo7)), .int (iI (wy7)), .int (iI (po)), .ref MT, .int (iI (fe)), .int (iI (wh)), .int (iI (wi)), .int (iI (mu))])), (MB, zArr cI 36 b), (MR, zArr cI 6 ro7), (ME, zArr cI 6 me), (MZ, zArr cI 6 mq), (MT, zArr cI 6 mt7)] H := hP
              have hD : va_D A [(M, .inr (3, [.int (iI (th)), .int (iI ((n : Nat) : Int)), .int (iI (rc)), .ref MB, .ref MR, .ref ME, .ref MZ, .int (iI (wo7)), .int (iI (wy7)), .int (iI (po)), .ref MT, .int (iI (fe)), .int (iI (wh)), .int (iI (wi)), .int (iI (mu))])), (MB, zArr cI 36 b), (MR, zArr cI 6 ro7), (ME, zArr cI 6 me), (MZ, zArr cI 6 mq), (MT, zArr cI 6 mt7)] := hD
              have hs9 : zStep n pre sum (zFF n b fe wh wi mu mt 0 r) wo1 wy1 ro1 wo7 wy7 ro7 := by
                have h9 : zStep n (pre ++ [r]) (sum + zVf b fe 0 r) (zG n (zAl wh wi mu) (zVf b fe) (n - 1) 1 (zTk (uZ mt1 0 ((r : Nat) : Int)) (0 + 1))) wo1 wy1 ro1 wo7 wy7 ro7 := hs7
                rw [zTk_add, eT] at h9
                unfold zFF; rw [if_neg hP9]; exact zStep_deep h9
              have hm9 : ∀ j, j < 0 → mt7 j = mt j := fun j hj => (hm7 j (by omega)).trans ((uZ_n _ _ (by omega)).trans (hmt1 j hj))
              have hb9 := hb7
              refine zr_iinc (lv2 := [(3, .int (iI (((r : Nat) : Int) + 1))), (0, .ref M), (1, .int (iI ((0 : Nat) : Int))), (2, .int (iI (sum)))]) hx hb dX3_tryFrom_133 hl (k0 := 3) rfl (by decide) rfl (fun ls hl => ?_)
              have hl : lv_has ls 4 [(3, .int (iI ((r + 1 : Nat) : Int))), (0, .ref M), (1, .int (iI ((0 : Nat) : Int))), (2, .int (iI (sum)))] := hl
              refine lv_goto (tgt := 79) hx hb dX3_tryFrom_136 (by decide) ?_
              exact ih_LT (r + 1) (wo7) (wy7) (ro7) (mt7) (by omega) (by omega) (zStep_comb hst hs9) hm9 hb9 _ _ hP hD hS _ (lv_sub hl [1, 2, 3, 0] rfl)
            · have hf9 := c4
              refine zr_ic (n := ((0 : Nat) : Int)) hx hb dX3_tryFrom_119 ?_
              refine lv_goto (tgt := 129) hx hb dX3_tryFrom_120 (by decide) ?_
              refine zr_topi (show ((0 : Nat) : Int) = (zVf b fe 0 r) from by unfold zVf; rw [if_pos hf9]; rfl) ?_
              have hvb := zVf_b hb0 fe 0 r
              refine zr_add hx hb dX3_tryFrom_129 ?_
              refine zc_wv (As := [.int (iI ((1 : Nat) : Int)), .int (iI (sum + (zVf b fe 0 r)))]) (rest := []) hF (c_X3_tryFrom_1 l D cI M MB MR ME MZ MT n b ro1 me mq (uZ mt1 (0) ((r : Nat) : Int)) th rc wo1 wy1 po fe wh wi mu (pre ++ [r]) (sum + (zVf b fe 0 r)) (by omega) (by assumption) (by omega) (by rw [List.length_append, hlen]; rfl) (zSnoc hlen (fun j hj => (hmt1 j hj).trans (hpre j hj))) (zSnoc_lt hlen hpl (by omega)) (by omega) (by omega) (by assumption) (by assumption) (by assumption) (by assumption)) (cwV 2 hts gX3_tryFrom_X3_tryFrom rfl rfl rfl (by decide +kernel) ⟨Nat.le_of_ble_eq_true rfl, Nat.le_of_ble_eq_true rfl⟩) hK hP hD hS [0, 1, 2, 3, 4, 5] rfl rfl (fun _ => rfl) 0 rfl 0 rfl rfl rfl rfl hl.1 rfl (Nat.le_of_ble_eq_true rfl) dX3_tryFrom_130 ⟨Nat.zero_le _, Nat.zero_le _⟩ (fun u8 H locs hw hP hD hS => ?_)
              obtain ⟨wo10, wy10, ro10, mt10⟩ := u8
              obtain ⟨hs10, hm10, hb10⟩ := hw
              have hP : va_P D vwCl [(M, .inr (3, [.int (iI (th)), .int (iI ((n : Nat) : Int)), .int (iI (rc)), .ref MB, .ref MR, .ref ME, .ref MZ, .int (iI (wo10)), .int (iI (wy10)), .int (iI (po)), .ref MT, .int (iI (fe)), .int (iI (wh)), .int (iI (wi)), .int (iI (mu))])), (MB, zArr cI 36 b), (MR, zArr cI 6 ro10), (ME, zArr cI 6 me), (MZ, zArr cI 6 mq), (MT, zArr cI 6 mt10)] H := hP
              have hD : va_D A [(M, .inr (3, [.int (iI (th)), .int (iI ((n : Nat) : Int)), .int (iI (rc)), .ref MB, .ref MR, .ref ME, .ref MZ, .int (iI (wo10)), .int (iI (wy10)), .int (iI (po)), .ref MT, .int (iI (fe)), .int (iI (wh)), .int (iI (wi)), .int (iI (mu))])), (MB, zArr cI 36 b), (MR, zArr cI 6 ro10), (ME, zArr cI 6 me), (MZ, zArr cI 6 mq), (MT, zArr cI 6 mt10)] := hD
              have hs9 : zStep n pre sum (zFF n b fe wh wi mu mt 0 r) wo1 wy1 ro1 wo10 wy10 ro10 := by
                have h9 : zStep n (pre ++ [r]) (sum + zVf b fe 0 r) (zG n (zAl wh wi mu) (zVf b fe) (n - 1) 1 (zTk (uZ mt1 0 ((r : Nat) : Int)) (0 + 1))) wo1 wy1 ro1 wo10 wy10 ro10 := hs10
                rw [zTk_add, eT] at h9
                unfold zFF; rw [if_neg hP9]; exact zStep_deep h9
              have hm9 : ∀ j, j < 0 → mt10 j = mt j := fun j hj => (hm10 j (by omega)).trans ((uZ_n _ _ (by omega)).trans (hmt1 j hj))
              have hb9 := hb10
              refine zr_iinc (lv2 := [(3, .int (iI (((r : Nat) : Int) + 1))), (0, .ref M), (1, .int (iI ((0 : Nat) : Int))), (2, .int (iI (sum)))]) hx hb dX3_tryFrom_133 hl (k0 := 3) rfl (by decide) rfl (fun ls hl => ?_)
              have hl : lv_has ls 4 [(3, .int (iI ((r + 1 : Nat) : Int))), (0, .ref M), (1, .int (iI ((0 : Nat) : Int))), (2, .int (iI (sum)))] := hl
              refine lv_goto (tgt := 79) hx hb dX3_tryFrom_136 (by decide) ?_
              exact ih_LT (r + 1) (wo10) (wy10) (ro10) (mt10) (by omega) (by omega) (zStep_comb hst hs9) hm9 hb9 _ _ hP hD hS _ (lv_sub hl [1, 2, 3, 0] rfl)
          · have hP9 := c3
            rw [eT] at hP9
            refine lv_goto (tgt := 133) hx hb dX3_tryFrom_96 (by decide) ?_
            refine zr_iinc (lv2 := [(3, .int (iI (((r : Nat) : Int) + 1))), (0, .ref M), (1, .int (iI ((0 : Nat) : Int))), (2, .int (iI (sum)))]) hx hb dX3_tryFrom_133 hl (k0 := 3) rfl (by decide) rfl (fun ls hl => ?_)
            have hl : lv_has ls 4 [(3, .int (iI ((r + 1 : Nat) : Int))), (0, .ref M), (1, .int (iI ((0 : Nat) : Int))), (2, .int (iI (sum)))] := hl
            refine lv_goto (tgt := 79) hx hb dX3_tryFrom_136 (by decide) ?_
            exact ih_LT (r + 1) (wo1) (wy1) (ro1) (mt1) (by omega) (by omega) (zStep_comb hst (by unfold zFF; rw [if_pos hP9]; exact zStep_none)) hmt1 hwo1 _ _ hP hD hS _ (lv_sub hl [1, 2, 3, 0] rfl)
    exact LT ((n - (0)) + 1) (0) (wo) (wy) (mr) (mt) (Nat.lt_succ_self _) (Nat.zero_le _) ⟨rfl, rfl, rfl⟩ (fun _ _ => rfl) hwo _ _ hP hD hS _ (lv_sub hl [1, 2, 3, 0] rfl)
  · have hkn2 : 0 = n := by omega
    have e0 : n - 0 = 0 := by omega
    have hlf := zStep_leaf (sum := sum) (w := wo) (y := wy) (ro := mr) (hlen.trans hkn2) (fun j hj => hpre j (by omega))
    refine lv_aload_n hx hb dX3_tryFrom_8 rfl (lv_at hl 0 rfl) ?_
    refine lv_iload_n hx hb dX3_tryFrom_9 rfl (lv_at hl 2 rfl) ?_
    refine lv_aload_n hx hb dX3_tryFrom_10 rfl (lv_at hl 0 rfl) ?_
    refine va_get (D := D) (ci := 3) (v := .int (iI (wo))) (C := RX3) (T := TX3) (N := 15) hx hb hts (by decide +kernel) hown hK hP 0 rfl rfl 7 (by decide) (hts (.fieldLink RX3 64 "RentHarmonyModel" "worth" "I") (by decide +kernel)) (fun _ h9 => h9) rfl dX3_tryFrom_11 ?_
    refine zr_icmp_le (tgt := 21) hx hb dX3_tryFrom_14 (by decide) (zB_of (by omega) (by omega)) (zB_of (by omega) (by omega)) (fun c11 => ?_) (fun c11 => ?_)
    · refine lv_iload_n hx hb dX3_tryFrom_21 rfl (lv_at hl 2 rfl) ?_
      refine lv_aload_n hx hb dX3_tryFrom_22 rfl (lv_at hl 0 rfl) ?_
      refine va_get (D := D) (ci := 3) (v := .int (iI (wo))) (C := RX3) (T := TX3) (N := 15) hx hb hts (by decide +kernel) hown hK hP 0 rfl rfl 7 (by decide) (hts (.fieldLink RX3 64 "RentHarmonyModel" "worth" "I") (by decide +kernel)) (fun _ h9 => h9) rfl dX3_tryFrom_23 ?_
      refine zr_icmp_ne (tgt := 38) hx hb dX3_tryFrom_26 (by decide) (zB_of (by omega) (by omega)) (zB_of (by omega) (by omega)) (fun c12 => ?_) (fun c12 => ?_)
      · have hcmp := c12
        refine lv_aload_n hx hb dX3_tryFrom_38 rfl (lv_at hl 0 rfl) ?_
        refine va_get (D := D) (ci := 3) (v := .int (iI (wy))) (C := RX3) (T := TX3) (N := 15) hx hb hts (by decide +kernel) hown hK hP 0 rfl rfl 8 (by decide) (hts (.fieldLink RX3 67 "RentHarmonyModel" "ways" "I") (by decide +kernel)) (fun _ h9 => h9) rfl dX3_tryFrom_39 ?_
        refine va_put (D := D) (ci := 3) (v := .int (iI (wy))) (ty := .int) (C := RX3) (T := TX3) (N := 15) hx hb hts (by decide +kernel) tyX3 tyX3_ok nmX3 hown hK hP hD hS 0 rfl rfl 8 (by decide) (hts (.fieldLink RX3 67 "RentHarmonyModel" "ways" "I") (by decide +kernel)) (fun _ h9 => h9) rfl (by decide +kernel) rfl rfl (Nat.le_of_ble_eq_true rfl) dX3_tryFrom_42 (fun H locs hP hD hS => ?_)
        have hP : va_P D vwCl [(M, .inr (3, [.int (iI (th)), .int (iI ((n : Nat) : Int)), .int (iI (rc)), .ref MB, .ref MR, .ref ME, .ref MZ, .int (iI (wo)), .int (iI (wy)), .int (iI (po)), .ref MT, .int (iI (fe)), .int (iI (wh)), .int (iI (wi)), .int (iI (mu))])), (MB, zArr cI 36 b), (MR, zArr cI 6 mr), (ME, zArr cI 6 me), (MZ, zArr cI 6 mq), (MT, zArr cI 6 mt)] H := hP
        have hD : va_D A [(M, .inr (3, [.int (iI (th)), .int (iI ((n : Nat) : Int)), .int (iI (rc)), .ref MB, .ref MR, .ref ME, .ref MZ, .int (iI (wo)), .int (iI (wy)), .int (iI (po)), .ref MT, .int (iI (fe)), .int (iI (wh)), .int (iI (wi)), .int (iI (mu))])), (MB, zArr cI 36 b), (MR, zArr cI 6 mr), (ME, zArr cI 6 me), (MZ, zArr cI 6 mq), (MT, zArr cI 6 mt)] := hD
        refine lv_iload_n hx hb dX3_tryFrom_45 rfl (lv_at hl 2 rfl) ?_
        refine lv_aload_n hx hb dX3_tryFrom_46 rfl (lv_at hl 0 rfl) ?_
        refine va_get (D := D) (ci := 3) (v := .int (iI (wo))) (C := RX3) (T := TX3) (N := 15) hx hb hts (by decide +kernel) hown hK hP 0 rfl rfl 7 (by decide) (hts (.fieldLink RX3 64 "RentHarmonyModel" "worth" "I") (by decide +kernel)) (fun _ h9 => h9) rfl dX3_tryFrom_47 ?_
        refine zr_icmp_gt (tgt := 54) hx hb dX3_tryFrom_50 (by decide) (zB_of (by omega) (by omega)) (zB_of (by omega) (by omega)) (fun c13 => ?_) (fun c13 => ?_)
        · exact absurd c13 (by omega)
        · exact zWv_ret hx hb hr hlocks hS dX3_tryFrom_53 (wo, wy, mr, mt) ⟨by show zStep n pre sum (zG n (zAl wh wi mu) (zVf b fe) (n - 0) 0 (zTk mt 0)) wo wy mr _ _ _; rw [e0]; exact hlf.2.2 (by omega), fun _ _ => rfl, by show -1 ≤ _ ∧ _ ≤ (6000 : Int); omega⟩ hP
      · have hcmp := c12
        refine lv_aload_n hx hb dX3_tryFrom_29 rfl (lv_at hl 0 rfl) ?_
        refine va_get (D := D) (ci := 3) (v := .int (iI (wy))) (C := RX3) (T := TX3) (N := 15) hx hb hts (by decide +kernel) hown hK hP 0 rfl rfl 8 (by decide) (hts (.fieldLink RX3 67 "RentHarmonyModel" "ways" "I") (by decide +kernel)) (fun _ h9 => h9) rfl dX3_tryFrom_30 ?_
        refine zr_ic (n := ((1 : Nat) : Int)) hx hb dX3_tryFrom_33 ?_
        refine zr_add hx hb dX3_tryFrom_34 ?_
        refine lv_goto (tgt := 42) hx hb dX3_tryFrom_35 (by decide) ?_
        refine va_put (D := D) (ci := 3) (v := .int (iI (wy + ((1 : Nat) : Int)))) (ty := .int) (C := RX3) (T := TX3) (N := 15) hx hb hts (by decide +kernel) tyX3 tyX3_ok nmX3 hown hK hP hD hS 0 rfl rfl 8 (by decide) (hts (.fieldLink RX3 67 "RentHarmonyModel" "ways" "I") (by decide +kernel)) (fun _ h9 => h9) rfl (by decide +kernel) rfl rfl (Nat.le_of_ble_eq_true rfl) dX3_tryFrom_42 (fun H locs hP hD hS => ?_)
        have hP : va_P D vwCl [(M, .inr (3, [.int (iI (th)), .int (iI ((n : Nat) : Int)), .int (iI (rc)), .ref MB, .ref MR, .ref ME, .ref MZ, .int (iI (wo)), .int (iI (wy + ((1 : Nat) : Int))), .int (iI (po)), .ref MT, .int (iI (fe)), .int (iI (wh)), .int (iI (wi)), .int (iI (mu))])), (MB, zArr cI 36 b), (MR, zArr cI 6 mr), (ME, zArr cI 6 me), (MZ, zArr cI 6 mq), (MT, zArr cI 6 mt)] H := hP
        have hD : va_D A [(M, .inr (3, [.int (iI (th)), .int (iI ((n : Nat) : Int)), .int (iI (rc)), .ref MB, .ref MR, .ref ME, .ref MZ, .int (iI (wo)), .int (iI (wy + ((1 : Nat) : Int))), .int (iI (po)), .ref MT, .int (iI (fe)), .int (iI (wh)), .int (iI (wi)), .int (iI (mu))])), (MB, zArr cI 36 b), (MR, zArr cI 6 mr), (ME, zArr cI 6 me), (MZ, zArr cI 6 mq), (MT, zArr cI 6 mt)] := hD
        refine lv_iload_n hx hb dX3_tryFrom_45 rfl (lv_at hl 2 rfl) ?_
        refine lv_aload_n hx hb dX3_tryFrom_46 rfl (lv_at hl 0 rfl) ?_
        refine va_get (D := D) (ci := 3) (v := .int (iI (wo))) (C := RX3) (T := TX3) (N := 15) hx hb hts (by decide +kernel) hown hK hP 0 rfl rfl 7 (by decide) (hts (.fieldLink RX3 64 "RentHarmonyModel" "worth" "I") (by decide +kernel)) (fun _ h9 => h9) rfl dX3_tryFrom_47 ?_
        refine zr_icmp_gt (tgt := 54) hx hb dX3_tryFrom_50 (by decide) (zB_of (by omega) (by omega)) (zB_of (by omega) (by omega)) (fun c14 => ?_) (fun c14 => ?_)
        · exact absurd c14 (by omega)
        · exact zWv_ret hx hb hr hlocks hS dX3_tryFrom_53 (wo, (wy + ((1 : Nat) : Int)), mr, mt) ⟨by show zStep n pre sum (zG n (zAl wh wi mu) (zVf b fe) (n - 0) 0 (zTk mt 0)) wo wy mr _ _ _; rw [e0]; exact hlf.2.1 (by omega), fun _ _ => rfl, by show -1 ≤ _ ∧ _ ≤ (6000 : Int); omega⟩ hP
    · have hgt := c11
      refine zr_ic (n := ((1 : Nat) : Int)) hx hb dX3_tryFrom_17 ?_
      refine lv_goto (tgt := 42) hx hb dX3_tryFrom_18 (by decide) ?_
      refine va_put (D := D) (ci := 3) (v := .int (iI ((1 : Nat) : Int))) (ty := .int) (C := RX3) (T := TX3) (N := 15) hx hb hts (by decide +kernel) tyX3 tyX3_ok nmX3 hown hK hP hD hS 0 rfl rfl 8 (by decide) (hts (.fieldLink RX3 67 "RentHarmonyModel" "ways" "I") (by decide +kernel)) (fun _ h9 => h9) rfl (by decide +kernel) rfl rfl (Nat.le_of_ble_eq_true rfl) dX3_tryFrom_42 (fun H locs hP hD hS => ?_)
      have hP : va_P D vwCl [(M, .inr (3, [.int (iI (th)), .int (iI ((n : Nat) : Int)), .int (iI (rc)), .ref MB, .ref MR, .ref ME, .ref MZ, .int (iI (wo)), .int (iI ((1 : Nat) : Int)), .int (iI (po)), .ref MT, .int (iI (fe)), .int (iI (wh)), .int (iI (wi)), .int (iI (mu))])), (MB, zArr cI 36 b), (MR, zArr cI 6 mr), (ME, zArr cI 6 me), (MZ, zArr cI 6 mq), (MT, zArr cI 6 mt)] H := hP
      have hD : va_D A [(M, .inr (3, [.int (iI (th)), .int (iI ((n : Nat) : Int)), .int (iI (rc)), .ref MB, .ref MR, .ref ME, .ref MZ, .int (iI (wo)), .int (iI ((1 : Nat) : Int)), .int (iI (po)), .ref MT, .int (iI (fe)), .int (iI (wh)), .int (iI (wi)), .int (iI (mu))])), (MB, zArr cI 36 b), (MR, zArr cI 6 mr), (ME, zArr cI 6 me), (MZ, zArr cI 6 mq), (MT, zArr cI 6 mt)] := hD
      refine lv_iload_n hx hb dX3_tryFrom_45 rfl (lv_at hl 2 rfl) ?_
      refine lv_aload_n hx hb dX3_tryFrom_46 rfl (lv_at hl 0 rfl) ?_
      refine va_get (D := D) (ci := 3) (v := .int (iI (wo))) (C := RX3) (T := TX3) (N := 15) hx hb hts (by decide +kernel) hown hK hP 0 rfl rfl 7 (by decide) (hts (.fieldLink RX3 64 "RentHarmonyModel" "worth" "I") (by decide +kernel)) (fun _ h9 => h9) rfl dX3_tryFrom_47 ?_
      refine zr_icmp_gt (tgt := 54) hx hb dX3_tryFrom_50 (by decide) (zB_of (by omega) (by omega)) (zB_of (by omega) (by omega)) (fun c15 => ?_) (fun c15 => ?_)
      · refine lv_aload_n hx hb dX3_tryFrom_54 rfl (lv_at hl 0 rfl) ?_
        refine lv_iload_n hx hb dX3_tryFrom_55 rfl (lv_at hl 2 rfl) ?_
        refine va_put (D := D) (ci := 3) (v := .int (iI (sum))) (ty := .int) (C := RX3) (T := TX3) (N := 15) hx hb hts (by decide +kernel) tyX3 tyX3_ok nmX3 hown hK hP hD hS 0 rfl rfl 7 (by decide) (hts (.fieldLink RX3 64 "RentHarmonyModel" "worth" "I") (by decide +kernel)) (fun _ h9 => h9) rfl (by decide +kernel) rfl rfl (Nat.le_of_ble_eq_true rfl) dX3_tryFrom_56 (fun H locs hP hD hS => ?_)
        have hP : va_P D vwCl [(M, .inr (3, [.int (iI (th)), .int (iI ((n : Nat) : Int)), .int (iI (rc)), .ref MB, .ref MR, .ref ME, .ref MZ, .int (iI (sum)), .int (iI ((1 : Nat) : Int)), .int (iI (po)), .ref MT, .int (iI (fe)), .int (iI (wh)), .int (iI (wi)), .int (iI (mu))])), (MB, zArr cI 36 b), (MR, zArr cI 6 mr), (ME, zArr cI 6 me), (MZ, zArr cI 6 mq), (MT, zArr cI 6 mt)] H := hP
        have hD : va_D A [(M, .inr (3, [.int (iI (th)), .int (iI ((n : Nat) : Int)), .int (iI (rc)), .ref MB, .ref MR, .ref ME, .ref MZ, .int (iI (sum)), .int (iI ((1 : Nat) : Int)), .int (iI (po)), .ref MT, .int (iI (fe)), .int (iI (wh)), .int (iI (wi)), .int (iI (mu))])), (MB, zArr cI 36 b), (MR, zArr cI 6 mr), (ME, zArr cI 6 me), (MZ, zArr cI 6 mq), (MT, zArr cI 6 mt)] := hD
        refine lv_aload_n hx hb dX3_tryFrom_59 rfl (lv_at hl 0 rfl) ?_
        refine va_get (D := D) (ci := 3) (v := .ref MT) (C := RX3) (T := TX3) (N := 15) hx hb hts (by decide +kernel) hown hK hP 0 rfl rfl 10 (by decide) (hts (.fieldLink RX3 22 "RentHarmonyModel" "tried" "[I") (by decide +kernel)) (fun _ h9 => h9) rfl dX3_tryFrom_60 ?_
        refine zr_ic (n := ((0 : Nat) : Int)) hx hb dX3_tryFrom_63 ?_
        refine lv_aload_n hx hb dX3_tryFrom_64 rfl (lv_at hl 0 rfl) ?_
        refine va_get (D := D) (ci := 3) (v := .ref MR) (C := RX3) (T := TX3) (N := 15) hx hb hts (by decide +kernel) hown hK hP 0 rfl rfl 4 (by decide) (hts (.fieldLink RX3 13 "RentHarmonyModel" "rooms" "[I") (by decide +kernel)) (fun _ h9 => h9) rfl dX3_tryFrom_65 ?_
        refine zr_ic (n := ((0 : Nat) : Int)) hx hb dX3_tryFrom_68 ?_
        refine lv_aload_n hx hb dX3_tryFrom_69 rfl (lv_at hl 0 rfl) ?_
        refine va_get (D := D) (ci := 3) (v := .int (iI ((n : Nat) : Int))) (C := RX3) (T := TX3) (N := 15) hx hb hts (by decide +kernel) hown hK hP 0 rfl rfl 1 (by decide) (hts (.fieldLink RX3 38 "RentHarmonyModel" "lodgers" "I") (by decide +kernel)) (fun _ h9 => h9) rfl dX3_tryFrom_70 ?_
        refine zr_copy (rest := []) hx hb (hml.trans hl.1.symm) hown (hts (.methodLink RX3 70 arraycopyName) (by decide +kernel)) (hts (.native arraycopyName) (by decide +kernel)) (hts (.static arraycopyName) (by decide +kernel)) (hts (.initialized "java/lang/System") (by decide +kernel)) hK hP hD hS 5 2 0 rfl rfl rfl (n) (by omega) (by omega) (by omega) (by decide) (Nat.le_of_ble_eq_true rfl) (by decide +kernel) dX3_tryFrom_73 (fun H locs hP hD hS => ?_)
        have hP : va_P D vwCl [(M, .inr (3, [.int (iI (th)), .int (iI ((n : Nat) : Int)), .int (iI (rc)), .ref MB, .ref MR, .ref ME, .ref MZ, .int (iI (sum)), .int (iI ((1 : Nat) : Int)), .int (iI (po)), .ref MT, .int (iI (fe)), .int (iI (wh)), .int (iI (wi)), .int (iI (mu))])), (MB, zArr cI 36 b), (MR, zArr cI 6 (zCpy mt mr (n))), (ME, zArr cI 6 me), (MZ, zArr cI 6 mq), (MT, zArr cI 6 mt)] H := hP
        have hD : va_D A [(M, .inr (3, [.int (iI (th)), .int (iI ((n : Nat) : Int)), .int (iI (rc)), .ref MB, .ref MR, .ref ME, .ref MZ, .int (iI (sum)), .int (iI ((1 : Nat) : Int)), .int (iI (po)), .ref MT, .int (iI (fe)), .int (iI (wh)), .int (iI (wi)), .int (iI (mu))])), (MB, zArr cI 36 b), (MR, zArr cI 6 (zCpy mt mr (n))), (ME, zArr cI 6 me), (MZ, zArr cI 6 mq), (MT, zArr cI 6 mt)] := hD
        exact zWv_ret hx hb hr hlocks hS dX3_tryFrom_76 (sum, ((1 : Nat) : Int), (zCpy mt mr (n)), mt) ⟨by show zStep n pre sum (zG n (zAl wh wi mu) (zVf b fe) (n - 0) 0 (zTk mt 0)) wo wy mr _ _ _; rw [e0]; exact hlf.1 (by omega), fun _ _ => rfl, by show -1 ≤ _ ∧ _ ≤ (6000 : Int); omega⟩ hP
      · exact absurd c15 (by omega)
