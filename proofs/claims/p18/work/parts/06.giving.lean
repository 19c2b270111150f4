set_option maxHeartbeats 4000000 in
set_option maxRecDepth 100000 in
/-- X1_worth -/
theorem c_X1_worth (l : Launch) (D : va_G) (cI : ClassId) (G GB GW GR : Nat) (bo wo ro : Nat → Int)  : zRi l yX1_worth wsX1_worth 0 0 D cI [.ref G] [(G, .inr (1, [.ref GB, .ref GW, .ref GR])), (GB, zArr cI 64 bo), (GW, zArr cI 64 wo), (GR, zArr cI 6 ro)] (iI (bo 0)) := by
  refine zRi_of (cc := cX1_worth) (maxL := 1) (rt := .int) (by decide) rfl (Nat.le_of_ble_eq_true rfl) ?_
  intro p e s m args below meth c ls hF hr hlocks hP hK hl
  have hF : zFix p m c cX1_worth 1 s args wsX1_worth RX1 := hF
  obtain ⟨hx, hb, hml, hown, hts⟩ := id hF
  have hP : va_P D vwCl [(G, .inr (1, [.ref GB, .ref GW, .ref GR])), (GB, zArr cI 64 bo), (GW, zArr cI 64 wo), (GR, zArr cI 6 ro)] s.heap := hP
  have hl : lv_has ls 1 [(0, .ref G)] := hl
  refine lv_aload_n hx hb dX1_worth_0 rfl (lv_at hl 0 rfl) ?_
  refine va_get (D := D) (ci := 1) (v := .ref GB) (C := RX1) (T := TX1) (N := 3) hx hb hts (by decide +kernel) hown hK hP 0 rfl rfl 0 (by decide) (hts (.fieldLink RX1 9 "RentHarmony$Giving" "bestOfRest" "[I") (by decide +kernel)) (fun _ h9 => h9) rfl dX1_worth_1 ?_
  refine zr_ic (n := ((0 : Nat) : Int)) hx hb dX1_worth_4 ?_
  refine zr_iald hx hb hK hP 1 0 rfl rfl (0) (by omega) (by omega) (by omega) dX1_worth_5 ?_
  exact zRi_ret hx hb hr hlocks dX1_worth_6 rfl
set_option maxHeartbeats 4000000 in
set_option maxRecDepth 100000 in
/-- X1_ways -/
theorem c_X1_ways (l : Launch) (D : va_G) (cI : ClassId) (G GB GW GR : Nat) (bo wo ro : Nat → Int)  : zRi l yX1_ways wsX1_ways 0 0 D cI [.ref G] [(G, .inr (1, [.ref GB, .ref GW, .ref GR])), (GB, zArr cI 64 bo), (GW, zArr cI 64 wo), (GR, zArr cI 6 ro)] (iI (wo 0)) := by
  refine zRi_of (cc := cX1_ways) (maxL := 1) (rt := .int) (by decide) rfl (Nat.le_of_ble_eq_true rfl) ?_
  intro p e s m args below meth c ls hF hr hlocks hP hK hl
  have hF : zFix p m c cX1_ways 1 s args wsX1_ways RX1 := hF
  obtain ⟨hx, hb, hml, hown, hts⟩ := id hF
  have hP : va_P D vwCl [(G, .inr (1, [.ref GB, .ref GW, .ref GR])), (GB, zArr cI 64 bo), (GW, zArr cI 64 wo), (GR, zArr cI 6 ro)] s.heap := hP
  have hl : lv_has ls 1 [(0, .ref G)] := hl
  refine lv_aload_n hx hb dX1_ways_0 rfl (lv_at hl 0 rfl) ?_
  refine va_get (D := D) (ci := 1) (v := .ref GW) (C := RX1) (T := TX1) (N := 3) hx hb hts (by decide +kernel) hown hK hP 0 rfl rfl 1 (by decide) (hts (.fieldLink RX1 15 "RentHarmony$Giving" "waysOfRest" "[I") (by decide +kernel)) (fun _ h9 => h9) rfl dX1_ways_1 ?_
  refine zr_ic (n := ((0 : Nat) : Int)) hx hb dX1_ways_4 ?_
  refine zr_iald hx hb hK hP 2 0 rfl rfl (0) (by omega) (by omega) (by omega) dX1_ways_5 ?_
  exact zRi_ret hx hb hr hlocks dX1_ways_6 rfl
set_option maxHeartbeats 4000000 in
set_option maxRecDepth 100000 in
/-- X1_roomOf -/
theorem c_X1_roomOf (l : Launch) (D : va_G) (cI : ClassId) (G GB GW GR : Nat) (bo wo ro : Nat → Int) (j : Nat) (hj : j < 6) : zRi l yX1_roomOf wsX1_roomOf 0 0 D cI [.ref G, .int (iI ((j : Nat) : Int))] [(G, .inr (1, [.ref GB, .ref GW, .ref GR])), (GB, zArr cI 64 bo), (GW, zArr cI 64 wo), (GR, zArr cI 6 ro)] (iI (ro j)) := by
  refine zRi_of (cc := cX1_roomOf) (maxL := 2) (rt := .int) (by decide) rfl (Nat.le_of_ble_eq_true rfl) ?_
  intro p e s m args below meth c ls hF hr hlocks hP hK hl
  have hF : zFix p m c cX1_roomOf 2 s args wsX1_roomOf RX1 := hF
  obtain ⟨hx, hb, hml, hown, hts⟩ := id hF
  have hP : va_P D vwCl [(G, .inr (1, [.ref GB, .ref GW, .ref GR])), (GB, zArr cI 64 bo), (GW, zArr cI 64 wo), (GR, zArr cI 6 ro)] s.heap := hP
  have hl : lv_has ls 2 [(0, .ref G), (1, .int (iI ((j : Nat) : Int)))] := hl
  refine lv_iload_n hx hb dX1_roomOf_0 rfl (lv_at hl 1 rfl) ?_
  refine zr_if_lt (tgt := 22) hx hb dX1_roomOf_1 (by decide) (zB_of (by omega) (by omega)) (fun c1 => ?_) (fun c1 => ?_)
  · exact absurd c1 (by omega)
  · refine lv_iload_n hx hb dX1_roomOf_4 rfl (lv_at hl 1 rfl) ?_
    refine lv_aload_n hx hb dX1_roomOf_5 rfl (lv_at hl 0 rfl) ?_
    refine va_get (D := D) (ci := 1) (v := .ref GR) (C := RX1) (T := TX1) (N := 3) hx hb hts (by decide +kernel) hown hK hP 0 rfl rfl 2 (by decide) (hts (.fieldLink RX1 18 "RentHarmony$Giving" "rooms" "[I") (by decide +kernel)) (fun _ h9 => h9) rfl dX1_roomOf_6 ?_
    refine zr_alen hx hb hK hP 3 0 rfl rfl dX1_roomOf_9 ?_
    refine zr_icmp_ge (tgt := 22) hx hb dX1_roomOf_10 (by decide) (zB_of (by omega) (by omega)) (zB_of (by omega) (by omega)) (fun c2 => ?_) (fun c2 => ?_)
    · exact absurd c2 (by omega)
    · refine lv_aload_n hx hb dX1_roomOf_13 rfl (lv_at hl 0 rfl) ?_
      refine va_get (D := D) (ci := 1) (v := .ref GR) (C := RX1) (T := TX1) (N := 3) hx hb hts (by decide +kernel) hown hK hP 0 rfl rfl 2 (by decide) (hts (.fieldLink RX1 18 "RentHarmony$Giving" "rooms" "[I") (by decide +kernel)) (fun _ h9 => h9) rfl dX1_roomOf_14 ?_
      refine lv_iload_n hx hb dX1_roomOf_17 rfl (lv_at hl 1 rfl) ?_
      refine zr_iald hx hb hK hP 3 0 rfl rfl (j) (by omega) (by omega) (by omega) dX1_roomOf_18 ?_
      refine lv_goto (tgt := 23) hx hb dX1_roomOf_19 (by decide) ?_
      exact zRi_ret hx hb hr hlocks dX1_roomOf_23 rfl
set_option maxHeartbeats 4000000 in
set_option maxRecDepth 100000 in
/-- X1_weigh -/
theorem c_X1_weigh (l : Launch) (D : va_G) (cI : ClassId) (G GB GW GR : Nat) (bo wo ro : Nat → Int) (B C n : Nat) (b : Nat → Int) (t : Nat) (hn : n ≤ 6) (hb0 : ∀ k, 0 ≤ b k ∧ b k ≤ 999) (ht : t < 2 ^ n) (hf : t ≠ 2 ^ n - 1) (hDP : ∀ u, t < u → u < 2 ^ n → bo u = zBest (zD n b u) ∧ wo u = zWays (zD n b u)) : zWv (S := Unit) l yX1_weigh wsX1_weigh 2 43 D cI [.ref G, .ref B, .int (iI ((t : Nat) : Int))] [(G, .inr (1, [.ref GB, .ref GW, .ref GR])), (GB, zArr cI 64 bo), (GW, zArr cI 64 wo), (GR, zArr cI 6 ro), (B, .inr (0, [.ref C, .int (iI ((n : Nat) : Int))])), (C, zArr cI 36 b)] (fun _ => True) (fun _ => [(G, .inr (1, [.ref GB, .ref GW, .ref GR])), (GB, zArr cI 64 (uZ bo t (zBest (zD n b t)))), (GW, zArr cI 64 (uZ wo t (zWays (zD n b t)))), (GR, zArr cI 6 ro), (B, .inr (0, [.ref C, .int (iI ((n : Nat) : Int))])), (C, zArr cI 36 b)]) := by
  refine zWv_of (cc := cX1_weigh) (maxL := 9) (by decide) rfl (Nat.le_of_ble_eq_true rfl) ?_
  intro p e s m args below meth c ls A hF hr hlocks hP hK hD hS hl
  have hF : zFix p m c cX1_weigh 9 s args wsX1_weigh RX1 := hF
  obtain ⟨hx, hb, hml, hown, hts⟩ := id hF
  have hP : va_P D vwCl [(G, .inr (1, [.ref GB, .ref GW, .ref GR])), (GB, zArr cI 64 bo), (GW, zArr cI 64 wo), (GR, zArr cI 6 ro), (B, .inr (0, [.ref C, .int (iI ((n : Nat) : Int))])), (C, zArr cI 36 b)] s.heap := hP
  have hD : va_D A [(G, .inr (1, [.ref GB, .ref GW, .ref GR])), (GB, zArr cI 64 bo), (GW, zArr cI 64 wo), (GR, zArr cI 6 ro), (B, .inr (0, [.ref C, .int (iI ((n : Nat) : Int))])), (C, zArr cI 36 b)] := hD
  skip
  have hl : lv_has ls 9 [(0, .ref G), (1, .ref B), (2, .int (iI ((t : Nat) : Int)))] := hl
  have hpw := (zT_full hn).2.2
  have h64 : t < 64 := by omega
  have hpop := zT_notfull hn ht hf
  refine lv_iload_n hx hb dX1_weigh_0 rfl (lv_at hl 2 rfl) ?_
  refine zc_riS (As := [.int (iI ((t : Nat) : Int))]) (rest := []) hF (c_J6_bitCount_0f7a4 l D cI t (by omega)) (va_cwS 1 hts gX1_weigh_J6_bitCount_0f7a4 rfl rfl rfl (by decide +kernel) ⟨Nat.le_of_ble_eq_true rfl, Nat.le_of_ble_eq_true rfl⟩) hK hP [] rfl 0 rfl rfl hl.1 rfl (Nat.le_of_ble_eq_true rfl) dX1_weigh_1 ⟨Nat.zero_le _, Nat.zero_le _⟩ ?_
  refine lv_istore_n (lv' := [(3, .int (iI ((zPop t : Nat) : Int))), (0, .ref G), (1, .ref B), (2, .int (iI ((t : Nat) : Int)))]) hx hb dX1_weigh_4 rfl hl (by decide) rfl (fun ls hl => ?_)
  refine zr_ic (n := -1) hx hb dX1_weigh_5 ?_
  refine lv_istore (lv' := [(4, .int (iI (-1))), (3, .int (iI ((zPop t : Nat) : Int))), (0, .ref G), (1, .ref B), (2, .int (iI ((t : Nat) : Int)))]) hx hb dX1_weigh_6 hl (by decide) rfl (fun ls hl => ?_)
  refine zr_ic (n := ((0 : Nat) : Int)) hx hb dX1_weigh_8 ?_
  refine lv_istore (lv' := [(5, .int (iI ((0 : Nat) : Int))), (4, .int (iI (-1))), (3, .int (iI ((zPop t : Nat) : Int))), (0, .ref G), (1, .ref B), (2, .int (iI ((t : Nat) : Int)))]) hx hb dX1_weigh_9 hl (by decide) rfl (fun ls hl => ?_)
  refine zr_ic (n := ((0 : Nat) : Int)) hx hb dX1_weigh_11 ?_
  refine lv_istore (lv' := [(6, .int (iI ((0 : Nat) : Int))), (5, .int (iI ((0 : Nat) : Int))), (4, .int (iI (-1))), (3, .int (iI ((zPop t : Nat) : Int))), (0, .ref G), (1, .ref B), (2, .int (iI ((t : Nat) : Int)))]) hx hb dX1_weigh_12 hl (by decide) rfl (fun ls hl => ?_)
  have LW : ∀ (k0 : Nat) (r : Nat), n - r < k0 → (hr1 : r ≤ n) → ∀ (H : Heap) (locs : List Loc), va_P D vwCl [(G, .inr (1, [.ref GB, .ref GW, .ref GR])), (GB, zArr cI 64 bo), (GW, zArr cI 64 wo), (GR, zArr cI 6 ro), (B, .inr (0, [.ref C, .int (iI ((n : Nat) : Int))])), (C, zArr cI 36 b)] H → va_D A [(G, .inr (1, [.ref GB, .ref GW, .ref GR])), (GB, zArr cI 64 bo), (GW, zArr cI 64 wo), (GR, zArr cI 6 ro), (B, .inr (0, [.ref C, .int (iI ((n : Nat) : Int))])), (C, zArr cI 36 b)] → va_S A s.heap H locs → ∀ (ls : Array Slot), lv_has ls 9 [(0, .ref G), (1, .ref B), (2, .int (iI ((t : Nat) : Int))), (3, .int (iI ((zPop t : Nat) : Int))), (4, .int (iI (zBest (zFold (zF n b t) r)))), (5, .int (iI (zWays (zFold (zF n b t) r)))), (6, .int (iI ((r : Nat) : Int)))] → W p l e (zRm 2 43) s m args below meth c H locs 0 0 (MQ below (va_Qv (S := Unit) (fun _ => True) (fun u9 t9 => va_P D vwCl ((fun _ => [(G, .inr (1, [.ref GB, .ref GW, .ref GR])), (GB, zArr cI 64 (uZ bo t (zBest (zD n b t)))), (GW, zArr cI 64 (uZ wo t (zWays (zD n b t)))), (GR, zArr cI 6 ro), (B, .inr (0, [.ref C, .int (iI ((n : Nat) : Int))])), (C, zArr cI 36 b)]) u9) t9.heap) A) args s 0 0 A) (F0 m 14 ls []) := by
    intro k0
    induction k0 with
    | zero => intro r hk; exact absurd hk (Nat.not_lt_zero _)
    | succ k0 ih_LW =>
      intro r hk hr1 H locs hP hD hS ls hl
      refine lv_iload hx hb dX1_weigh_14 (lv_at hl 6 rfl) ?_
      refine lv_aload_n hx hb dX1_weigh_16 rfl (lv_at hl 1 rfl) ?_
      refine zc_ri (As := []) (rest := [.int (iI ((r : Nat) : Int))]) hF (c_X0_size l D cI B C n b ) (cwV 0 hts gX1_weigh_X0_size rfl rfl rfl (by decide +kernel) ⟨Nat.le_of_ble_eq_true rfl, Nat.le_of_ble_eq_true rfl⟩) hK hP [4, 5] rfl 0 rfl 0 rfl rfl rfl rfl hl.1 rfl (Nat.le_of_ble_eq_true rfl) dX1_weigh_17 ⟨Nat.zero_le _, Nat.zero_le _⟩ ?_
      refine zr_icmp_ge (tgt := 96) hx hb dX1_weigh_20 (by decide) (zB_of (by omega) (by omega)) (zB_of (by omega) (by omega)) (fun c1 => ?_) (fun c1 => ?_)
      · refine lv_aload_n hx hb dX1_weigh_96 rfl (lv_at hl 0 rfl) ?_
        refine va_get (D := D) (ci := 1) (v := .ref GB) (C := RX1) (T := TX1) (N := 3) hx hb hts (by decide +kernel) hown hK hP 0 rfl rfl 0 (by decide) (hts (.fieldLink RX1 9 "RentHarmony$Giving" "bestOfRest" "[I") (by decide +kernel)) (fun _ h9 => h9) rfl dX1_weigh_97 ?_
        refine lv_iload_n hx hb dX1_weigh_100 rfl (lv_at hl 2 rfl) ?_
        refine lv_iload hx hb dX1_weigh_101 (lv_at hl 4 rfl) ?_
        refine zr_iast hx hb hK hP hD hS 1 0 rfl rfl (t) (by omega) (by omega) (by omega) dX1_weigh_103 (fun H locs hP hD hS => ?_)
        have hP : va_P D vwCl [(G, .inr (1, [.ref GB, .ref GW, .ref GR])), (GB, zArr cI 64 (uZ bo (t) (zBest (zFold (zF n b t) r)))), (GW, zArr cI 64 wo), (GR, zArr cI 6 ro), (B, .inr (0, [.ref C, .int (iI ((n : Nat) : Int))])), (C, zArr cI 36 b)] H := hP
        have hD : va_D A [(G, .inr (1, [.ref GB, .ref GW, .ref GR])), (GB, zArr cI 64 (uZ bo (t) (zBest (zFold (zF n b t) r)))), (GW, zArr cI 64 wo), (GR, zArr cI 6 ro), (B, .inr (0, [.ref C, .int (iI ((n : Nat) : Int))])), (C, zArr cI 36 b)] := hD
        refine lv_aload_n hx hb dX1_weigh_104 rfl (lv_at hl 0 rfl) ?_
        refine va_get (D := D) (ci := 1) (v := .ref GW) (C := RX1) (T := TX1) (N := 3) hx hb hts (by decide +kernel) hown hK hP 0 rfl rfl 1 (by decide) (hts (.fieldLink RX1 15 "RentHarmony$Giving" "waysOfRest" "[I") (by decide +kernel)) (fun _ h9 => h9) rfl dX1_weigh_105 ?_
        refine lv_iload_n hx hb dX1_weigh_108 rfl (lv_at hl 2 rfl) ?_
        refine lv_iload hx hb dX1_weigh_109 (lv_at hl 5 rfl) ?_
        refine zr_iast hx hb hK hP hD hS 2 0 rfl rfl (t) (by omega) (by omega) (by omega) dX1_weigh_111 (fun H locs hP hD hS => ?_)
        have hP : va_P D vwCl [(G, .inr (1, [.ref GB, .ref GW, .ref GR])), (GB, zArr cI 64 (uZ bo (t) (zBest (zFold (zF n b t) r)))), (GW, zArr cI 64 (uZ wo (t) (zWays (zFold (zF n b t) r)))), (GR, zArr cI 6 ro), (B, .inr (0, [.ref C, .int (iI ((n : Nat) : Int))])), (C, zArr cI 36 b)] H := hP
        have hD : va_D A [(G, .inr (1, [.ref GB, .ref GW, .ref GR])), (GB, zArr cI 64 (uZ bo (t) (zBest (zFold (zF n b t) r)))), (GW, zArr cI 64 (uZ wo (t) (zWays (zFold (zF n b t) r)))), (GR, zArr cI 6 ro), (B, .inr (0, [.ref C, .int (iI ((n : Nat) : Int))])), (C, zArr cI 36 b)] := hD
        have e9 : r = n := by omega
        rw [e9, ← zD_fold hn ht hf] at hP
        exact zWv_ret hx hb hr hlocks hS dX1_weigh_112 () trivial hP
      · have hbw := zF_bound hn hb0 ht r (by omega)
        refine lv_iload_n hx hb dX1_weigh_23 rfl (lv_at hl 2 rfl) ?_
        refine lv_iload hx hb dX1_weigh_24 (lv_at hl 6 rfl) ?_
        refine lv_ishr hx hb dX1_weigh_26 ?_
        refine zr_ic (n := ((1 : Nat) : Int)) hx hb dX1_weigh_27 ?_
        refine lv_iand hx hb dX1_weigh_28 ?_
        refine zr_top (w := .int (iI (bZ (t.testBit r = true)))) (congrArg Value.int (zb_bit h64 (by omega))) ?_
        refine zr_ifB_ne (tgt := 90) hx hb dX1_weigh_29 (by decide)  (fun c2 => ?_) (fun c2 => ?_)
        · have hT : zT t r = true := c2
          refine zr_iinc (lv2 := [(6, .int (iI (((r : Nat) : Int) + 1))), (0, .ref G), (1, .ref B), (2, .int (iI ((t : Nat) : Int))), (3, .int (iI ((zPop t : Nat) : Int))), (4, .int (iI (zBest (zFold (zF n b t) r)))), (5, .int (iI (zWays (zFold (zF n b t) r))))]) hx hb dX1_weigh_90 hl (k0 := 6) rfl (by decide) rfl (fun ls hl => ?_)
          have hl : lv_has ls 9 [(6, .int (iI ((r + 1 : Nat) : Int))), (0, .ref G), (1, .ref B), (2, .int (iI ((t : Nat) : Int))), (3, .int (iI ((zPop t : Nat) : Int))), (4, .int (iI (zBest (zFold (zF n b t) r)))), (5, .int (iI (zWays (zFold (zF n b t) r))))] := hl
          refine lv_goto (tgt := 14) hx hb dX1_weigh_93 (by decide) ?_
          have hl : lv_has ls 9 [(6, .int (iI ((r + 1 : Nat) : Int))), (0, .ref G), (1, .ref B), (2, .int (iI ((t : Nat) : Int))), (3, .int (iI ((zPop t : Nat) : Int))), (4, .int (iI (zBest (zFold (zF n b t) (r + 1))))), (5, .int (iI (zWays (zFold (zF n b t) r))))] := by rw [show (zBest (zFold (zF n b t) (r + 1))) = (zBest (zFold (zF n b t) r)) from by rw [zF_taken hT]]; exact hl
          have hl : lv_has ls 9 [(6, .int (iI ((r + 1 : Nat) : Int))), (0, .ref G), (1, .ref B), (2, .int (iI ((t : Nat) : Int))), (3, .int (iI ((zPop t : Nat) : Int))), (4, .int (iI (zBest (zFold (zF n b t) (r + 1))))), (5, .int (iI (zWays (zFold (zF n b t) (r + 1)))))] := by rw [show (zWays (zFold (zF n b t) (r + 1))) = (zWays (zFold (zF n b t) r)) from by rw [zF_taken hT]]; exact hl
          exact ih_LW (r + 1) (by omega) (by omega) _ _ hP hD hS _ (lv_sub hl [1, 2, 3, 4, 5, 6, 0] rfl)
        · have hT : ¬ zT t r = true := c2
          obtain ⟨g, hg1, hg2, hg3, hg4⟩ := zF_free hn hb0 ht (by omega : r < n) hT
          obtain ⟨ho1, ho2, ho3⟩ := zT_or hn ht (by omega : r < n) (by simpa using hT)
          obtain ⟨hd1, hd2⟩ := hDP _ ho1 ho2
          rw [hg1] at hd1 hd2
          have hd1 : bo (t ||| 1 <<< r) = g.1 := hd1
          have hd2 : wo (t ||| 1 <<< r) = g.2.1 := hd2
          have hbk := hb0 (zPop t * 6 + r)
          have ho4 : (t ||| 1 <<< r) < 64 := by omega
          have hbw := zF_bound hn hb0 ht r (by omega)
          refine lv_iload_n hx hb dX1_weigh_32 rfl (lv_at hl 2 rfl) ?_
          refine zr_ic (n := ((1 : Nat) : Int)) hx hb dX1_weigh_33 ?_
          refine lv_iload hx hb dX1_weigh_34 (lv_at hl 6 rfl) ?_
          refine lv_ishl hx hb dX1_weigh_36 ?_
          refine lv_ior hx hb dX1_weigh_37 ?_
          refine zr_top (w := .int (iI ((t ||| 1 <<< r : Nat) : Int))) (congrArg Value.int (zb_or h64 (by omega))) ?_
          refine lv_istore (lv' := [(7, .int (iI ((t ||| 1 <<< r : Nat) : Int))), (0, .ref G), (1, .ref B), (2, .int (iI ((t : Nat) : Int))), (3, .int (iI ((zPop t : Nat) : Int))), (4, .int (iI (zBest (zFold (zF n b t) r)))), (5, .int (iI (zWays (zFold (zF n b t) r)))), (6, .int (iI ((r : Nat) : Int)))]) hx hb dX1_weigh_38 hl (by decide) rfl (fun ls hl => ?_)
          refine lv_aload_n hx hb dX1_weigh_40 rfl (lv_at hl 2 rfl) ?_
          refine lv_iload_n hx hb dX1_weigh_41 rfl (lv_at hl 4 rfl) ?_
          refine lv_iload hx hb dX1_weigh_42 (lv_at hl 7 rfl) ?_
          refine zc_ri (As := [.int (iI ((zPop t : Nat) : Int)), .int (iI ((r : Nat) : Int))]) (rest := []) hF (c_X0_of l D cI B C n b (zPop t) r (by omega) (by omega) (by omega)) (cwV 2 hts gX1_weigh_X0_of rfl rfl rfl (by decide +kernel) ⟨Nat.le_of_ble_eq_true rfl, Nat.le_of_ble_eq_true rfl⟩) hK hP [4, 5] rfl 0 rfl 0 rfl rfl rfl rfl hl.1 rfl (Nat.le_of_ble_eq_true rfl) dX1_weigh_44 ⟨Nat.zero_le _, Nat.zero_le _⟩ ?_
          refine lv_aload_n hx hb dX1_weigh_47 rfl (lv_at hl 1 rfl) ?_
          refine va_get (D := D) (ci := 1) (v := .ref GB) (C := RX1) (T := TX1) (N := 3) hx hb hts (by decide +kernel) hown hK hP 0 rfl rfl 0 (by decide) (hts (.fieldLink RX1 9 "RentHarmony$Giving" "bestOfRest" "[I") (by decide +kernel)) (fun _ h9 => h9) rfl dX1_weigh_48 ?_
          refine lv_iload hx hb dX1_weigh_51 (lv_at hl 0 rfl) ?_
          refine zr_iald hx hb hK hP 1 0 rfl rfl (t ||| 1 <<< r) (by omega) (by omega) (by omega) dX1_weigh_53 ?_
          refine zr_add hx hb dX1_weigh_54 ?_
          refine lv_istore (lv' := [(8, .int (iI ((b ((zPop t) * 6 + r)) + (bo (t ||| 1 <<< r))))), (7, .int (iI ((t ||| 1 <<< r : Nat) : Int))), (0, .ref G), (1, .ref B), (2, .int (iI ((t : Nat) : Int))), (3, .int (iI ((zPop t : Nat) : Int))), (4, .int (iI (zBest (zFold (zF n b t) r)))), (5, .int (iI (zWays (zFold (zF n b t) r)))), (6, .int (iI ((r : Nat) : Int)))]) hx hb dX1_weigh_55 hl (by decide) rfl (fun ls hl => ?_)
          refine lv_iload hx hb dX1_weigh_57 (lv_at hl 0 rfl) ?_
          refine lv_iload hx hb dX1_weigh_59 (lv_at hl 6 rfl) ?_
          refine zr_icmp_le (tgt := 71) hx hb dX1_weigh_61 (by decide) (zB_of (by omega) (by omega)) (zB_of (by omega) (by omega)) (fun c3 => ?_) (fun c3 => ?_)
          · refine lv_iload hx hb dX1_weigh_71 (lv_at hl 0 rfl) ?_
            refine lv_iload hx hb dX1_weigh_73 (lv_at hl 6 rfl) ?_
            refine zr_icmp_ne (tgt := 90) hx hb dX1_weigh_75 (by decide) (zB_of (by omega) (by omega)) (zB_of (by omega) (by omega)) (fun c4 => ?_) (fun c4 => ?_)
            · refine zr_iinc (lv2 := [(6, .int (iI (((r : Nat) : Int) + 1))), (8, .int (iI ((b ((zPop t) * 6 + r)) + (bo (t ||| 1 <<< r))))), (7, .int (iI ((t ||| 1 <<< r : Nat) : Int))), (0, .ref G), (1, .ref B), (2, .int (iI ((t : Nat) : Int))), (3, .int (iI ((zPop t : Nat) : Int))), (4, .int (iI (zBest (zFold (zF n b t) r)))), (5, .int (iI (zWays (zFold (zF n b t) r))))]) hx hb dX1_weigh_90 hl (k0 := 8) rfl (by decide) rfl (fun ls hl => ?_)
              have hl : lv_has ls 9 [(6, .int (iI ((r + 1 : Nat) : Int))), (8, .int (iI ((b ((zPop t) * 6 + r)) + (bo (t ||| 1 <<< r))))), (7, .int (iI ((t ||| 1 <<< r : Nat) : Int))), (0, .ref G), (1, .ref B), (2, .int (iI ((t : Nat) : Int))), (3, .int (iI ((zPop t : Nat) : Int))), (4, .int (iI (zBest (zFold (zF n b t) r)))), (5, .int (iI (zWays (zFold (zF n b t) r))))] := hl
              refine lv_goto (tgt := 14) hx hb dX1_weigh_93 (by decide) ?_
              have hl : lv_has ls 9 [(6, .int (iI ((r + 1 : Nat) : Int))), (8, .int (iI ((b ((zPop t) * 6 + r)) + (bo (t ||| 1 <<< r))))), (7, .int (iI ((t ||| 1 <<< r : Nat) : Int))), (0, .ref G), (1, .ref B), (2, .int (iI ((t : Nat) : Int))), (3, .int (iI ((zPop t : Nat) : Int))), (4, .int (iI (zBest (zFold (zF n b t) (r + 1))))), (5, .int (iI (zWays (zFold (zF n b t) r))))] := by rw [show (zBest (zFold (zF n b t) (r + 1))) = (zBest (zFold (zF n b t) r)) from by rw [hg3]; split <;> omega]; exact hl
              have hl : lv_has ls 9 [(6, .int (iI ((r + 1 : Nat) : Int))), (8, .int (iI ((b ((zPop t) * 6 + r)) + (bo (t ||| 1 <<< r))))), (7, .int (iI ((t ||| 1 <<< r : Nat) : Int))), (0, .ref G), (1, .ref B), (2, .int (iI ((t : Nat) : Int))), (3, .int (iI ((zPop t : Nat) : Int))), (4, .int (iI (zBest (zFold (zF n b t) (r + 1))))), (5, .int (iI (zWays (zFold (zF n b t) (r + 1)))))] := by rw [show (zWays (zFold (zF n b t) (r + 1))) = (zWays (zFold (zF n b t) r)) from by rw [hg4]; split; omega; split <;> omega]; exact hl
              exact ih_LW (r + 1) (by omega) (by omega) _ _ hP hD hS _ (lv_sub hl [3, 4, 5, 6, 7, 8, 0] rfl)
            · refine lv_iload hx hb dX1_weigh_78 (lv_at hl 7 rfl) ?_
              refine lv_aload_n hx hb dX1_weigh_80 rfl (lv_at hl 2 rfl) ?_
              refine va_get (D := D) (ci := 1) (v := .ref GW) (C := RX1) (T := TX1) (N := 3) hx hb hts (by decide +kernel) hown hK hP 0 rfl rfl 1 (by decide) (hts (.fieldLink RX1 15 "RentHarmony$Giving" "waysOfRest" "[I") (by decide +kernel)) (fun _ h9 => h9) rfl dX1_weigh_81 ?_
              refine lv_iload hx hb dX1_weigh_84 (lv_at hl 1 rfl) ?_
              refine zr_iald hx hb hK hP 2 0 rfl rfl (t ||| 1 <<< r) (by omega) (by omega) (by omega) dX1_weigh_86 ?_
              refine zr_add hx hb dX1_weigh_87 ?_
              refine lv_istore (lv' := [(5, .int (iI ((zWays (zFold (zF n b t) r)) + (wo (t ||| 1 <<< r))))), (8, .int (iI ((b ((zPop t) * 6 + r)) + (bo (t ||| 1 <<< r))))), (7, .int (iI ((t ||| 1 <<< r : Nat) : Int))), (0, .ref G), (1, .ref B), (2, .int (iI ((t : Nat) : Int))), (3, .int (iI ((zPop t : Nat) : Int))), (4, .int (iI (zBest (zFold (zF n b t) r)))), (6, .int (iI ((r : Nat) : Int)))]) hx hb dX1_weigh_88 hl (by decide) rfl (fun ls hl => ?_)
              refine zr_iinc (lv2 := [(6, .int (iI (((r : Nat) : Int) + 1))), (5, .int (iI ((zWays (zFold (zF n b t) r)) + (wo (t ||| 1 <<< r))))), (8, .int (iI ((b ((zPop t) * 6 + r)) + (bo (t ||| 1 <<< r))))), (7, .int (iI ((t ||| 1 <<< r : Nat) : Int))), (0, .ref G), (1, .ref B), (2, .int (iI ((t : Nat) : Int))), (3, .int (iI ((zPop t : Nat) : Int))), (4, .int (iI (zBest (zFold (zF n b t) r))))]) hx hb dX1_weigh_90 hl (k0 := 8) rfl (by decide) rfl (fun ls hl => ?_)
              have hl : lv_has ls 9 [(6, .int (iI ((r + 1 : Nat) : Int))), (5, .int (iI ((zWays (zFold (zF n b t) r)) + (wo (t ||| 1 <<< r))))), (8, .int (iI ((b ((zPop t) * 6 + r)) + (bo (t ||| 1 <<< r))))), (7, .int (iI ((t ||| 1 <<< r : Nat) : Int))), (0, .ref G), (1, .ref B), (2, .int (iI ((t : Nat) : Int))), (3, .int (iI ((zPop t : Nat) : Int))), (4, .int (iI (zBest (zFold (zF n b t) r))))] := hl
              refine lv_goto (tgt := 14) hx hb dX1_weigh_93 (by decide) ?_
              have hl : lv_has ls 9 [(6, .int (iI ((r + 1 : Nat) : Int))), (5, .int (iI ((zWays (zFold (zF n b t) r)) + (wo (t ||| 1 <<< r))))), (8, .int (iI ((b ((zPop t) * 6 + r)) + (bo (t ||| 1 <<< r))))), (7, .int (iI ((t ||| 1 <<< r : Nat) : Int))), (0, .ref G), (1, .ref B), (2, .int (iI ((t : Nat) : Int))), (3, .int (iI ((zPop t : Nat) : Int))), (4, .int (iI (zBest (zFold (zF n b t) (r + 1)))))] := by rw [show (zBest (zFold (zF n b t) (r + 1))) = (zBest (zFold (zF n b t) r)) from by rw [hg3]; split <;> omega]; exact hl
              have hl : lv_has ls 9 [(6, .int (iI ((r + 1 : Nat) : Int))), (5, .int (iI (zWays (zFold (zF n b t) (r + 1))))), (8, .int (iI ((b ((zPop t) * 6 + r)) + (bo (t ||| 1 <<< r))))), (7, .int (iI ((t ||| 1 <<< r : Nat) : Int))), (0, .ref G), (1, .ref B), (2, .int (iI ((t : Nat) : Int))), (3, .int (iI ((zPop t : Nat) : Int))), (4, .int (iI (zBest (zFold (zF n b t) (r + 1)))))] := by rw [show (zWays (zFold (zF n b t) (r + 1))) = ((zWays (zFold (zF n b t) r)) + (wo (t ||| 1 <<< r))) from by rw [hg4]; split; omega; split <;> omega]; exact hl
              exact ih_LW (r + 1) (by omega) (by omega) _ _ hP hD hS _ (lv_sub hl [4, 5, 6, 7, 8, 1, 0] rfl)
          · refine lv_iload hx hb dX1_weigh_64 (lv_at hl 0 rfl) ?_
            refine lv_istore (lv' := [(4, .int (iI ((b ((zPop t) * 6 + r)) + (bo (t ||| 1 <<< r))))), (8, .int (iI ((b ((zPop t) * 6 + r)) + (bo (t ||| 1 <<< r))))), (7, .int (iI ((t ||| 1 <<< r : Nat) : Int))), (0, .ref G), (1, .ref B), (2, .int (iI ((t : Nat) : Int))), (3, .int (iI ((zPop t : Nat) : Int))), (5, .int (iI (zWays (zFold (zF n b t) r)))), (6, .int (iI ((r : Nat) : Int)))]) hx hb dX1_weigh_66 hl (by decide) rfl (fun ls hl => ?_)
            refine zr_ic (n := ((0 : Nat) : Int)) hx hb dX1_weigh_68 ?_
            refine lv_istore (lv' := [(5, .int (iI ((0 : Nat) : Int))), (4, .int (iI ((b ((zPop t) * 6 + r)) + (bo (t ||| 1 <<< r))))), (8, .int (iI ((b ((zPop t) * 6 + r)) + (bo (t ||| 1 <<< r))))), (7, .int (iI ((t ||| 1 <<< r : Nat) : Int))), (0, .ref G), (1, .ref B), (2, .int (iI ((t : Nat) : Int))), (3, .int (iI ((zPop t : Nat) : Int))), (6, .int (iI ((r : Nat) : Int)))]) hx hb dX1_weigh_69 hl (by decide) rfl (fun ls hl => ?_)
            refine lv_iload hx hb dX1_weigh_71 (lv_at hl 2 rfl) ?_
            refine lv_iload hx hb dX1_weigh_73 (lv_at hl 1 rfl) ?_
            refine zr_icmp_ne (tgt := 90) hx hb dX1_weigh_75 (by decide) (zB_of (by omega) (by omega)) (zB_of (by omega) (by omega)) (fun c5 => ?_) (fun c5 => ?_)
            · exact absurd rfl c5
            · refine lv_iload hx hb dX1_weigh_78 (lv_at hl 0 rfl) ?_
              refine lv_aload_n hx hb dX1_weigh_80 rfl (lv_at hl 4 rfl) ?_
              refine va_get (D := D) (ci := 1) (v := .ref GW) (C := RX1) (T := TX1) (N := 3) hx hb hts (by decide +kernel) hown hK hP 0 rfl rfl 1 (by decide) (hts (.fieldLink RX1 15 "RentHarmony$Giving" "waysOfRest" "[I") (by decide +kernel)) (fun _ h9 => h9) rfl dX1_weigh_81 ?_
              refine lv_iload hx hb dX1_weigh_84 (lv_at hl 3 rfl) ?_
              refine zr_iald hx hb hK hP 2 0 rfl rfl (t ||| 1 <<< r) (by omega) (by omega) (by omega) dX1_weigh_86 ?_
              refine zr_add hx hb dX1_weigh_87 ?_
              refine lv_istore (lv' := [(5, .int (iI (((0 : Nat) : Int) + (wo (t ||| 1 <<< r))))), (4, .int (iI ((b ((zPop t) * 6 + r)) + (bo (t ||| 1 <<< r))))), (8, .int (iI ((b ((zPop t) * 6 + r)) + (bo (t ||| 1 <<< r))))), (7, .int (iI ((t ||| 1 <<< r : Nat) : Int))), (0, .ref G), (1, .ref B), (2, .int (iI ((t : Nat) : Int))), (3, .int (iI ((zPop t : Nat) : Int))), (6, .int (iI ((r : Nat) : Int)))]) hx hb dX1_weigh_88 hl (by decide) rfl (fun ls hl => ?_)
              refine zr_iinc (lv2 := [(6, .int (iI (((r : Nat) : Int) + 1))), (5, .int (iI (((0 : Nat) : Int) + (wo (t ||| 1 <<< r))))), (4, .int (iI ((b ((zPop t) * 6 + r)) + (bo (t ||| 1 <<< r))))), (8, .int (iI ((b ((zPop t) * 6 + r)) + (bo (t ||| 1 <<< r))))), (7, .int (iI ((t ||| 1 <<< r : Nat) : Int))), (0, .ref G), (1, .ref B), (2, .int (iI ((t : Nat) : Int))), (3, .int (iI ((zPop t : Nat) : Int)))]) hx hb dX1_weigh_90 hl (k0 := 8) rfl (by decide) rfl (fun ls hl => ?_)
              have hl : lv_has ls 9 [(6, .int (iI ((r + 1 : Nat) : Int))), (5, .int (iI (((0 : Nat) : Int) + (wo (t ||| 1 <<< r))))), (4, .int (iI ((b ((zPop t) * 6 + r)) + (bo (t ||| 1 <<< r))))), (8, .int (iI ((b ((zPop t) * 6 + r)) + (bo (t ||| 1 <<< r))))), (7, .int (iI ((t ||| 1 <<< r : Nat) : Int))), (0, .ref G), (1, .ref B), (2, .int (iI ((t : Nat) : Int))), (3, .int (iI ((zPop t : Nat) : Int)))] := hl
              refine lv_goto (tgt := 14) hx hb dX1_weigh_93 (by decide) ?_
              have hl : lv_has ls 9 [(6, .int (iI ((r + 1 : Nat) : Int))), (5, .int (iI (((0 : Nat) : Int) + (wo (t ||| 1 <<< r))))), (4, .int (iI (zBest (zFold (zF n b t) (r + 1))))), (8, .int (iI ((b ((zPop t) * 6 + r)) + (bo (t ||| 1 <<< r))))), (7, .int (iI ((t ||| 1 <<< r : Nat) : Int))), (0, .ref G), (1, .ref B), (2, .int (iI ((t : Nat) : Int))), (3, .int (iI ((zPop t : Nat) : Int)))] := by rw [show (zBest (zFold (zF n b t) (r + 1))) = ((b ((zPop t) * 6 + r)) + (bo (t ||| 1 <<< r))) from by rw [hg3]; split <;> omega]; exact hl
              have hl : lv_has ls 9 [(6, .int (iI ((r + 1 : Nat) : Int))), (5, .int (iI (zWays (zFold (zF n b t) (r + 1))))), (4, .int (iI (zBest (zFold (zF n b t) (r + 1))))), (8, .int (iI ((b ((zPop t) * 6 + r)) + (bo (t ||| 1 <<< r))))), (7, .int (iI ((t ||| 1 <<< r : Nat) : Int))), (0, .ref G), (1, .ref B), (2, .int (iI ((t : Nat) : Int))), (3, .int (iI ((zPop t : Nat) : Int)))] := by rw [show (zWays (zFold (zF n b t) (r + 1))) = (((0 : Nat) : Int) + (wo (t ||| 1 <<< r))) from by rw [hg4]; split; omega; split <;> omega]; exact hl
              exact ih_LW (r + 1) (by omega) (by omega) _ _ hP hD hS _ (lv_sub hl [5, 6, 7, 8, 2, 1, 0] rfl)
  have hl : lv_has ls 9 [(6, .int (iI ((0 : Nat) : Int))), (5, .int (iI ((0 : Nat) : Int))), (4, .int (iI (zBest (zFold (zF n b t) 0)))), (3, .int (iI ((zPop t : Nat) : Int))), (0, .ref G), (1, .ref B), (2, .int (iI ((t : Nat) : Int)))] := by rw [show (zBest (zFold (zF n b t) 0)) = (-1) from rfl]; exact hl
  have hl : lv_has ls 9 [(6, .int (iI ((0 : Nat) : Int))), (5, .int (iI (zWays (zFold (zF n b t) 0)))), (4, .int (iI (zBest (zFold (zF n b t) 0)))), (3, .int (iI ((zPop t : Nat) : Int))), (0, .ref G), (1, .ref B), (2, .int (iI ((t : Nat) : Int)))] := by rw [show (zWays (zFold (zF n b t) 0)) = ((0 : Nat) : Int) from rfl]; exact hl
  exact LW ((n - (0)) + 1) (0) (Nat.lt_succ_self _) (by omega) _ _ hP hD hS _ (lv_sub hl [4, 5, 6, 3, 2, 1, 0] rfl)
set_option maxHeartbeats 4000000 in
set_option maxRecDepth 100000 in
/-- X1_firstBestRoom -/
theorem c_X1_firstBestRoom (l : Launch) (D : va_G) (cI : ClassId) (G GB GW GR : Nat) (bo wo ro : Nat → Int) (B C n : Nat) (b : Nat → Int) (t : Nat) (hn : n ≤ 6) (hb0 : ∀ k, 0 ≤ b k ∧ b k ≤ 999) (ht : t < 2 ^ n) (hf : t ≠ 2 ^ n - 1) (hDP : ∀ u, u < 2 ^ n → bo u = zBest (zD n b u)) : zRi l yX1_firstBestRoom wsX1_firstBestRoom 2 43 D cI [.ref G, .ref B, .int (iI ((zPop t : Nat) : Int)), .int (iI ((t : Nat) : Int))] [(G, .inr (1, [.ref GB, .ref GW, .ref GR])), (GB, zArr cI 64 bo), (GW, zArr cI 64 wo), (GR, zArr cI 6 ro), (B, .inr (0, [.ref C, .int (iI ((n : Nat) : Int))])), (C, zArr cI 36 b)] (iI (((zHd n b t : Nat) : Int))) := by
  refine zRi_of (cc := cX1_firstBestRoom) (maxL := 5) (rt := .int) (by decide) rfl (Nat.le_of_ble_eq_true rfl) ?_
  intro p e s m args below meth c ls hF hr hlocks hP hK hl
  have hF : zFix p m c cX1_firstBestRoom 5 s args wsX1_firstBestRoom RX1 := hF
  obtain ⟨hx, hb, hml, hown, hts⟩ := id hF
  have hP : va_P D vwCl [(G, .inr (1, [.ref GB, .ref GW, .ref GR])), (GB, zArr cI 64 bo), (GW, zArr cI 64 wo), (GR, zArr cI 6 ro), (B, .inr (0, [.ref C, .int (iI ((n : Nat) : Int))])), (C, zArr cI 36 b)] s.heap := hP
  have hl : lv_has ls 5 [(0, .ref G), (1, .ref B), (2, .int (iI ((zPop t : Nat) : Int))), (3, .int (iI ((t : Nat) : Int)))] := hl
  have hpw := (zT_full hn).2.2
  have h64 : t < 64 := by omega
  have hpop := zT_notfull hn ht hf
  obtain ⟨y, hs1, hs2, hs3, hs4, hs5, hs6⟩ := zHd_spec (b := b) hn ht hf
  refine zr_ic (n := ((0 : Nat) : Int)) hx hb dX1_firstBestRoom_0 ?_
  refine lv_istore (lv' := [(4, .int (iI ((0 : Nat) : Int))), (0, .ref G), (1, .ref B), (2, .int (iI ((zPop t : Nat) : Int))), (3, .int (iI ((t : Nat) : Int)))]) hx hb dX1_firstBestRoom_1 hl (by decide) rfl (fun ls hl => ?_)
  have LF : ∀ (k0 : Nat) (i : Nat), n - i < k0 → (hi : i ≤ n) → (hno : ∀ q, q < i → zT t q = false → b (zPop t * 6 + q) + zBest (zD n b (t ||| 1 <<< q)) ≠ zBest (zD n b t)) → ∀ (ls : Array Slot), lv_has ls 5 [(0, .ref G), (1, .ref B), (2, .int (iI ((zPop t : Nat) : Int))), (3, .int (iI ((t : Nat) : Int))), (4, .int (iI ((i : Nat) : Int)))] → W p l e (zRm 2 43) s m args below meth c s.heap [] 0 0 (MQ below (vp_Si (fun x => x = (iI (((zHd n b t : Nat) : Int))))) args s 0 0 (fun _ => False)) (F0 m 3 ls []) := by
    intro k0
    induction k0 with
    | zero => intro i hk; exact absurd hk (Nat.not_lt_zero _)
    | succ k0 ih_LF =>
      intro i hk hi hno ls hl
      refine lv_iload hx hb dX1_firstBestRoom_3 (lv_at hl 4 rfl) ?_
      refine lv_aload_n hx hb dX1_firstBestRoom_5 rfl (lv_at hl 1 rfl) ?_
      refine zc_ri (As := []) (rest := [.int (iI ((i : Nat) : Int))]) hF (c_X0_size l D cI B C n b ) (cwV 0 hts gX1_firstBestRoom_X0_size rfl rfl rfl (by decide +kernel) ⟨Nat.le_of_ble_eq_true rfl, Nat.le_of_ble_eq_true rfl⟩) hK hP [4, 5] rfl 0 rfl 0 rfl rfl rfl rfl hl.1 rfl (Nat.le_of_ble_eq_true rfl) dX1_firstBestRoom_6 ⟨Nat.zero_le _, Nat.zero_le _⟩ ?_
      refine zr_icmp_ge (tgt := 58) hx hb dX1_firstBestRoom_9 (by decide) (zB_of (by omega) (by omega)) (zB_of (by omega) (by omega)) (fun c1 => ?_) (fun c1 => ?_)
      · exact absurd (by rw [hs3]; exact hs4) (hno _ (by omega) hs2)
      · refine lv_iload_n hx hb dX1_firstBestRoom_12 rfl (lv_at hl 3 rfl) ?_
        refine lv_iload hx hb dX1_firstBestRoom_13 (lv_at hl 4 rfl) ?_
        refine lv_ishr hx hb dX1_firstBestRoom_15 ?_
        refine zr_ic (n := ((1 : Nat) : Int)) hx hb dX1_firstBestRoom_16 ?_
        refine lv_iand hx hb dX1_firstBestRoom_17 ?_
        refine zr_top (w := .int (iI (bZ (t.testBit i = true)))) (congrArg Value.int (zb_bit h64 (by omega))) ?_
        refine zr_ifB_ne (tgt := 52) hx hb dX1_firstBestRoom_18 (by decide)  (fun c2 => ?_) (fun c2 => ?_)
        · have hT : zT t i = true := c2
          refine zr_iinc (lv2 := [(4, .int (iI (((i : Nat) : Int) + 1))), (0, .ref G), (1, .ref B), (2, .int (iI ((zPop t : Nat) : Int))), (3, .int (iI ((t : Nat) : Int)))]) hx hb dX1_firstBestRoom_52 hl (k0 := 4) rfl (by decide) rfl (fun ls hl => ?_)
          have hl : lv_has ls 5 [(4, .int (iI ((i + 1 : Nat) : Int))), (0, .ref G), (1, .ref B), (2, .int (iI ((zPop t : Nat) : Int))), (3, .int (iI ((t : Nat) : Int)))] := hl
          refine lv_goto (tgt := 3) hx hb dX1_firstBestRoom_55 (by decide) ?_
          exact ih_LF (i + 1) (by omega) (by omega) (lt_s hno (fun hTq => absurd (hT.symm.trans hTq) (by decide))) _ (lv_sub hl [1, 2, 3, 4, 0] rfl)
        · have hT : zT t i = false := by simpa using (show ¬ zT t i = true from c2)
          obtain ⟨ho1, ho2, ho3⟩ := zT_or hn ht (by omega : i < n) hT
          obtain ⟨g, hg⟩ := zD_some (b := b) hn ho2
          obtain ⟨g2, hg2⟩ := zD_some (b := b) hn ht
          have hgb := zD_bound hn hb0 hg
          have hgb2 := zD_bound hn hb0 hg2
          have hd1 := hDP _ ho2
          have hd2 := hDP _ ht
          rw [hg] at hd1
          rw [hg2] at hd2
          have hd1 : bo (t ||| 1 <<< i) = g.1 := hd1
          have hd2 : bo t = g2.1 := hd2
          have hbk := hb0 (zPop t * 6 + i)
          have ho4 : (t ||| 1 <<< i) < 64 := by omega
          refine lv_aload_n hx hb dX1_firstBestRoom_21 rfl (lv_at hl 1 rfl) ?_
          refine lv_iload_n hx hb dX1_firstBestRoom_22 rfl (lv_at hl 2 rfl) ?_
          refine lv_iload hx hb dX1_firstBestRoom_23 (lv_at hl 4 rfl) ?_
          refine zc_ri (As := [.int (iI ((zPop t : Nat) : Int)), .int (iI ((i : Nat) : Int))]) (rest := []) hF (c_X0_of l D cI B C n b (zPop t) i (by omega) (by omega) (by omega)) (cwV 2 hts gX1_firstBestRoom_X0_of rfl rfl rfl (by decide +kernel) ⟨Nat.le_of_ble_eq_true rfl, Nat.le_of_ble_eq_true rfl⟩) hK hP [4, 5] rfl 0 rfl 0 rfl rfl rfl rfl hl.1 rfl (Nat.le_of_ble_eq_true rfl) dX1_firstBestRoom_25 ⟨Nat.zero_le _, Nat.zero_le _⟩ ?_
          refine lv_aload_n hx hb dX1_firstBestRoom_28 rfl (lv_at hl 0 rfl) ?_
          refine va_get (D := D) (ci := 1) (v := .ref GB) (C := RX1) (T := TX1) (N := 3) hx hb hts (by decide +kernel) hown hK hP 0 rfl rfl 0 (by decide) (hts (.fieldLink RX1 9 "RentHarmony$Giving" "bestOfRest" "[I") (by decide +kernel)) (fun _ h9 => h9) rfl dX1_firstBestRoom_29 ?_
          refine lv_iload_n hx hb dX1_firstBestRoom_32 rfl (lv_at hl 3 rfl) ?_
          refine zr_ic (n := ((1 : Nat) : Int)) hx hb dX1_firstBestRoom_33 ?_
          refine lv_iload hx hb dX1_firstBestRoom_34 (lv_at hl 4 rfl) ?_
          refine lv_ishl hx hb dX1_firstBestRoom_36 ?_
          refine lv_ior hx hb dX1_firstBestRoom_37 ?_
          refine zr_top (w := .int (iI ((t ||| 1 <<< i : Nat) : Int))) (congrArg Value.int (zb_or h64 (by omega))) ?_
          refine zr_iald hx hb hK hP 1 0 rfl rfl (t ||| 1 <<< i) (by omega) (by omega) (by omega) dX1_firstBestRoom_38 ?_
          refine zr_add hx hb dX1_firstBestRoom_39 ?_
          refine lv_aload_n hx hb dX1_firstBestRoom_40 rfl (lv_at hl 0 rfl) ?_
          refine va_get (D := D) (ci := 1) (v := .ref GB) (C := RX1) (T := TX1) (N := 3) hx hb hts (by decide +kernel) hown hK hP 0 rfl rfl 0 (by decide) (hts (.fieldLink RX1 9 "RentHarmony$Giving" "bestOfRest" "[I") (by decide +kernel)) (fun _ h9 => h9) rfl dX1_firstBestRoom_41 ?_
          refine lv_iload_n hx hb dX1_firstBestRoom_44 rfl (lv_at hl 3 rfl) ?_
          refine zr_iald hx hb hK hP 1 0 rfl rfl (t) (by omega) (by omega) (by omega) dX1_firstBestRoom_45 ?_
          refine zr_icmp_ne (tgt := 52) hx hb dX1_firstBestRoom_46 (by decide) (zB_of (by omega) (by omega)) (zB_of (by omega) (by omega)) (fun c3 => ?_) (fun c3 => ?_)
          · have hne := c3
            refine zr_iinc (lv2 := [(4, .int (iI (((i : Nat) : Int) + 1))), (0, .ref G), (1, .ref B), (2, .int (iI ((zPop t : Nat) : Int))), (3, .int (iI ((t : Nat) : Int)))]) hx hb dX1_firstBestRoom_52 hl (k0 := 4) rfl (by decide) rfl (fun ls hl => ?_)
            have hl : lv_has ls 5 [(4, .int (iI ((i + 1 : Nat) : Int))), (0, .ref G), (1, .ref B), (2, .int (iI ((zPop t : Nat) : Int))), (3, .int (iI ((t : Nat) : Int)))] := hl
            refine lv_goto (tgt := 3) hx hb dX1_firstBestRoom_55 (by decide) ?_
            exact ih_LF (i + 1) (by omega) (by omega) (lt_s hno (fun _ => by rw [← hDP _ ho2, ← hDP _ ht]; exact hne)) _ (lv_sub hl [1, 2, 3, 4, 0] rfl)
          · have hroom : i = zHd n b t := by
              rcases Nat.lt_trichotomy i (zHd n b t) with q | q | q
              · exact absurd (by rw [← hDP _ ho2, ← hDP _ ht]; exact c3) (hs6 i q hT)
              · exact q
              · exact absurd (by rw [hs3]; exact hs4) (hno _ q hs2)
            refine lv_iload hx hb dX1_firstBestRoom_49 (lv_at hl 4 rfl) ?_
            exact zRi_ret hx hb hr hlocks dX1_firstBestRoom_51 (congrArg iI (congrArg Nat.cast (hroom)))
  exact LF ((n - (0)) + 1) (0) (Nat.lt_succ_self _) (Nat.zero_le _) (fun q hq _ => absurd hq (Nat.not_lt_zero _)) _ (lv_sub hl [1, 2, 3, 4, 0] rfl)
