theorem zSet_ro {n : Nat} {b : Nat → Int} {rc : Int} {bo wo ro fr : Nat → Int} {sh po : Int} (h : zSet n b rc bo wo ro fr sh po) : ∀ j, j < n → ro j = ((zRo n b j : Nat) : Int) := h.1.2.2
theorem zDouble_two (k : Nat) : 2 ^ (k + 1) / 2 = 2 ^ k := by rw [Nat.pow_succ]; exact Nat.mul_div_cancel _ (by decide)

set_option maxHeartbeats 4000000 in
set_option maxRecDepth 100000 in
/-- X2_told -/
theorem c_X2_told (l : Launch) (D : va_G) (cI : ClassId) (h B C G GB GW GR TB TG FR CH n : Nat) (b bo wo ro fr : Nat → Int) (rc sh po : Int) (x w : Nat) (hn : n ≤ 6) (hb0 : ∀ k, 0 ≤ b k ∧ b k ≤ 999) (hrc : 0 ≤ rc ∧ rc ≤ 5999) (hset : zSet n b rc bo wo ro fr sh po) (hx0 : x < n) (hw : w < 6) : zRi l yX2_told wsX2_told 6 131 D cI [.ref h, .int (iI ((x : Nat) : Int)), .int (iI ((w : Nat) : Int))] [(h, .inr (2, [.ref B, .ref G, .ref TB, .ref TG, .ref FR, .ref CH, .int (iI (rc)), .int (iI (sh)), .int (iI (po))])), (B, .inr (0, [.ref C, .int (iI ((n : Nat) : Int))])), (C, zArr cI 36 b), (G, .inr (1, [.ref GB, .ref GW, .ref GR])), (GB, zArr cI 64 bo), (GW, zArr cI 64 wo), (GR, zArr cI 6 ro), (FR, zArr cI 6 fr)] (iI (zFa n b rc fr x w)) := by
  refine zRi_of (cc := cX2_told) (maxL := 3) (rt := .int) (by decide) rfl (Nat.le_of_ble_eq_true rfl) ?_
  intro p e s m args below meth c ls hF hr hlocks hP hK hl
  have hF : zFix p m c cX2_told 3 s args wsX2_told RX2 := hF
  obtain ⟨hx, hb, hml, hown, hts⟩ := id hF
  have hP : va_P D vwCl [(h, .inr (2, [.ref B, .ref G, .ref TB, .ref TG, .ref FR, .ref CH, .int (iI (rc)), .int (iI (sh)), .int (iI (po))])), (B, .inr (0, [.ref C, .int (iI ((n : Nat) : Int))])), (C, zArr cI 36 b), (G, .inr (1, [.ref GB, .ref GW, .ref GR])), (GB, zArr cI 64 bo), (GW, zArr cI 64 wo), (GR, zArr cI 6 ro), (FR, zArr cI 6 fr)] s.heap := hP
  have hro := zSet_ro hset
  have hgn := zRo_lt (b := b) hn
  have hsh : sh = zSh0 n b rc fr := hset.2.2.1
  have hl : lv_has ls 3 [(0, .ref h), (1, .int (iI ((x : Nat) : Int))), (2, .int (iI ((w : Nat) : Int)))] := hl
  refine lv_aload_n hx hb dX2_told_0 rfl (lv_at hl 0 rfl) ?_
  refine va_get (D := D) (ci := 2) (v := .ref B) (C := RX2) (T := TX2) (N := 9) hx hb hts (by decide +kernel) hown hK hP 0 rfl rfl 0 (by decide) (hts (.fieldLink RX2 10 "RentHarmony" "bids" "LRentHarmony$Bids;") (by decide +kernel)) (fun _ h9 => h9) rfl dX2_told_1 ?_
  refine lv_iload_n hx hb dX2_told_4 rfl (lv_at hl 1 rfl) ?_
  refine zc_ri (As := [.int (iI ((x : Nat) : Int))]) (rest := []) hF (c_X0_has l D cI B C n b ((x : Nat) : Int) (by omega) (zB_of (by omega) (by omega))) (cwV 1 hts gX2_told_X0_has rfl rfl rfl (by decide +kernel) ⟨Nat.le_of_ble_eq_true rfl, Nat.le_of_ble_eq_true rfl⟩) hK hP [1, 2] rfl 0 rfl 0 rfl rfl rfl rfl hl.1 rfl (Nat.le_of_ble_eq_true rfl) dX2_told_5 ⟨Nat.zero_le _, Nat.zero_le _⟩ ?_
  refine zr_ifB_eq (tgt := 21) hx hb dX2_told_8 (by decide)  (fun c1 => ?_) (fun c1 => ?_)
  · exact absurd (by omega) c1
  · refine lv_iload_n hx hb dX2_told_11 rfl (lv_at hl 2 rfl) ?_
    refine zr_if_lt (tgt := 21) hx hb dX2_told_12 (by decide) (zB_of (by omega) (by omega)) (fun c2 => ?_) (fun c2 => ?_)
    · exact absurd c2 (by omega)
    · refine lv_iload_n hx hb dX2_told_15 rfl (lv_at hl 2 rfl) ?_
      refine zr_bi (n := ((6 : Nat) : Int)) hx hb dX2_told_16 rfl ?_
      refine zr_icmp_lt (tgt := 31) hx hb dX2_told_18 (by decide) (zB_of (by omega) (by omega)) (zB_of (by omega) (by omega)) (fun c3 => ?_) (fun c3 => ?_)
      · refine lv_aload_n hx hb dX2_told_31 rfl (lv_at hl 0 rfl) ?_
        refine lv_iload_n hx hb dX2_told_32 rfl (lv_at hl 1 rfl) ?_
        refine lv_iload_n hx hb dX2_told_33 rfl (lv_at hl 2 rfl) ?_
        refine zc_ri (As := [.int (iI ((x : Nat) : Int)), .int (iI ((w : Nat) : Int))]) (rest := []) hF (c_X2_fact l D cI h B C G GB GW GR TB TG FR CH n b bo wo ro fr rc sh po (zRo n b) x w (by omega) (by assumption) (by assumption) (by assumption) (by omega) (by omega)) (cwV 2 hts gX2_told_X2_fact rfl rfl rfl (by decide +kernel) ⟨Nat.le_of_ble_eq_true rfl, Nat.le_of_ble_eq_true rfl⟩) hK hP [0, 1, 2, 3, 4, 5, 6, 7] rfl 0 rfl 0 rfl rfl rfl rfl hl.1 rfl (Nat.le_of_ble_eq_true rfl) dX2_told_34 ⟨Nat.zero_le _, Nat.zero_le _⟩ ?_
        exact zRi_ret hx hb hr hlocks dX2_told_37 (by rw [hsh]; rfl)
      · exact absurd c3 (by omega)
set_option maxHeartbeats 4000000 in
set_option maxRecDepth 100000 in
/-- X2_offer -/
theorem c_X2_offer (l : Launch) (D : va_G) (cI : ClassId) (h B C G GB GW GR TB TG FR CH n : Nat) (b bo wo ro fr : Nat → Int) (rc sh po : Int) (x y : Nat) (hn : n ≤ 6) (hb0 : ∀ k, 0 ≤ b k ∧ b k ≤ 999) (hrc : 0 ≤ rc ∧ rc ≤ 5999) (hset : zSet n b rc bo wo ro fr sh po) (hx0 : x < n) (hy0 : y < n) : zRi l yX2_offer wsX2_offer 2 43 D cI [.ref h, .int (iI ((x : Nat) : Int)), .int (iI ((y : Nat) : Int))] [(h, .inr (2, [.ref B, .ref G, .ref TB, .ref TG, .ref FR, .ref CH, .int (iI (rc)), .int (iI (sh)), .int (iI (po))])), (B, .inr (0, [.ref C, .int (iI ((n : Nat) : Int))])), (C, zArr cI 36 b), (G, .inr (1, [.ref GB, .ref GW, .ref GR])), (GB, zArr cI 64 bo), (GW, zArr cI 64 wo), (GR, zArr cI 6 ro), (FR, zArr cI 6 fr)] (iI (b (x * 6 + y))) := by
  refine zRi_of (cc := cX2_offer) (maxL := 3) (rt := .int) (by decide) rfl (Nat.le_of_ble_eq_true rfl) ?_
  intro p e s m args below meth c ls hF hr hlocks hP hK hl
  have hF : zFix p m c cX2_offer 3 s args wsX2_offer RX2 := hF
  obtain ⟨hx, hb, hml, hown, hts⟩ := id hF
  have hP : va_P D vwCl [(h, .inr (2, [.ref B, .ref G, .ref TB, .ref TG, .ref FR, .ref CH, .int (iI (rc)), .int (iI (sh)), .int (iI (po))])), (B, .inr (0, [.ref C, .int (iI ((n : Nat) : Int))])), (C, zArr cI 36 b), (G, .inr (1, [.ref GB, .ref GW, .ref GR])), (GB, zArr cI 64 bo), (GW, zArr cI 64 wo), (GR, zArr cI 6 ro), (FR, zArr cI 6 fr)] s.heap := hP
  have hro := zSet_ro hset
  have hgn := zRo_lt (b := b) hn
  have hsh : sh = zSh0 n b rc fr := hset.2.2.1
  have hl : lv_has ls 3 [(0, .ref h), (1, .int (iI ((x : Nat) : Int))), (2, .int (iI ((y : Nat) : Int)))] := hl
  refine lv_aload_n hx hb dX2_offer_0 rfl (lv_at hl 0 rfl) ?_
  refine va_get (D := D) (ci := 2) (v := .ref B) (C := RX2) (T := TX2) (N := 9) hx hb hts (by decide +kernel) hown hK hP 0 rfl rfl 0 (by decide) (hts (.fieldLink RX2 10 "RentHarmony" "bids" "LRentHarmony$Bids;") (by decide +kernel)) (fun _ h9 => h9) rfl dX2_offer_1 ?_
  refine lv_iload_n hx hb dX2_offer_4 rfl (lv_at hl 1 rfl) ?_
  refine zc_ri (As := [.int (iI ((x : Nat) : Int))]) (rest := []) hF (c_X0_has l D cI B C n b ((x : Nat) : Int) (by omega) (zB_of (by omega) (by omega))) (cwV 1 hts gX2_offer_X0_has rfl rfl rfl (by decide +kernel) ⟨Nat.le_of_ble_eq_true rfl, Nat.le_of_ble_eq_true rfl⟩) hK hP [1, 2] rfl 0 rfl 0 rfl rfl rfl rfl hl.1 rfl (Nat.le_of_ble_eq_true rfl) dX2_offer_5 ⟨Nat.zero_le _, Nat.zero_le _⟩ ?_
  refine zr_ifB_eq (tgt := 22) hx hb dX2_offer_8 (by decide)  (fun c1 => ?_) (fun c1 => ?_)
  · exact absurd (by omega) c1
  · refine lv_aload_n hx hb dX2_offer_11 rfl (lv_at hl 0 rfl) ?_
    refine va_get (D := D) (ci := 2) (v := .ref B) (C := RX2) (T := TX2) (N := 9) hx hb hts (by decide +kernel) hown hK hP 0 rfl rfl 0 (by decide) (hts (.fieldLink RX2 10 "RentHarmony" "bids" "LRentHarmony$Bids;") (by decide +kernel)) (fun _ h9 => h9) rfl dX2_offer_12 ?_
    refine lv_iload_n hx hb dX2_offer_15 rfl (lv_at hl 2 rfl) ?_
    refine zc_ri (As := [.int (iI ((y : Nat) : Int))]) (rest := []) hF (c_X0_has l D cI B C n b ((y : Nat) : Int) (by omega) (zB_of (by omega) (by omega))) (cwV 1 hts gX2_offer_X0_has rfl rfl rfl (by decide +kernel) ⟨Nat.le_of_ble_eq_true rfl, Nat.le_of_ble_eq_true rfl⟩) hK hP [1, 2] rfl 0 rfl 0 rfl rfl rfl rfl hl.1 rfl (Nat.le_of_ble_eq_true rfl) dX2_offer_16 ⟨Nat.zero_le _, Nat.zero_le _⟩ ?_
    refine zr_ifB_ne (tgt := 32) hx hb dX2_offer_19 (by decide)  (fun c2 => ?_) (fun c2 => ?_)
    · refine lv_aload_n hx hb dX2_offer_32 rfl (lv_at hl 0 rfl) ?_
      refine va_get (D := D) (ci := 2) (v := .ref B) (C := RX2) (T := TX2) (N := 9) hx hb hts (by decide +kernel) hown hK hP 0 rfl rfl 0 (by decide) (hts (.fieldLink RX2 10 "RentHarmony" "bids" "LRentHarmony$Bids;") (by decide +kernel)) (fun _ h9 => h9) rfl dX2_offer_33 ?_
      refine lv_iload_n hx hb dX2_offer_36 rfl (lv_at hl 1 rfl) ?_
      refine lv_iload_n hx hb dX2_offer_37 rfl (lv_at hl 2 rfl) ?_
      refine zc_ri (As := [.int (iI ((x : Nat) : Int)), .int (iI ((y : Nat) : Int))]) (rest := []) hF (c_X0_of l D cI B C n b x y (by omega) (by omega) (by omega)) (cwV 2 hts gX2_offer_X0_of rfl rfl rfl (by decide +kernel) ⟨Nat.le_of_ble_eq_true rfl, Nat.le_of_ble_eq_true rfl⟩) hK hP [1, 2] rfl 0 rfl 0 rfl rfl rfl rfl hl.1 rfl (Nat.le_of_ble_eq_true rfl) dX2_offer_38 ⟨Nat.zero_le _, Nat.zero_le _⟩ ?_
      exact zRi_ret hx hb hr hlocks dX2_offer_41 rfl
    · exact absurd (by omega) c2
set_option maxHeartbeats 4000000 in
set_option maxRecDepth 100000 in
/-- X2_count -/
theorem c_X2_count (l : Launch) (D : va_G) (cI : ClassId) (h B C G GB GW GR TB TG FR CH n : Nat) (b bo wo ro fr : Nat → Int) (rc sh po : Int) (w : Nat) (hn : n ≤ 6) (hb0 : ∀ k, 0 ≤ b k ∧ b k ≤ 999) (hrc : 0 ≤ rc ∧ rc ≤ 5999) (hset : zSet n b rc bo wo ro fr sh po) (hw : w < 7) : zRi l yX2_count wsX2_count 6 128 D cI [.ref h, .int (iI ((w : Nat) : Int))] [(h, .inr (2, [.ref B, .ref G, .ref TB, .ref TG, .ref FR, .ref CH, .int (iI (rc)), .int (iI (sh)), .int (iI (po))])), (B, .inr (0, [.ref C, .int (iI ((n : Nat) : Int))])), (C, zArr cI 36 b), (G, .inr (1, [.ref GB, .ref GW, .ref GR])), (GB, zArr cI 64 bo), (GW, zArr cI 64 wo), (GR, zArr cI 6 ro), (FR, zArr cI 6 fr)] (iI (zTo n b rc fr w)) := by
  refine zRi_of (cc := cX2_count) (maxL := 2) (rt := .int) (by decide) rfl (Nat.le_of_ble_eq_true rfl) ?_
  intro p e s m args below meth c ls hF hr hlocks hP hK hl
  have hF : zFix p m c cX2_count 2 s args wsX2_count RX2 := hF
  obtain ⟨hx, hb, hml, hown, hts⟩ := id hF
  have hP : va_P D vwCl [(h, .inr (2, [.ref B, .ref G, .ref TB, .ref TG, .ref FR, .ref CH, .int (iI (rc)), .int (iI (sh)), .int (iI (po))])), (B, .inr (0, [.ref C, .int (iI ((n : Nat) : Int))])), (C, zArr cI 36 b), (G, .inr (1, [.ref GB, .ref GW, .ref GR])), (GB, zArr cI 64 bo), (GW, zArr cI 64 wo), (GR, zArr cI 6 ro), (FR, zArr cI 6 fr)] s.heap := hP
  have hro := zSet_ro hset
  have hgn := zRo_lt (b := b) hn
  have hsh : sh = zSh0 n b rc fr := hset.2.2.1
  have hl : lv_has ls 2 [(0, .ref h), (1, .int (iI ((w : Nat) : Int)))] := hl
  refine lv_iload_n hx hb dX2_count_0 rfl (lv_at hl 1 rfl) ?_
  refine zr_if_lt (tgt := 10) hx hb dX2_count_1 (by decide) (zB_of (by omega) (by omega)) (fun c1 => ?_) (fun c1 => ?_)
  · exact absurd c1 (by omega)
  · refine lv_iload_n hx hb dX2_count_4 rfl (lv_at hl 1 rfl) ?_
    refine zr_bi (n := ((7 : Nat) : Int)) hx hb dX2_count_5 rfl ?_
    refine zr_icmp_lt (tgt := 20) hx hb dX2_count_7 (by decide) (zB_of (by omega) (by omega)) (zB_of (by omega) (by omega)) (fun c2 => ?_) (fun c2 => ?_)
    · refine lv_aload_n hx hb dX2_count_20 rfl (lv_at hl 0 rfl) ?_
      refine lv_iload_n hx hb dX2_count_21 rfl (lv_at hl 1 rfl) ?_
      refine zc_ri (As := [.int (iI ((w : Nat) : Int))]) (rest := []) hF (c_X2_total l D cI h B C G GB GW GR TB TG FR CH n b bo wo ro fr rc sh po (zRo n b) w (by omega) (by assumption) (by assumption) (by assumption) (by omega)) (cwV 1 hts gX2_count_X2_total rfl rfl rfl (by decide +kernel) ⟨Nat.le_of_ble_eq_true rfl, Nat.le_of_ble_eq_true rfl⟩) hK hP [0, 1, 2, 3, 4, 5, 6, 7] rfl 0 rfl 0 rfl rfl rfl rfl hl.1 rfl (Nat.le_of_ble_eq_true rfl) dX2_count_22 ⟨Nat.zero_le _, Nat.zero_le _⟩ ?_
      exact zRi_ret hx hb hr hlocks dX2_count_25 (by rw [hsh, show bo 0 = zWo n b from hset.1.1, show wo 0 = zWy n b from hset.1.2.1, show po = zPo0 n b rc fr from hset.2.2.2]; rfl)
    · exact absurd c2 (by omega)
set_option maxHeartbeats 4000000 in
set_option maxRecDepth 100000 in
/-- X2_envies -/
theorem c_X2_envies (l : Launch) (D : va_G) (cI : ClassId) (h B C G GB GW GR TB TG FR CH n : Nat) (b bo wo ro fr : Nat → Int) (rc sh po : Int) (x y : Nat) (hn : n ≤ 6) (hb0 : ∀ k, 0 ≤ b k ∧ b k ≤ 999) (hrc : 0 ≤ rc ∧ rc ≤ 5999) (hset : zSet n b rc bo wo ro fr sh po) (hx0 : x < n) (hy0 : y < n) : zRi l yX2_envies wsX2_envies 4 86 D cI [.ref h, .int (iI ((x : Nat) : Int)), .int (iI ((y : Nat) : Int))] [(h, .inr (2, [.ref B, .ref G, .ref TB, .ref TG, .ref FR, .ref CH, .int (iI (rc)), .int (iI (sh)), .int (iI (po))])), (B, .inr (0, [.ref C, .int (iI ((n : Nat) : Int))])), (C, zArr cI 36 b), (G, .inr (1, [.ref GB, .ref GW, .ref GR])), (GB, zArr cI 64 bo), (GW, zArr cI 64 wo), (GR, zArr cI 6 ro), (FR, zArr cI 6 fr)] (iI (bZ (zEn b (zRo n b) x y))) := by
  refine zRi_of (cc := cX2_envies) (maxL := 3) (rt := .boolean) (by decide) rfl (Nat.le_of_ble_eq_true rfl) ?_
  intro p e s m args below meth c ls hF hr hlocks hP hK hl
  have hF : zFix p m c cX2_envies 3 s args wsX2_envies RX2 := hF
  obtain ⟨hx, hb, hml, hown, hts⟩ := id hF
  have hP : va_P D vwCl [(h, .inr (2, [.ref B, .ref G, .ref TB, .ref TG, .ref FR, .ref CH, .int (iI (rc)), .int (iI (sh)), .int (iI (po))])), (B, .inr (0, [.ref C, .int (iI ((n : Nat) : Int))])), (C, zArr cI 36 b), (G, .inr (1, [.ref GB, .ref GW, .ref GR])), (GB, zArr cI 64 bo), (GW, zArr cI 64 wo), (GR, zArr cI 6 ro), (FR, zArr cI 6 fr)] s.heap := hP
  have hro := zSet_ro hset
  have hgn := zRo_lt (b := b) hn
  have hsh : sh = zSh0 n b rc fr := hset.2.2.1
  have hl : lv_has ls 3 [(0, .ref h), (1, .int (iI ((x : Nat) : Int))), (2, .int (iI ((y : Nat) : Int)))] := hl
  refine lv_aload_n hx hb dX2_envies_0 rfl (lv_at hl 0 rfl) ?_
  refine va_get (D := D) (ci := 2) (v := .ref B) (C := RX2) (T := TX2) (N := 9) hx hb hts (by decide +kernel) hown hK hP 0 rfl rfl 0 (by decide) (hts (.fieldLink RX2 10 "RentHarmony" "bids" "LRentHarmony$Bids;") (by decide +kernel)) (fun _ h9 => h9) rfl dX2_envies_1 ?_
  refine lv_iload_n hx hb dX2_envies_4 rfl (lv_at hl 1 rfl) ?_
  refine zc_ri (As := [.int (iI ((x : Nat) : Int))]) (rest := []) hF (c_X0_has l D cI B C n b ((x : Nat) : Int) (by omega) (zB_of (by omega) (by omega))) (cwV 1 hts gX2_envies_X0_has rfl rfl rfl (by decide +kernel) ⟨Nat.le_of_ble_eq_true rfl, Nat.le_of_ble_eq_true rfl⟩) hK hP [1, 2] rfl 0 rfl 0 rfl rfl rfl rfl hl.1 rfl (Nat.le_of_ble_eq_true rfl) dX2_envies_5 ⟨Nat.zero_le _, Nat.zero_le _⟩ ?_
  refine zr_ifB_eq (tgt := 22) hx hb dX2_envies_8 (by decide)  (fun c1 => ?_) (fun c1 => ?_)
  · exact absurd (by omega) c1
  · refine lv_aload_n hx hb dX2_envies_11 rfl (lv_at hl 0 rfl) ?_
    refine va_get (D := D) (ci := 2) (v := .ref B) (C := RX2) (T := TX2) (N := 9) hx hb hts (by decide +kernel) hown hK hP 0 rfl rfl 0 (by decide) (hts (.fieldLink RX2 10 "RentHarmony" "bids" "LRentHarmony$Bids;") (by decide +kernel)) (fun _ h9 => h9) rfl dX2_envies_12 ?_
    refine lv_iload_n hx hb dX2_envies_15 rfl (lv_at hl 2 rfl) ?_
    refine zc_ri (As := [.int (iI ((y : Nat) : Int))]) (rest := []) hF (c_X0_has l D cI B C n b ((y : Nat) : Int) (by omega) (zB_of (by omega) (by omega))) (cwV 1 hts gX2_envies_X0_has rfl rfl rfl (by decide +kernel) ⟨Nat.le_of_ble_eq_true rfl, Nat.le_of_ble_eq_true rfl⟩) hK hP [1, 2] rfl 0 rfl 0 rfl rfl rfl rfl hl.1 rfl (Nat.le_of_ble_eq_true rfl) dX2_envies_16 ⟨Nat.zero_le _, Nat.zero_le _⟩ ?_
    refine zr_ifB_ne (tgt := 32) hx hb dX2_envies_19 (by decide)  (fun c2 => ?_) (fun c2 => ?_)
    · refine lv_aload_n hx hb dX2_envies_32 rfl (lv_at hl 0 rfl) ?_
      refine lv_iload_n hx hb dX2_envies_33 rfl (lv_at hl 1 rfl) ?_
      refine lv_iload_n hx hb dX2_envies_34 rfl (lv_at hl 2 rfl) ?_
      refine zc_ri (As := [.int (iI ((x : Nat) : Int)), .int (iI ((y : Nat) : Int))]) (rest := []) hF (c_X2_wouldEnvy l D cI h B C G GB GW GR TB TG FR CH n b bo wo ro fr rc sh po (zRo n b) x y (by omega) (by assumption) (by assumption) (by assumption) (by omega) (by omega)) (cwV 2 hts gX2_envies_X2_wouldEnvy rfl rfl rfl (by decide +kernel) ⟨Nat.le_of_ble_eq_true rfl, Nat.le_of_ble_eq_true rfl⟩) hK hP [0, 1, 2, 3, 4, 5, 6, 7] rfl 0 rfl 0 rfl rfl rfl rfl hl.1 rfl (Nat.le_of_ble_eq_true rfl) dX2_envies_35 ⟨Nat.zero_le _, Nat.zero_le _⟩ ?_
      exact zRi_retz hx hb hr (bZ_nar _) hlocks dX2_envies_38 rfl
    · exact absurd (by omega) c2
set_option maxHeartbeats 4000000 in
set_option maxRecDepth 100000 in
/-- X2_gap -/
theorem c_X2_gap (l : Launch) (D : va_G) (cI : ClassId) (h B C G GB GW GR TB TG FR CH n : Nat) (b bo wo ro fr : Nat → Int) (rc sh po : Int) (x y : Nat) (hn : n ≤ 6) (hb0 : ∀ k, 0 ≤ b k ∧ b k ≤ 999) (hrc : 0 ≤ rc ∧ rc ≤ 5999) (hset : zSet n b rc bo wo ro fr sh po) (hx0 : x < n) (hy0 : y < n) : zRi l yX2_gap wsX2_gap 4 85 D cI [.ref h, .int (iI ((x : Nat) : Int)), .int (iI ((y : Nat) : Int))] [(h, .inr (2, [.ref B, .ref G, .ref TB, .ref TG, .ref FR, .ref CH, .int (iI (rc)), .int (iI (sh)), .int (iI (po))])), (B, .inr (0, [.ref C, .int (iI ((n : Nat) : Int))])), (C, zArr cI 36 b), (G, .inr (1, [.ref GB, .ref GW, .ref GR])), (GB, zArr cI 64 bo), (GW, zArr cI 64 wo), (GR, zArr cI 6 ro), (FR, zArr cI 6 fr)] (iI (zGap n b rc fr x y)) := by
  refine zRi_of (cc := cX2_gap) (maxL := 3) (rt := .int) (by decide) rfl (Nat.le_of_ble_eq_true rfl) ?_
  intro p e s m args below meth c ls hF hr hlocks hP hK hl
  have hF : zFix p m c cX2_gap 3 s args wsX2_gap RX2 := hF
  obtain ⟨hx, hb, hml, hown, hts⟩ := id hF
  have hP : va_P D vwCl [(h, .inr (2, [.ref B, .ref G, .ref TB, .ref TG, .ref FR, .ref CH, .int (iI (rc)), .int (iI (sh)), .int (iI (po))])), (B, .inr (0, [.ref C, .int (iI ((n : Nat) : Int))])), (C, zArr cI 36 b), (G, .inr (1, [.ref GB, .ref GW, .ref GR])), (GB, zArr cI 64 bo), (GW, zArr cI 64 wo), (GR, zArr cI 6 ro), (FR, zArr cI 6 fr)] s.heap := hP
  have hro := zSet_ro hset
  have hgn := zRo_lt (b := b) hn
  have hsh : sh = zSh0 n b rc fr := hset.2.2.1
  have hl : lv_has ls 3 [(0, .ref h), (1, .int (iI ((x : Nat) : Int))), (2, .int (iI ((y : Nat) : Int)))] := hl
  refine lv_aload_n hx hb dX2_gap_0 rfl (lv_at hl 0 rfl) ?_
  refine va_get (D := D) (ci := 2) (v := .ref B) (C := RX2) (T := TX2) (N := 9) hx hb hts (by decide +kernel) hown hK hP 0 rfl rfl 0 (by decide) (hts (.fieldLink RX2 10 "RentHarmony" "bids" "LRentHarmony$Bids;") (by decide +kernel)) (fun _ h9 => h9) rfl dX2_gap_1 ?_
  refine lv_iload_n hx hb dX2_gap_4 rfl (lv_at hl 1 rfl) ?_
  refine zc_ri (As := [.int (iI ((x : Nat) : Int))]) (rest := []) hF (c_X0_has l D cI B C n b ((x : Nat) : Int) (by omega) (zB_of (by omega) (by omega))) (cwV 1 hts gX2_gap_X0_has rfl rfl rfl (by decide +kernel) ⟨Nat.le_of_ble_eq_true rfl, Nat.le_of_ble_eq_true rfl⟩) hK hP [1, 2] rfl 0 rfl 0 rfl rfl rfl rfl hl.1 rfl (Nat.le_of_ble_eq_true rfl) dX2_gap_5 ⟨Nat.zero_le _, Nat.zero_le _⟩ ?_
  refine zr_ifB_eq (tgt := 22) hx hb dX2_gap_8 (by decide)  (fun c1 => ?_) (fun c1 => ?_)
  · exact absurd (by omega) c1
  · refine lv_aload_n hx hb dX2_gap_11 rfl (lv_at hl 0 rfl) ?_
    refine va_get (D := D) (ci := 2) (v := .ref B) (C := RX2) (T := TX2) (N := 9) hx hb hts (by decide +kernel) hown hK hP 0 rfl rfl 0 (by decide) (hts (.fieldLink RX2 10 "RentHarmony" "bids" "LRentHarmony$Bids;") (by decide +kernel)) (fun _ h9 => h9) rfl dX2_gap_12 ?_
    refine lv_iload_n hx hb dX2_gap_15 rfl (lv_at hl 2 rfl) ?_
    refine zc_ri (As := [.int (iI ((y : Nat) : Int))]) (rest := []) hF (c_X0_has l D cI B C n b ((y : Nat) : Int) (by omega) (zB_of (by omega) (by omega))) (cwV 1 hts gX2_gap_X0_has rfl rfl rfl (by decide +kernel) ⟨Nat.le_of_ble_eq_true rfl, Nat.le_of_ble_eq_true rfl⟩) hK hP [1, 2] rfl 0 rfl 0 rfl rfl rfl rfl hl.1 rfl (Nat.le_of_ble_eq_true rfl) dX2_gap_16 ⟨Nat.zero_le _, Nat.zero_le _⟩ ?_
    refine zr_ifB_ne (tgt := 32) hx hb dX2_gap_19 (by decide)  (fun c2 => ?_) (fun c2 => ?_)
    · refine lv_aload_n hx hb dX2_gap_32 rfl (lv_at hl 0 rfl) ?_
      refine lv_iload_n hx hb dX2_gap_33 rfl (lv_at hl 1 rfl) ?_
      refine zc_ri (As := [.int (iI ((x : Nat) : Int))]) (rest := []) hF (c_X2_rebateOf l D cI h B C G GB GW GR TB TG FR CH n b bo wo ro fr rc sh po (zRo n b) x (by omega) (by assumption) (by assumption) (by assumption) (by omega)) (cwV 1 hts gX2_gap_X2_rebateOf rfl rfl rfl (by decide +kernel) ⟨Nat.le_of_ble_eq_true rfl, Nat.le_of_ble_eq_true rfl⟩) hK hP [0, 1, 2, 3, 4, 5, 6, 7] rfl 0 rfl 0 rfl rfl rfl rfl hl.1 rfl (Nat.le_of_ble_eq_true rfl) dX2_gap_34 ⟨Nat.zero_le _, Nat.zero_le _⟩ ?_
      refine lv_aload_n hx hb dX2_gap_37 rfl (lv_at hl 0 rfl) ?_
      refine va_get (D := D) (ci := 2) (v := .ref B) (C := RX2) (T := TX2) (N := 9) hx hb hts (by decide +kernel) hown hK hP 0 rfl rfl 0 (by decide) (hts (.fieldLink RX2 10 "RentHarmony" "bids" "LRentHarmony$Bids;") (by decide +kernel)) (fun _ h9 => h9) rfl dX2_gap_38 ?_
      refine lv_iload_n hx hb dX2_gap_41 rfl (lv_at hl 1 rfl) ?_
      refine lv_aload_n hx hb dX2_gap_42 rfl (lv_at hl 0 rfl) ?_
      refine va_get (D := D) (ci := 2) (v := .ref G) (C := RX2) (T := TX2) (N := 9) hx hb hts (by decide +kernel) hown hK hP 0 rfl rfl 1 (by decide) (hts (.fieldLink RX2 19 "RentHarmony" "giving" "LRentHarmony$Giving;") (by decide +kernel)) (fun _ h9 => h9) rfl dX2_gap_43 ?_
      refine lv_iload_n hx hb dX2_gap_46 rfl (lv_at hl 2 rfl) ?_
      refine zc_ri (As := [.int (iI ((y : Nat) : Int))]) (rest := [.int (iI ((x : Nat) : Int)), .ref B, .int (iI (fr x + sh))]) hF (c_X1_roomOfN l D cI G GB GW GR bo wo ro (zRo n b) y (by omega) (hro _ (by omega))) (cwV 1 hts gX2_gap_X1_roomOf rfl rfl rfl (by decide +kernel) ⟨Nat.le_of_ble_eq_true rfl, Nat.le_of_ble_eq_true rfl⟩) hK hP [3, 4, 5, 6] rfl 0 rfl 0 rfl rfl rfl rfl hl.1 rfl (Nat.le_of_ble_eq_true rfl) dX2_gap_47 ⟨Nat.zero_le _, Nat.zero_le _⟩ ?_
      have hf3 := hgn y (by omega)
      refine zc_ri (As := [.int (iI ((x : Nat) : Int)), .int (iI (((zRo n b) y : Nat) : Int))]) (rest := [.int (iI (fr x + sh))]) hF (c_X0_of l D cI B C n b x ((zRo n b) y) (by omega) (by omega) (by omega)) (cwV 2 hts gX2_gap_X0_of rfl rfl rfl (by decide +kernel) ⟨Nat.le_of_ble_eq_true rfl, Nat.le_of_ble_eq_true rfl⟩) hK hP [1, 2] rfl 0 rfl 0 rfl rfl rfl rfl hl.1 rfl (Nat.le_of_ble_eq_true rfl) dX2_gap_50 ⟨Nat.zero_le _, Nat.zero_le _⟩ ?_
      refine lv_aload_n hx hb dX2_gap_53 rfl (lv_at hl 0 rfl) ?_
      refine lv_iload_n hx hb dX2_gap_54 rfl (lv_at hl 2 rfl) ?_
      refine zc_ri (As := [.int (iI ((y : Nat) : Int))]) (rest := [.int (iI (b (x * 6 + ((zRo n b) y)))), .int (iI (fr x + sh))]) hF (c_X2_payOf l D cI h B C G GB GW GR TB TG FR CH n b bo wo ro fr rc sh po (zRo n b) y (by omega) (by assumption) (by assumption) (by assumption) (by omega)) (cwV 1 hts gX2_gap_X2_payOf rfl rfl rfl (by decide +kernel) ⟨Nat.le_of_ble_eq_true rfl, Nat.le_of_ble_eq_true rfl⟩) hK hP [0, 1, 2, 3, 4, 5, 6, 7] rfl 0 rfl 0 rfl rfl rfl rfl hl.1 rfl (Nat.le_of_ble_eq_true rfl) dX2_gap_55 ⟨Nat.zero_le _, Nat.zero_le _⟩ ?_
      refine zr_sub hx hb dX2_gap_58 ?_
      refine zr_sub hx hb dX2_gap_59 ?_
      exact zRi_ret hx hb hr hlocks dX2_gap_60 (by rw [hsh]; rfl)
    · exact absurd (by omega) c2
set_option maxHeartbeats 4000000 in
set_option maxRecDepth 100000 in
/-- X2_come -/
theorem c_X2_come (l : Launch) (D : va_G) (cI : ClassId) (h B C G GB GW GR TB TG FR CH n : Nat) (b bo wo ro fr : Nat → Int) (rc sh po : Int)  (hn : n ≤ 6) (hb0 : ∀ k, 0 ≤ b k ∧ b k ≤ 999) (hrc : 0 ≤ rc ∧ rc ≤ 5999) (hset : zSet n b rc bo wo ro fr sh po) (hf : n < 6) : zWi (S := (Nat → Int) × (Nat → Int) × (Nat → Int) × (Nat → Int) × Int × Int) l yX2_come wsX2_come 6 131 D cI [.ref h] [(h, .inr (2, [.ref B, .ref G, .ref TB, .ref TG, .ref FR, .ref CH, .int (iI (rc)), .int (iI (sh)), .int (iI (po))])), (B, .inr (0, [.ref C, .int (iI ((n : Nat) : Int))])), (C, zArr cI 36 b), (G, .inr (1, [.ref GB, .ref GW, .ref GR])), (GB, zArr cI 64 bo), (GW, zArr cI 64 wo), (GR, zArr cI 6 ro), (FR, zArr cI 6 fr)] (fun r u8 => r = iI ((n : Nat) : Int) ∧ zSet (n + 1) (zGr b n (n + 1)) rc u8.1 u8.2.1 u8.2.2.1 u8.2.2.2.1 u8.2.2.2.2.1 u8.2.2.2.2.2) (fun u8 => [(h, .inr (2, [.ref B, .ref G, .ref TB, .ref TG, .ref FR, .ref CH, .int (iI (rc)), .int (iI (u8.2.2.2.2.1)), .int (iI (u8.2.2.2.2.2))])), (B, .inr (0, [.ref C, .int (iI ((n + 1 : Nat) : Int))])), (C, zArr cI 36 (zGr b n (n + 1))), (G, .inr (1, [.ref GB, .ref GW, .ref GR])), (GB, zArr cI 64 u8.1), (GW, zArr cI 64 u8.2.1), (GR, zArr cI 6 u8.2.2.1), (FR, zArr cI 6 u8.2.2.2.1)]) := by
  refine zWi_of (cc := cX2_come) (maxL := 1) (rt := .int) (by decide) rfl (Nat.le_of_ble_eq_true rfl) ?_
  intro p e s m args below meth c ls A hF hr hlocks hP hK hD hS hl
  have hF : zFix p m c cX2_come 1 s args wsX2_come RX2 := hF
  obtain ⟨hx, hb, hml, hown, hts⟩ := id hF
  have hP : va_P D vwCl [(h, .inr (2, [.ref B, .ref G, .ref TB, .ref TG, .ref FR, .ref CH, .int (iI (rc)), .int (iI (sh)), .int (iI (po))])), (B, .inr (0, [.ref C, .int (iI ((n : Nat) : Int))])), (C, zArr cI 36 b), (G, .inr (1, [.ref GB, .ref GW, .ref GR])), (GB, zArr cI 64 bo), (GW, zArr cI 64 wo), (GR, zArr cI 6 ro), (FR, zArr cI 6 fr)] s.heap := hP
  have hD : va_D A [(h, .inr (2, [.ref B, .ref G, .ref TB, .ref TG, .ref FR, .ref CH, .int (iI (rc)), .int (iI (sh)), .int (iI (po))])), (B, .inr (0, [.ref C, .int (iI ((n : Nat) : Int))])), (C, zArr cI 36 b), (G, .inr (1, [.ref GB, .ref GW, .ref GR])), (GB, zArr cI 64 bo), (GW, zArr cI 64 wo), (GR, zArr cI 6 ro), (FR, zArr cI 6 fr)] := hD
  skip
  have hl : lv_has ls 1 [(0, .ref h)] := hl
  have hro := zSet_ro hset
  have hgn := zRo_lt (b := b) hn
  have hsh : sh = zSh0 n b rc fr := hset.2.2.1
  refine lv_aload_n hx hb dX2_come_0 rfl (lv_at hl 0 rfl) ?_
  refine va_get (D := D) (ci := 2) (v := .ref B) (C := RX2) (T := TX2) (N := 9) hx hb hts (by decide +kernel) hown hK hP 0 rfl rfl 0 (by decide) (hts (.fieldLink RX2 10 "RentHarmony" "bids" "LRentHarmony$Bids;") (by decide +kernel)) (fun _ h9 => h9) rfl dX2_come_1 ?_
  refine zc_ri (As := []) (rest := []) hF (c_X0_size l D cI B C n b ) (cwV 0 hts gX2_come_X0_size rfl rfl rfl (by decide +kernel) ⟨Nat.le_of_ble_eq_true rfl, Nat.le_of_ble_eq_true rfl⟩) hK hP [1, 2] rfl 0 rfl 0 rfl rfl rfl rfl hl.1 rfl (Nat.le_of_ble_eq_true rfl) dX2_come_4 ⟨Nat.zero_le _, Nat.zero_le _⟩ ?_
  refine zr_bi (n := ((6 : Nat) : Int)) hx hb dX2_come_7 rfl ?_
  refine zr_icmp_lt (tgt := 22) hx hb dX2_come_9 (by decide) (zB_of (by omega) (by omega)) (zB_of (by omega) (by omega)) (fun c1 => ?_) (fun c1 => ?_)
  · refine lv_aload_n hx hb dX2_come_22 rfl (lv_at hl 0 rfl) ?_
    refine va_get (D := D) (ci := 2) (v := .ref B) (C := RX2) (T := TX2) (N := 9) hx hb hts (by decide +kernel) hown hK hP 0 rfl rfl 0 (by decide) (hts (.fieldLink RX2 10 "RentHarmony" "bids" "LRentHarmony$Bids;") (by decide +kernel)) (fun _ h9 => h9) rfl dX2_come_23 ?_
    refine zc_wv (As := []) (rest := []) hF (c_X0_grow l D cI B C n b (by omega)) (cwV 0 hts gX2_come_X0_grow rfl rfl rfl (by decide +kernel) ⟨Nat.le_of_ble_eq_true rfl, Nat.le_of_ble_eq_true rfl⟩) hK hP hD hS [1, 2] rfl rfl (fun _ => rfl) 0 rfl 0 rfl rfl rfl rfl hl.1 rfl (Nat.le_of_ble_eq_true rfl) dX2_come_26 ⟨Nat.zero_le _, Nat.zero_le _⟩ (fun u2 H locs hw hP hD hS => ?_)
    have hP : va_P D vwCl [(h, .inr (2, [.ref B, .ref G, .ref TB, .ref TG, .ref FR, .ref CH, .int (iI (rc)), .int (iI (sh)), .int (iI (po))])), (B, .inr (0, [.ref C, .int (iI ((n + 1 : Nat) : Int))])), (C, zArr cI 36 (zGr b n (n + 1))), (G, .inr (1, [.ref GB, .ref GW, .ref GR])), (GB, zArr cI 64 bo), (GW, zArr cI 64 wo), (GR, zArr cI 6 ro), (FR, zArr cI 6 fr)] H := hP
    have hD : va_D A [(h, .inr (2, [.ref B, .ref G, .ref TB, .ref TG, .ref FR, .ref CH, .int (iI (rc)), .int (iI (sh)), .int (iI (po))])), (B, .inr (0, [.ref C, .int (iI ((n + 1 : Nat) : Int))])), (C, zArr cI 36 (zGr b n (n + 1))), (G, .inr (1, [.ref GB, .ref GW, .ref GR])), (GB, zArr cI 64 bo), (GW, zArr cI 64 wo), (GR, zArr cI 6 ro), (FR, zArr cI 6 fr)] := hD
    have hb1 : ∀ k, 0 ≤ (zGr b n (n + 1)) k ∧ (zGr b n (n + 1)) k ≤ 999 := zGr_b hb0 n (n + 1)
    refine lv_aload_n hx hb dX2_come_29 rfl (lv_at hl 0 rfl) ?_
    refine zc_wv (As := []) (rest := []) hF (c_X2_settleAll l D cI h B C G GB GW GR TB TG FR CH (n + 1) (zGr b n (n + 1)) bo wo ro fr rc sh po (by omega) hb1 (by assumption)) (cwV 0 hts gX2_come_X2_settleAll rfl rfl rfl (by decide +kernel) ⟨Nat.le_of_ble_eq_true rfl, Nat.le_of_ble_eq_true rfl⟩) hK hP hD hS [0, 1, 2, 3, 4, 5, 6, 7] rfl rfl (fun _ => rfl) 0 rfl 0 rfl rfl rfl rfl hl.1 rfl (Nat.le_of_ble_eq_true rfl) dX2_come_30 ⟨Nat.zero_le _, Nat.zero_le _⟩ (fun u4 H locs hw hP hD hS => ?_)
    obtain ⟨bo6, wo6, ro6, fr6, sh6, po6⟩ := u4
    have hset6 : zSet (n + 1) (zGr b n (n + 1)) rc bo6 wo6 ro6 fr6 sh6 po6 := hw
    have hP : va_P D vwCl [(h, .inr (2, [.ref B, .ref G, .ref TB, .ref TG, .ref FR, .ref CH, .int (iI (rc)), .int (iI (sh6)), .int (iI (po6))])), (B, .inr (0, [.ref C, .int (iI ((n + 1 : Nat) : Int))])), (C, zArr cI 36 (zGr b n (n + 1))), (G, .inr (1, [.ref GB, .ref GW, .ref GR])), (GB, zArr cI 64 bo6), (GW, zArr cI 64 wo6), (GR, zArr cI 6 ro6), (FR, zArr cI 6 fr6)] H := hP
    have hD : va_D A [(h, .inr (2, [.ref B, .ref G, .ref TB, .ref TG, .ref FR, .ref CH, .int (iI (rc)), .int (iI (sh6)), .int (iI (po6))])), (B, .inr (0, [.ref C, .int (iI ((n + 1 : Nat) : Int))])), (C, zArr cI 36 (zGr b n (n + 1))), (G, .inr (1, [.ref GB, .ref GW, .ref GR])), (GB, zArr cI 64 bo6), (GW, zArr cI 64 wo6), (GR, zArr cI 6 ro6), (FR, zArr cI 6 fr6)] := hD
    refine lv_aload_n hx hb dX2_come_33 rfl (lv_at hl 0 rfl) ?_
    refine va_get (D := D) (ci := 2) (v := .ref B) (C := RX2) (T := TX2) (N := 9) hx hb hts (by decide +kernel) hown hK hP 0 rfl rfl 0 (by decide) (hts (.fieldLink RX2 10 "RentHarmony" "bids" "LRentHarmony$Bids;") (by decide +kernel)) (fun _ h9 => h9) rfl dX2_come_34 ?_
    refine zc_ri (As := []) (rest := []) hF (c_X0_size l D cI B C (n + 1) (zGr b n (n + 1)) ) (cwV 0 hts gX2_come_X0_size rfl rfl rfl (by decide +kernel) ⟨Nat.le_of_ble_eq_true rfl, Nat.le_of_ble_eq_true rfl⟩) hK hP [1, 2] rfl 0 rfl 0 rfl rfl rfl rfl hl.1 rfl (Nat.le_of_ble_eq_true rfl) dX2_come_37 ⟨Nat.zero_le _, Nat.zero_le _⟩ ?_
    refine zr_ic (n := ((1 : Nat) : Int)) hx hb dX2_come_40 ?_
    refine zr_sub hx hb dX2_come_41 ?_
    refine zr_topi (show ((((n + 1) : Nat) : Int) - ((1 : Nat) : Int)) = ((n : Nat) : Int) from (by omega)) ?_
    exact zWi_ret hx hb hr hlocks hS dX2_come_42 (bo6, wo6, ro6, fr6, sh6, po6) ⟨rfl, hset6⟩ hP
  · exact absurd c1 (by omega)
set_option maxHeartbeats 4000000 in
set_option maxRecDepth 100000 in
/-- X2_bid -/
theorem c_X2_bid (l : Launch) (D : va_G) (cI : ClassId) (h B C G GB GW GR TB TG FR CH n : Nat) (b bo wo ro fr : Nat → Int) (rc sh po : Int) (x y : Nat) (v : Int) (hn : n ≤ 6) (hb0 : ∀ k, 0 ≤ b k ∧ b k ≤ 999) (hrc : 0 ≤ rc ∧ rc ≤ 5999) (hset : zSet n b rc bo wo ro fr sh po) (hx0 : x < n) (hy0 : y < n) (hv : 0 ≤ v ∧ v ≤ 999) : zWi (S := (Nat → Int) × (Nat → Int) × (Nat → Int) × (Nat → Int) × Int × Int) l yX2_bid wsX2_bid 6 131 D cI [.ref h, .int (iI ((x : Nat) : Int)), .int (iI ((y : Nat) : Int)), .int (iI (v))] [(h, .inr (2, [.ref B, .ref G, .ref TB, .ref TG, .ref FR, .ref CH, .int (iI (rc)), .int (iI (sh)), .int (iI (po))])), (B, .inr (0, [.ref C, .int (iI ((n : Nat) : Int))])), (C, zArr cI 36 b), (G, .inr (1, [.ref GB, .ref GW, .ref GR])), (GB, zArr cI 64 bo), (GW, zArr cI 64 wo), (GR, zArr cI 6 ro), (FR, zArr cI 6 fr)] (fun r u8 => r = iI (b (x * 6 + y)) ∧ zSet n (uZ b (x * 6 + y) v) rc u8.1 u8.2.1 u8.2.2.1 u8.2.2.2.1 u8.2.2.2.2.1 u8.2.2.2.2.2) (fun u8 => [(h, .inr (2, [.ref B, .ref G, .ref TB, .ref TG, .ref FR, .ref CH, .int (iI (rc)), .int (iI (u8.2.2.2.2.1)), .int (iI (u8.2.2.2.2.2))])), (B, .inr (0, [.ref C, .int (iI ((n : Nat) : Int))])), (C, zArr cI 36 (uZ b (x * 6 + y) v)), (G, .inr (1, [.ref GB, .ref GW, .ref GR])), (GB, zArr cI 64 u8.1), (GW, zArr cI 64 u8.2.1), (GR, zArr cI 6 u8.2.2.1), (FR, zArr cI 6 u8.2.2.2.1)]) := by
  refine zWi_of (cc := cX2_bid) (maxL := 5) (rt := .int) (by decide) rfl (Nat.le_of_ble_eq_true rfl) ?_
  intro p e s m args below meth c ls A hF hr hlocks hP hK hD hS hl
  have hF : zFix p m c cX2_bid 5 s args wsX2_bid RX2 := hF
  obtain ⟨hx, hb, hml, hown, hts⟩ := id hF
  have hP : va_P D vwCl [(h, .inr (2, [.ref B, .ref G, .ref TB, .ref TG, .ref FR, .ref CH, .int (iI (rc)), .int (iI (sh)), .int (iI (po))])), (B, .inr (0, [.ref C, .int (iI ((n : Nat) : Int))])), (C, zArr cI 36 b), (G, .inr (1, [.ref GB, .ref GW, .ref GR])), (GB, zArr cI 64 bo), (GW, zArr cI 64 wo), (GR, zArr cI 6 ro), (FR, zArr cI 6 fr)] s.heap := hP
  have hD : va_D A [(h, .inr (2, [.ref B, .ref G, .ref TB, .ref TG, .ref FR, .ref CH, .int (iI (rc)), .int (iI (sh)), .int (iI (po))])), (B, .inr (0, [.ref C, .int (iI ((n : Nat) : Int))])), (C, zArr cI 36 b), (G, .inr (1, [.ref GB, .ref GW, .ref GR])), (GB, zArr cI 64 bo), (GW, zArr cI 64 wo), (GR, zArr cI 6 ro), (FR, zArr cI 6 fr)] := hD
  skip
  have hl : lv_has ls 5 [(0, .ref h), (1, .int (iI ((x : Nat) : Int))), (2, .int (iI ((y : Nat) : Int))), (3, .int (iI (v)))] := hl
  have hro := zSet_ro hset
  have hgn := zRo_lt (b := b) hn
  have hsh : sh = zSh0 n b rc fr := hset.2.2.1
  refine lv_aload_n hx hb dX2_bid_0 rfl (lv_at hl 0 rfl) ?_
  refine va_get (D := D) (ci := 2) (v := .ref B) (C := RX2) (T := TX2) (N := 9) hx hb hts (by decide +kernel) hown hK hP 0 rfl rfl 0 (by decide) (hts (.fieldLink RX2 10 "RentHarmony" "bids" "LRentHarmony$Bids;") (by decide +kernel)) (fun _ h9 => h9) rfl dX2_bid_1 ?_
  refine lv_iload_n hx hb dX2_bid_4 rfl (lv_at hl 1 rfl) ?_
  refine zc_ri (As := [.int (iI ((x : Nat) : Int))]) (rest := []) hF (c_X0_has l D cI B C n b ((x : Nat) : Int) (by omega) (zB_of (by omega) (by omega))) (cwV 1 hts gX2_bid_X0_has rfl rfl rfl (by decide +kernel) ⟨Nat.le_of_ble_eq_true rfl, Nat.le_of_ble_eq_true rfl⟩) hK hP [1, 2] rfl 0 rfl 0 rfl rfl rfl rfl hl.1 rfl (Nat.le_of_ble_eq_true rfl) dX2_bid_5 ⟨Nat.zero_le _, Nat.zero_le _⟩ ?_
  refine zr_ifB_eq (tgt := 22) hx hb dX2_bid_8 (by decide)  (fun c1 => ?_) (fun c1 => ?_)
  · exact absurd (by omega) c1
  · refine lv_aload_n hx hb dX2_bid_11 rfl (lv_at hl 0 rfl) ?_
    refine va_get (D := D) (ci := 2) (v := .ref B) (C := RX2) (T := TX2) (N := 9) hx hb hts (by decide +kernel) hown hK hP 0 rfl rfl 0 (by decide) (hts (.fieldLink RX2 10 "RentHarmony" "bids" "LRentHarmony$Bids;") (by decide +kernel)) (fun _ h9 => h9) rfl dX2_bid_12 ?_
    refine lv_iload_n hx hb dX2_bid_15 rfl (lv_at hl 2 rfl) ?_
    refine zc_ri (As := [.int (iI ((y : Nat) : Int))]) (rest := []) hF (c_X0_has l D cI B C n b ((y : Nat) : Int) (by omega) (zB_of (by omega) (by omega))) (cwV 1 hts gX2_bid_X0_has rfl rfl rfl (by decide +kernel) ⟨Nat.le_of_ble_eq_true rfl, Nat.le_of_ble_eq_true rfl⟩) hK hP [1, 2] rfl 0 rfl 0 rfl rfl rfl rfl hl.1 rfl (Nat.le_of_ble_eq_true rfl) dX2_bid_16 ⟨Nat.zero_le _, Nat.zero_le _⟩ ?_
    refine zr_ifB_ne (tgt := 32) hx hb dX2_bid_19 (by decide)  (fun c2 => ?_) (fun c2 => ?_)
    · refine lv_iload_n hx hb dX2_bid_32 rfl (lv_at hl 3 rfl) ?_
      refine zr_if_lt (tgt := 43) hx hb dX2_bid_33 (by decide) (zB_of (by omega) (by omega)) (fun c3 => ?_) (fun c3 => ?_)
      · exact absurd c3 (by omega)
      · refine lv_iload_n hx hb dX2_bid_36 rfl (lv_at hl 3 rfl) ?_
        refine zr_si (n := ((999 : Nat) : Int)) hx hb dX2_bid_37 rfl ?_
        refine zr_icmp_le (tgt := 53) hx hb dX2_bid_40 (by decide) (zB_of (by omega) (by omega)) (zB_of (by omega) (by omega)) (fun c4 => ?_) (fun c4 => ?_)
        · refine lv_aload_n hx hb dX2_bid_53 rfl (lv_at hl 0 rfl) ?_
          refine va_get (D := D) (ci := 2) (v := .ref B) (C := RX2) (T := TX2) (N := 9) hx hb hts (by decide +kernel) hown hK hP 0 rfl rfl 0 (by decide) (hts (.fieldLink RX2 10 "RentHarmony" "bids" "LRentHarmony$Bids;") (by decide +kernel)) (fun _ h9 => h9) rfl dX2_bid_54 ?_
          refine lv_iload_n hx hb dX2_bid_57 rfl (lv_at hl 1 rfl) ?_
          refine lv_iload_n hx hb dX2_bid_58 rfl (lv_at hl 2 rfl) ?_
          refine zc_ri (As := [.int (iI ((x : Nat) : Int)), .int (iI ((y : Nat) : Int))]) (rest := []) hF (c_X0_of l D cI B C n b x y (by omega) (by omega) (by omega)) (cwV 2 hts gX2_bid_X0_of rfl rfl rfl (by decide +kernel) ⟨Nat.le_of_ble_eq_true rfl, Nat.le_of_ble_eq_true rfl⟩) hK hP [1, 2] rfl 0 rfl 0 rfl rfl rfl rfl hl.1 rfl (Nat.le_of_ble_eq_true rfl) dX2_bid_59 ⟨Nat.zero_le _, Nat.zero_le _⟩ ?_
          refine lv_istore (lv' := [(4, .int (iI (b (x * 6 + y)))), (0, .ref h), (1, .int (iI ((x : Nat) : Int))), (2, .int (iI ((y : Nat) : Int))), (3, .int (iI (v)))]) hx hb dX2_bid_62 hl (by decide) rfl (fun ls hl => ?_)
          refine lv_aload_n hx hb dX2_bid_64 rfl (lv_at hl 1 rfl) ?_
          refine va_get (D := D) (ci := 2) (v := .ref B) (C := RX2) (T := TX2) (N := 9) hx hb hts (by decide +kernel) hown hK hP 0 rfl rfl 0 (by decide) (hts (.fieldLink RX2 10 "RentHarmony" "bids" "LRentHarmony$Bids;") (by decide +kernel)) (fun _ h9 => h9) rfl dX2_bid_65 ?_
          refine lv_iload_n hx hb dX2_bid_68 rfl (lv_at hl 2 rfl) ?_
          refine lv_iload_n hx hb dX2_bid_69 rfl (lv_at hl 3 rfl) ?_
          refine lv_iload_n hx hb dX2_bid_70 rfl (lv_at hl 4 rfl) ?_
          refine zc_wv (As := [.int (iI ((x : Nat) : Int)), .int (iI ((y : Nat) : Int)), .int (iI (v))]) (rest := []) hF (c_X0_set l D cI B C n b x y v (by omega) (by omega) (by omega)) (cwV 3 hts gX2_bid_X0_set rfl rfl rfl (by decide +kernel) ⟨Nat.le_of_ble_eq_true rfl, Nat.le_of_ble_eq_true rfl⟩) hK hP hD hS [1, 2] rfl rfl (fun _ => rfl) 0 rfl 0 rfl rfl rfl rfl hl.1 rfl (Nat.le_of_ble_eq_true rfl) dX2_bid_71 ⟨Nat.zero_le _, Nat.zero_le _⟩ (fun u5 H locs hw hP hD hS => ?_)
          have hP : va_P D vwCl [(h, .inr (2, [.ref B, .ref G, .ref TB, .ref TG, .ref FR, .ref CH, .int (iI (rc)), .int (iI (sh)), .int (iI (po))])), (B, .inr (0, [.ref C, .int (iI ((n : Nat) : Int))])), (C, zArr cI 36 (uZ b (x * 6 + y) v)), (G, .inr (1, [.ref GB, .ref GW, .ref GR])), (GB, zArr cI 64 bo), (GW, zArr cI 64 wo), (GR, zArr cI 6 ro), (FR, zArr cI 6 fr)] H := hP
          have hD : va_D A [(h, .inr (2, [.ref B, .ref G, .ref TB, .ref TG, .ref FR, .ref CH, .int (iI (rc)), .int (iI (sh)), .int (iI (po))])), (B, .inr (0, [.ref C, .int (iI ((n : Nat) : Int))])), (C, zArr cI 36 (uZ b (x * 6 + y) v)), (G, .inr (1, [.ref GB, .ref GW, .ref GR])), (GB, zArr cI 64 bo), (GW, zArr cI 64 wo), (GR, zArr cI 6 ro), (FR, zArr cI 6 fr)] := hD
          have hb1 : ∀ k, 0 ≤ (uZ b (x * 6 + y) v) k ∧ (uZ b (x * 6 + y) v) k ≤ 999 := uZ_b hb0 _ hv
          refine lv_aload_n hx hb dX2_bid_74 rfl (lv_at hl 1 rfl) ?_
          refine zc_wv (As := []) (rest := []) hF (c_X2_settleAll l D cI h B C G GB GW GR TB TG FR CH n (uZ b (x * 6 + y) v) bo wo ro fr rc sh po (by omega) hb1 (by assumption)) (cwV 0 hts gX2_bid_X2_settleAll rfl rfl rfl (by decide +kernel) ⟨Nat.le_of_ble_eq_true rfl, Nat.le_of_ble_eq_true rfl⟩) hK hP hD hS [0, 1, 2, 3, 4, 5, 6, 7] rfl rfl (fun _ => rfl) 0 rfl 0 rfl rfl rfl rfl hl.1 rfl (Nat.le_of_ble_eq_true rfl) dX2_bid_75 ⟨Nat.zero_le _, Nat.zero_le _⟩ (fun u7 H locs hw hP hD hS => ?_)
          obtain ⟨bo9, wo9, ro9, fr9, sh9, po9⟩ := u7
          have hset9 : zSet n (uZ b (x * 6 + y) v) rc bo9 wo9 ro9 fr9 sh9 po9 := hw
          have hP : va_P D vwCl [(h, .inr (2, [.ref B, .ref G, .ref TB, .ref TG, .ref FR, .ref CH, .int (iI (rc)), .int (iI (sh9)), .int (iI (po9))])), (B, .inr (0, [.ref C, .int (iI ((n : Nat) : Int))])), (C, zArr cI 36 (uZ b (x * 6 + y) v)), (G, .inr (1, [.ref GB, .ref GW, .ref GR])), (GB, zArr cI 64 bo9), (GW, zArr cI 64 wo9), (GR, zArr cI 6 ro9), (FR, zArr cI 6 fr9)] H := hP
          have hD : va_D A [(h, .inr (2, [.ref B, .ref G, .ref TB, .ref TG, .ref FR, .ref CH, .int (iI (rc)), .int (iI (sh9)), .int (iI (po9))])), (B, .inr (0, [.ref C, .int (iI ((n : Nat) : Int))])), (C, zArr cI 36 (uZ b (x * 6 + y) v)), (G, .inr (1, [.ref GB, .ref GW, .ref GR])), (GB, zArr cI 64 bo9), (GW, zArr cI 64 wo9), (GR, zArr cI 6 ro9), (FR, zArr cI 6 fr9)] := hD
          refine lv_iload hx hb dX2_bid_78 (lv_at hl 0 rfl) ?_
          exact zWi_ret hx hb hr hlocks hS dX2_bid_80 (bo9, wo9, ro9, fr9, sh9, po9) ⟨rfl, hset9⟩ hP
        · exact absurd c4 (by omega)
    · exact absurd (by omega) c2
set_option maxHeartbeats 4000000 in
set_option maxRecDepth 100000 in
/-- X2_rent -/
theorem c_X2_rent (l : Launch) (D : va_G) (cI : ClassId) (h B C G GB GW GR TB TG FR CH n : Nat) (b bo wo ro fr : Nat → Int) (rc sh po : Int) (v : Int) (hn : n ≤ 6) (hb0 : ∀ k, 0 ≤ b k ∧ b k ≤ 999) (hrc : 0 ≤ rc ∧ rc ≤ 5999) (hset : zSet n b rc bo wo ro fr sh po) (hv : 0 ≤ v ∧ v ≤ 5999) : zWi (S := Unit) l yX2_rent wsX2_rent 3 64 D cI [.ref h, .int (iI (v))] [(h, .inr (2, [.ref B, .ref G, .ref TB, .ref TG, .ref FR, .ref CH, .int (iI (rc)), .int (iI (sh)), .int (iI (po))])), (B, .inr (0, [.ref C, .int (iI ((n : Nat) : Int))])), (C, zArr cI 36 b), (G, .inr (1, [.ref GB, .ref GW, .ref GR])), (GB, zArr cI 64 bo), (GW, zArr cI 64 wo), (GR, zArr cI 6 ro), (FR, zArr cI 6 fr)] (fun r _ => r = iI rc ∧ zSet n b v bo wo ro fr (zShare n (zLeft (bo 0) v fr n)) (zPot n (zLeft (bo 0) v fr n))) (fun _ => [(h, .inr (2, [.ref B, .ref G, .ref TB, .ref TG, .ref FR, .ref CH, .int (iI (v)), .int (iI (zShare n (zLeft (bo 0) v fr n))), .int (iI (zPot n (zLeft (bo 0) v fr n)))])), (B, .inr (0, [.ref C, .int (iI ((n : Nat) : Int))])), (C, zArr cI 36 b), (G, .inr (1, [.ref GB, .ref GW, .ref GR])), (GB, zArr cI 64 bo), (GW, zArr cI 64 wo), (GR, zArr cI 6 ro), (FR, zArr cI 6 fr)]) := by
  refine zWi_of (cc := cX2_rent) (maxL := 3) (rt := .int) (by decide) rfl (Nat.le_of_ble_eq_true rfl) ?_
  intro p e s m args below meth c ls A hF hr hlocks hP hK hD hS hl
  have hF : zFix p m c cX2_rent 3 s args wsX2_rent RX2 := hF
  obtain ⟨hx, hb, hml, hown, hts⟩ := id hF
  have hP : va_P D vwCl [(h, .inr (2, [.ref B, .ref G, .ref TB, .ref TG, .ref FR, .ref CH, .int (iI (rc)), .int (iI (sh)), .int (iI (po))])), (B, .inr (0, [.ref C, .int (iI ((n : Nat) : Int))])), (C, zArr cI 36 b), (G, .inr (1, [.ref GB, .ref GW, .ref GR])), (GB, zArr cI 64 bo), (GW, zArr cI 64 wo), (GR, zArr cI 6 ro), (FR, zArr cI 6 fr)] s.heap := hP
  have hD : va_D A [(h, .inr (2, [.ref B, .ref G, .ref TB, .ref TG, .ref FR, .ref CH, .int (iI (rc)), .int (iI (sh)), .int (iI (po))])), (B, .inr (0, [.ref C, .int (iI ((n : Nat) : Int))])), (C, zArr cI 36 b), (G, .inr (1, [.ref GB, .ref GW, .ref GR])), (GB, zArr cI 64 bo), (GW, zArr cI 64 wo), (GR, zArr cI 6 ro), (FR, zArr cI 6 fr)] := hD
  skip
  have hl : lv_has ls 3 [(0, .ref h), (1, .int (iI (v)))] := hl
  have hro := zSet_ro hset
  have hgn := zRo_lt (b := b) hn
  have hsh : sh = zSh0 n b rc fr := hset.2.2.1
  have hwo : 0 ≤ bo 0 ∧ bo 0 ≤ 6000 := by rw [show bo 0 = zWo n b from hset.1.1]; exact zWo_b hn hb0
  have hfr := zU_le hn hb0 hset.2.1
  refine lv_iload_n hx hb dX2_rent_0 rfl (lv_at hl 1 rfl) ?_
  refine zr_if_lt (tgt := 11) hx hb dX2_rent_1 (by decide) (zB_of (by omega) (by omega)) (fun c1 => ?_) (fun c1 => ?_)
  · exact absurd c1 (by omega)
  · refine lv_iload_n hx hb dX2_rent_4 rfl (lv_at hl 1 rfl) ?_
    refine zr_si (n := ((5999 : Nat) : Int)) hx hb dX2_rent_5 rfl ?_
    refine zr_icmp_le (tgt := 21) hx hb dX2_rent_8 (by decide) (zB_of (by omega) (by omega)) (zB_of (by omega) (by omega)) (fun c2 => ?_) (fun c2 => ?_)
    · refine lv_aload_n hx hb dX2_rent_21 rfl (lv_at hl 0 rfl) ?_
      refine va_get (D := D) (ci := 2) (v := .int (iI (rc))) (C := RX2) (T := TX2) (N := 9) hx hb hts (by decide +kernel) hown hK hP 0 rfl rfl 6 (by decide) (hts (.fieldLink RX2 36 "RentHarmony" "rentCoins" "I") (by decide +kernel)) (fun _ h9 => h9) rfl dX2_rent_22 ?_
      refine lv_istore_n (lv' := [(2, .int (iI (rc))), (0, .ref h), (1, .int (iI (v)))]) hx hb dX2_rent_25 rfl hl (by decide) rfl (fun ls hl => ?_)
      refine lv_aload_n hx hb dX2_rent_26 rfl (lv_at hl 1 rfl) ?_
      refine lv_iload_n hx hb dX2_rent_27 rfl (lv_at hl 2 rfl) ?_
      refine va_put (D := D) (ci := 2) (v := .int (iI (v))) (ty := .int) (C := RX2) (T := TX2) (N := 9) hx hb hts (by decide +kernel) tyX2 tyX2_ok nmX2 hown hK hP hD hS 0 rfl rfl 6 (by decide) (hts (.fieldLink RX2 36 "RentHarmony" "rentCoins" "I") (by decide +kernel)) (fun _ h9 => h9) rfl (by decide +kernel) rfl rfl (Nat.le_of_ble_eq_true rfl) dX2_rent_28 (fun H locs hP hD hS => ?_)
      have hP : va_P D vwCl [(h, .inr (2, [.ref B, .ref G, .ref TB, .ref TG, .ref FR, .ref CH, .int (iI (v)), .int (iI (sh)), .int (iI (po))])), (B, .inr (0, [.ref C, .int (iI ((n : Nat) : Int))])), (C, zArr cI 36 b), (G, .inr (1, [.ref GB, .ref GW, .ref GR])), (GB, zArr cI 64 bo), (GW, zArr cI 64 wo), (GR, zArr cI 6 ro), (FR, zArr cI 6 fr)] H := hP
      have hD : va_D A [(h, .inr (2, [.ref B, .ref G, .ref TB, .ref TG, .ref FR, .ref CH, .int (iI (v)), .int (iI (sh)), .int (iI (po))])), (B, .inr (0, [.ref C, .int (iI ((n : Nat) : Int))])), (C, zArr cI 36 b), (G, .inr (1, [.ref GB, .ref GW, .ref GR])), (GB, zArr cI 64 bo), (GW, zArr cI 64 wo), (GR, zArr cI 6 ro), (FR, zArr cI 6 fr)] := hD
      refine lv_aload_n hx hb dX2_rent_31 rfl (lv_at hl 1 rfl) ?_
      refine zc_wv (As := []) (rest := []) hF (c_X2_settleLeftOver l D cI h B C G GB GW GR TB TG FR CH n b bo wo ro fr v sh po (zRo n b) (by omega) (by assumption) (by assumption) (by assumption) (by assumption) hv (by assumption)) (cwV 0 hts gX2_rent_X2_settleLeftOver rfl rfl rfl (by decide +kernel) ⟨Nat.le_of_ble_eq_true rfl, Nat.le_of_ble_eq_true rfl⟩) hK hP hD hS [0, 1, 2, 3, 4, 5, 6, 7] rfl rfl (fun _ => rfl) 0 rfl 0 rfl rfl rfl rfl hl.1 rfl (Nat.le_of_ble_eq_true rfl) dX2_rent_32 ⟨Nat.zero_le _, Nat.zero_le _⟩ (fun u3 H locs hw hP hD hS => ?_)
      have hP : va_P D vwCl [(h, .inr (2, [.ref B, .ref G, .ref TB, .ref TG, .ref FR, .ref CH, .int (iI (v)), .int (iI (zShare n (zLeft (bo 0) v fr n))), .int (iI (zPot n (zLeft (bo 0) v fr n)))])), (B, .inr (0, [.ref C, .int (iI ((n : Nat) : Int))])), (C, zArr cI 36 b), (G, .inr (1, [.ref GB, .ref GW, .ref GR])), (GB, zArr cI 64 bo), (GW, zArr cI 64 wo), (GR, zArr cI 6 ro), (FR, zArr cI 6 fr)] H := hP
      have hD : va_D A [(h, .inr (2, [.ref B, .ref G, .ref TB, .ref TG, .ref FR, .ref CH, .int (iI (v)), .int (iI (zShare n (zLeft (bo 0) v fr n))), .int (iI (zPot n (zLeft (bo 0) v fr n)))])), (B, .inr (0, [.ref C, .int (iI ((n : Nat) : Int))])), (C, zArr cI 36 b), (G, .inr (1, [.ref GB, .ref GW, .ref GR])), (GB, zArr cI 64 bo), (GW, zArr cI 64 wo), (GR, zArr cI 6 ro), (FR, zArr cI 6 fr)] := hD
      refine lv_iload_n hx hb dX2_rent_35 rfl (lv_at hl 0 rfl) ?_
      exact zWi_ret hx hb hr hlocks hS dX2_rent_36 () ⟨rfl, hset.1, hset.2.1, by rw [show bo 0 = zWo n b from hset.1.1], by rw [show bo 0 = zWo n b from hset.1.1]⟩ hP
    · exact absurd c2 (by omega)
set_option maxHeartbeats 4000000 in
set_option maxRecDepth 100000 in
/-- X2_leave -/
theorem c_X2_leave (l : Launch) (D : va_G) (cI : ClassId) (h B C G GB GW GR TB TG FR CH n : Nat) (b bo wo ro fr : Nat → Int) (rc sh po : Int) (x : Nat) (hn : n ≤ 6) (hb0 : ∀ k, 0 ≤ b k ∧ b k ≤ 999) (hrc : 0 ≤ rc ∧ rc ≤ 5999) (hset : zSet n b rc bo wo ro fr sh po) (hx0 : x < n) : zWi (S := (Nat → Int) × (Nat → Int) × (Nat → Int) × (Nat → Int) × Int × Int) l yX2_leave wsX2_leave 6 131 D cI [.ref h, .int (iI ((x : Nat) : Int))] [(h, .inr (2, [.ref B, .ref G, .ref TB, .ref TG, .ref FR, .ref CH, .int (iI (rc)), .int (iI (sh)), .int (iI (po))])), (B, .inr (0, [.ref C, .int (iI ((n : Nat) : Int))])), (C, zArr cI 36 b), (G, .inr (1, [.ref GB, .ref GW, .ref GR])), (GB, zArr cI 64 bo), (GW, zArr cI 64 wo), (GR, zArr cI 6 ro), (FR, zArr cI 6 fr)] (fun r u8 => r = iI ((zRo n b x : Nat) : Int) ∧ zSet (n - 1) (zSh x (zRo n b x) (n - 1) b (n - 1)) rc u8.1 u8.2.1 u8.2.2.1 u8.2.2.2.1 u8.2.2.2.2.1 u8.2.2.2.2.2) (fun u8 => [(h, .inr (2, [.ref B, .ref G, .ref TB, .ref TG, .ref FR, .ref CH, .int (iI (rc)), .int (iI (u8.2.2.2.2.1)), .int (iI (u8.2.2.2.2.2))])), (B, .inr (0, [.ref C, .int (iI ((n - 1 : Nat) : Int))])), (C, zArr cI 36 (zSh x (zRo n b x) (n - 1) b (n - 1))), (G, .inr (1, [.ref GB, .ref GW, .ref GR])), (GB, zArr cI 64 u8.1), (GW, zArr cI 64 u8.2.1), (GR, zArr cI 6 u8.2.2.1), (FR, zArr cI 6 u8.2.2.2.1)]) := by
  refine zWi_of (cc := cX2_leave) (maxL := 3) (rt := .int) (by decide) rfl (Nat.le_of_ble_eq_true rfl) ?_
  intro p e s m args below meth c ls A hF hr hlocks hP hK hD hS hl
  have hF : zFix p m c cX2_leave 3 s args wsX2_leave RX2 := hF
  obtain ⟨hx, hb, hml, hown, hts⟩ := id hF
  have hP : va_P D vwCl [(h, .inr (2, [.ref B, .ref G, .ref TB, .ref TG, .ref FR, .ref CH, .int (iI (rc)), .int (iI (sh)), .int (iI (po))])), (B, .inr (0, [.ref C, .int (iI ((n : Nat) : Int))])), (C, zArr cI 36 b), (G, .inr (1, [.ref GB, .ref GW, .ref GR])), (GB, zArr cI 64 bo), (GW, zArr cI 64 wo), (GR, zArr cI 6 ro), (FR, zArr cI 6 fr)] s.heap := hP
  have hD : va_D A [(h, .inr (2, [.ref B, .ref G, .ref TB, .ref TG, .ref FR, .ref CH, .int (iI (rc)), .int (iI (sh)), .int (iI (po))])), (B, .inr (0, [.ref C, .int (iI ((n : Nat) : Int))])), (C, zArr cI 36 b), (G, .inr (1, [.ref GB, .ref GW, .ref GR])), (GB, zArr cI 64 bo), (GW, zArr cI 64 wo), (GR, zArr cI 6 ro), (FR, zArr cI 6 fr)] := hD
  skip
  have hl : lv_has ls 3 [(0, .ref h), (1, .int (iI ((x : Nat) : Int)))] := hl
  have hro := zSet_ro hset
  have hgn := zRo_lt (b := b) hn
  have hsh : sh = zSh0 n b rc fr := hset.2.2.1
  refine lv_aload_n hx hb dX2_leave_0 rfl (lv_at hl 0 rfl) ?_
  refine va_get (D := D) (ci := 2) (v := .ref B) (C := RX2) (T := TX2) (N := 9) hx hb hts (by decide +kernel) hown hK hP 0 rfl rfl 0 (by decide) (hts (.fieldLink RX2 10 "RentHarmony" "bids" "LRentHarmony$Bids;") (by decide +kernel)) (fun _ h9 => h9) rfl dX2_leave_1 ?_
  refine lv_iload_n hx hb dX2_leave_4 rfl (lv_at hl 1 rfl) ?_
  refine zc_ri (As := [.int (iI ((x : Nat) : Int))]) (rest := []) hF (c_X0_has l D cI B C n b ((x : Nat) : Int) (by omega) (zB_of (by omega) (by omega))) (cwV 1 hts gX2_leave_X0_has rfl rfl rfl (by decide +kernel) ⟨Nat.le_of_ble_eq_true rfl, Nat.le_of_ble_eq_true rfl⟩) hK hP [1, 2] rfl 0 rfl 0 rfl rfl rfl rfl hl.1 rfl (Nat.le_of_ble_eq_true rfl) dX2_leave_5 ⟨Nat.zero_le _, Nat.zero_le _⟩ ?_
  refine zr_ifB_ne (tgt := 21) hx hb dX2_leave_8 (by decide)  (fun c1 => ?_) (fun c1 => ?_)
  · refine lv_aload_n hx hb dX2_leave_21 rfl (lv_at hl 0 rfl) ?_
    refine va_get (D := D) (ci := 2) (v := .ref G) (C := RX2) (T := TX2) (N := 9) hx hb hts (by decide +kernel) hown hK hP 0 rfl rfl 1 (by decide) (hts (.fieldLink RX2 19 "RentHarmony" "giving" "LRentHarmony$Giving;") (by decide +kernel)) (fun _ h9 => h9) rfl dX2_leave_22 ?_
    refine lv_iload_n hx hb dX2_leave_25 rfl (lv_at hl 1 rfl) ?_
    refine zc_ri (As := [.int (iI ((x : Nat) : Int))]) (rest := []) hF (c_X1_roomOfN l D cI G GB GW GR bo wo ro (zRo n b) x (by omega) (hro _ (by omega))) (cwV 1 hts gX2_leave_X1_roomOf rfl rfl rfl (by decide +kernel) ⟨Nat.le_of_ble_eq_true rfl, Nat.le_of_ble_eq_true rfl⟩) hK hP [3, 4, 5, 6] rfl 0 rfl 0 rfl rfl rfl rfl hl.1 rfl (Nat.le_of_ble_eq_true rfl) dX2_leave_26 ⟨Nat.zero_le _, Nat.zero_le _⟩ ?_
    have hf2 := hgn x (by omega)
    refine lv_istore_n (lv' := [(2, .int (iI (((zRo n b) x : Nat) : Int))), (0, .ref h), (1, .int (iI ((x : Nat) : Int)))]) hx hb dX2_leave_29 rfl hl (by decide) rfl (fun ls hl => ?_)
    refine lv_aload_n hx hb dX2_leave_30 rfl (lv_at hl 1 rfl) ?_
    refine va_get (D := D) (ci := 2) (v := .ref B) (C := RX2) (T := TX2) (N := 9) hx hb hts (by decide +kernel) hown hK hP 0 rfl rfl 0 (by decide) (hts (.fieldLink RX2 10 "RentHarmony" "bids" "LRentHarmony$Bids;") (by decide +kernel)) (fun _ h9 => h9) rfl dX2_leave_31 ?_
    refine lv_iload_n hx hb dX2_leave_34 rfl (lv_at hl 2 rfl) ?_
    refine lv_iload_n hx hb dX2_leave_35 rfl (lv_at hl 0 rfl) ?_
    refine zc_wv (As := [.int (iI ((x : Nat) : Int)), .int (iI (((zRo n b) x : Nat) : Int))]) (rest := []) hF (c_X0_shrink l D cI B C n b x ((zRo n b) x) (by omega) (by omega) (by omega)) (cwV 2 hts gX2_leave_X0_shrink rfl rfl rfl (by decide +kernel) ⟨Nat.le_of_ble_eq_true rfl, Nat.le_of_ble_eq_true rfl⟩) hK hP hD hS [1, 2] rfl rfl (fun _ => rfl) 0 rfl 0 rfl rfl rfl rfl hl.1 rfl (Nat.le_of_ble_eq_true rfl) dX2_leave_36 ⟨Nat.zero_le _, Nat.zero_le _⟩ (fun u3 H locs hw hP hD hS => ?_)
    have hP : va_P D vwCl [(h, .inr (2, [.ref B, .ref G, .ref TB, .ref TG, .ref FR, .ref CH, .int (iI (rc)), .int (iI (sh)), .int (iI (po))])), (B, .inr (0, [.ref C, .int (iI ((n - 1 : Nat) : Int))])), (C, zArr cI 36 (zSh x ((zRo n b) x) (n - 1) b (n - 1))), (G, .inr (1, [.ref GB, .ref GW, .ref GR])), (GB, zArr cI 64 bo), (GW, zArr cI 64 wo), (GR, zArr cI 6 ro), (FR, zArr cI 6 fr)] H := hP
    have hD : va_D A [(h, .inr (2, [.ref B, .ref G, .ref TB, .ref TG, .ref FR, .ref CH, .int (iI (rc)), .int (iI (sh)), .int (iI (po))])), (B, .inr (0, [.ref C, .int (iI ((n - 1 : Nat) : Int))])), (C, zArr cI 36 (zSh x ((zRo n b) x) (n - 1) b (n - 1))), (G, .inr (1, [.ref GB, .ref GW, .ref GR])), (GB, zArr cI 64 bo), (GW, zArr cI 64 wo), (GR, zArr cI 6 ro), (FR, zArr cI 6 fr)] := hD
    have hb1 : ∀ k, 0 ≤ (zSh x (zRo n b x) (n - 1) b (n - 1)) k ∧ (zSh x (zRo n b x) (n - 1) b (n - 1)) k ≤ 999 := zSh_b x (zRo n b x) (n - 1) hb0 (n - 1)
    refine lv_aload_n hx hb dX2_leave_39 rfl (lv_at hl 1 rfl) ?_
    refine zc_wv (As := []) (rest := []) hF (c_X2_settleAll l D cI h B C G GB GW GR TB TG FR CH (n - 1) (zSh x ((zRo n b) x) (n - 1) b (n - 1)) bo wo ro fr rc sh po (by omega) hb1 (by assumption)) (cwV 0 hts gX2_leave_X2_settleAll rfl rfl rfl (by decide +kernel) ⟨Nat.le_of_ble_eq_true rfl, Nat.le_of_ble_eq_true rfl⟩) hK hP hD hS [0, 1, 2, 3, 4, 5, 6, 7] rfl rfl (fun _ => rfl) 0 rfl 0 rfl rfl rfl rfl hl.1 rfl (Nat.le_of_ble_eq_true rfl) dX2_leave_40 ⟨Nat.zero_le _, Nat.zero_le _⟩ (fun u5 H locs hw hP hD hS => ?_)
    obtain ⟨bo7, wo7, ro7, fr7, sh7, po7⟩ := u5
    have hset7 : zSet (n - 1) (zSh x ((zRo n b) x) (n - 1) b (n - 1)) rc bo7 wo7 ro7 fr7 sh7 po7 := hw
    have hP : va_P D vwCl [(h, .inr (2, [.ref B, .ref G, .ref TB, .ref TG, .ref FR, .ref CH, .int (iI (rc)), .int (iI (sh7)), .int (iI (po7))])), (B, .inr (0, [.ref C, .int (iI ((n - 1 : Nat) : Int))])), (C, zArr cI 36 (zSh x ((zRo n b) x) (n - 1) b (n - 1))), (G, .inr (1, [.ref GB, .ref GW, .ref GR])), (GB, zArr cI 64 bo7), (GW, zArr cI 64 wo7), (GR, zArr cI 6 ro7), (FR, zArr cI 6 fr7)] H := hP
    have hD : va_D A [(h, .inr (2, [.ref B, .ref G, .ref TB, .ref TG, .ref FR, .ref CH, .int (iI (rc)), .int (iI (sh7)), .int (iI (po7))])), (B, .inr (0, [.ref C, .int (iI ((n - 1 : Nat) : Int))])), (C, zArr cI 36 (zSh x ((zRo n b) x) (n - 1) b (n - 1))), (G, .inr (1, [.ref GB, .ref GW, .ref GR])), (GB, zArr cI 64 bo7), (GW, zArr cI 64 wo7), (GR, zArr cI 6 ro7), (FR, zArr cI 6 fr7)] := hD
    refine lv_iload_n hx hb dX2_leave_43 rfl (lv_at hl 0 rfl) ?_
    exact zWi_ret hx hb hr hlocks hS dX2_leave_44 (bo7, wo7, ro7, fr7, sh7, po7) ⟨rfl, hset7⟩ hP
  · exact absurd (by omega) c1
set_option maxHeartbeats 4000000 in
set_option maxRecDepth 100000 in
/-- X2_would -/
theorem c_X2_would (l : Launch) (D : va_G) (cI : ClassId) (h B C G GB GW GR TB TG FR CH n : Nat) (b bo wo ro fr : Nat → Int) (rc sh po : Int) (TC TGB TGW TGR tn : Nat) (tb tbo two tro : Nat → Int) (x y : Nat) (v : Int) (hn : n ≤ 6) (hb0 : ∀ k, 0 ≤ b k ∧ b k ≤ 999) (hrc : 0 ≤ rc ∧ rc ≤ 5999) (hset : zSet n b rc bo wo ro fr sh po) (hx0 : x < n) (hy0 : y < n) (hv : 0 ≤ v ∧ v ≤ 999) : zWi (S := (Nat → Int) × (Nat → Int) × (Nat → Int) × (Nat → Int)) l yX2_would wsX2_would 5 118 D cI [.ref h, .int (iI ((x : Nat) : Int)), .int (iI ((y : Nat) : Int)), .int (iI (v))] [(h, .inr (2, [.ref B, .ref G, .ref TB, .ref TG, .ref FR, .ref CH, .int (iI (rc)), .int (iI (sh)), .int (iI (po))])), (B, .inr (0, [.ref C, .int (iI ((n : Nat) : Int))])), (C, zArr cI 36 b), (G, .inr (1, [.ref GB, .ref GW, .ref GR])), (GB, zArr cI 64 bo), (GW, zArr cI 64 wo), (GR, zArr cI 6 ro), (FR, zArr cI 6 fr), (TB, .inr (0, [.ref TC, .int (iI ((tn : Nat) : Int))])), (TC, zArr cI 36 tb), (TG, .inr (1, [.ref TGB, .ref TGW, .ref TGR])), (TGB, zArr cI 64 tbo), (TGW, zArr cI 64 two), (TGR, zArr cI 6 tro)] (fun r _ => r = iI ((zRo n (uZ b (x * 6 + y) v) x : Nat) : Int)) (fun u8 => [(h, .inr (2, [.ref B, .ref G, .ref TB, .ref TG, .ref FR, .ref CH, .int (iI (rc)), .int (iI (sh)), .int (iI (po))])), (B, .inr (0, [.ref C, .int (iI ((n : Nat) : Int))])), (C, zArr cI 36 b), (G, .inr (1, [.ref GB, .ref GW, .ref GR])), (GB, zArr cI 64 bo), (GW, zArr cI 64 wo), (GR, zArr cI 6 ro), (FR, zArr cI 6 fr), (TB, .inr (0, [.ref TC, .int (iI ((n : Nat) : Int))])), (TC, zArr cI 36 u8.1), (TG, .inr (1, [.ref TGB, .ref TGW, .ref TGR])), (TGB, zArr cI 64 u8.2.1), (TGW, zArr cI 64 u8.2.2.1), (TGR, zArr cI 6 u8.2.2.2)]) := by
  refine zWi_of (cc := cX2_would) (maxL := 4) (rt := .int) (by decide) rfl (Nat.le_of_ble_eq_true rfl) ?_
  intro p e s m args below meth c ls A hF hr hlocks hP hK hD hS hl
  have hF : zFix p m c cX2_would 4 s args wsX2_would RX2 := hF
  obtain ⟨hx, hb, hml, hown, hts⟩ := id hF
  have hP : va_P D vwCl [(h, .inr (2, [.ref B, .ref G, .ref TB, .ref TG, .ref FR, .ref CH, .int (iI (rc)), .int (iI (sh)), .int (iI (po))])), (B, .inr (0, [.ref C, .int (iI ((n : Nat) : Int))])), (C, zArr cI 36 b), (G, .inr (1, [.ref GB, .ref GW, .ref GR])), (GB, zArr cI 64 bo), (GW, zArr cI 64 wo), (GR, zArr cI 6 ro), (FR, zArr cI 6 fr), (TB, .inr (0, [.ref TC, .int (iI ((tn : Nat) : Int))])), (TC, zArr cI 36 tb), (TG, .inr (1, [.ref TGB, .ref TGW, .ref TGR])), (TGB, zArr cI 64 tbo), (TGW, zArr cI 64 two), (TGR, zArr cI 6 tro)] s.heap := hP
  have hD : va_D A [(h, .inr (2, [.ref B, .ref G, .ref TB, .ref TG, .ref FR, .ref CH, .int (iI (rc)), .int (iI (sh)), .int (iI (po))])), (B, .inr (0, [.ref C, .int (iI ((n : Nat) : Int))])), (C, zArr cI 36 b), (G, .inr (1, [.ref GB, .ref GW, .ref GR])), (GB, zArr cI 64 bo), (GW, zArr cI 64 wo), (GR, zArr cI 6 ro), (FR, zArr cI 6 fr), (TB, .inr (0, [.ref TC, .int (iI ((tn : Nat) : Int))])), (TC, zArr cI 36 tb), (TG, .inr (1, [.ref TGB, .ref TGW, .ref TGR])), (TGB, zArr cI 64 tbo), (TGW, zArr cI 64 two), (TGR, zArr cI 6 tro)] := hD
  skip
  have hl : lv_has ls 4 [(0, .ref h), (1, .int (iI ((x : Nat) : Int))), (2, .int (iI ((y : Nat) : Int))), (3, .int (iI (v)))] := hl
  have hro := zSet_ro hset
  have hgn := zRo_lt (b := b) hn
  have hsh : sh = zSh0 n b rc fr := hset.2.2.1
  refine lv_aload_n hx hb dX2_would_0 rfl (lv_at hl 0 rfl) ?_
  refine va_get (D := D) (ci := 2) (v := .ref B) (C := RX2) (T := TX2) (N := 9) hx hb hts (by decide +kernel) hown hK hP 0 rfl rfl 0 (by decide) (hts (.fieldLink RX2 10 "RentHarmony" "bids" "LRentHarmony$Bids;") (by decide +kernel)) (fun _ h9 => h9) rfl dX2_would_1 ?_
  refine lv_iload_n hx hb dX2_would_4 rfl (lv_at hl 1 rfl) ?_
  refine zc_ri (As := [.int (iI ((x : Nat) : Int))]) (rest := []) hF (c_X0_has l D cI B C n b ((x : Nat) : Int) (by omega) (zB_of (by omega) (by omega))) (cwV 1 hts gX2_would_X0_has rfl rfl rfl (by decide +kernel) ⟨Nat.le_of_ble_eq_true rfl, Nat.le_of_ble_eq_true rfl⟩) hK hP [1, 2] rfl 0 rfl 0 rfl rfl rfl rfl hl.1 rfl (Nat.le_of_ble_eq_true rfl) dX2_would_5 ⟨Nat.zero_le _, Nat.zero_le _⟩ ?_
  refine zr_ifB_eq (tgt := 22) hx hb dX2_would_8 (by decide)  (fun c1 => ?_) (fun c1 => ?_)
  · exact absurd (by omega) c1
  · refine lv_aload_n hx hb dX2_would_11 rfl (lv_at hl 0 rfl) ?_
    refine va_get (D := D) (ci := 2) (v := .ref B) (C := RX2) (T := TX2) (N := 9) hx hb hts (by decide +kernel) hown hK hP 0 rfl rfl 0 (by decide) (hts (.fieldLink RX2 10 "RentHarmony" "bids" "LRentHarmony$Bids;") (by decide +kernel)) (fun _ h9 => h9) rfl dX2_would_12 ?_
    refine lv_iload_n hx hb dX2_would_15 rfl (lv_at hl 2 rfl) ?_
    refine zc_ri (As := [.int (iI ((y : Nat) : Int))]) (rest := []) hF (c_X0_has l D cI B C n b ((y : Nat) : Int) (by omega) (zB_of (by omega) (by omega))) (cwV 1 hts gX2_would_X0_has rfl rfl rfl (by decide +kernel) ⟨Nat.le_of_ble_eq_true rfl, Nat.le_of_ble_eq_true rfl⟩) hK hP [1, 2] rfl 0 rfl 0 rfl rfl rfl rfl hl.1 rfl (Nat.le_of_ble_eq_true rfl) dX2_would_16 ⟨Nat.zero_le _, Nat.zero_le _⟩ ?_
    refine zr_ifB_ne (tgt := 32) hx hb dX2_would_19 (by decide)  (fun c2 => ?_) (fun c2 => ?_)
    · refine lv_iload_n hx hb dX2_would_32 rfl (lv_at hl 3 rfl) ?_
      refine zr_if_lt (tgt := 43) hx hb dX2_would_33 (by decide) (zB_of (by omega) (by omega)) (fun c3 => ?_) (fun c3 => ?_)
      · exact absurd c3 (by omega)
      · refine lv_iload_n hx hb dX2_would_36 rfl (lv_at hl 3 rfl) ?_
        refine zr_si (n := ((999 : Nat) : Int)) hx hb dX2_would_37 rfl ?_
        refine zr_icmp_le (tgt := 53) hx hb dX2_would_40 (by decide) (zB_of (by omega) (by omega)) (zB_of (by omega) (by omega)) (fun c4 => ?_) (fun c4 => ?_)
        · refine lv_aload_n hx hb dX2_would_53 rfl (lv_at hl 0 rfl) ?_
          refine va_get (D := D) (ci := 2) (v := .ref TB) (C := RX2) (T := TX2) (N := 9) hx hb hts (by decide +kernel) hown hK hP 0 rfl rfl 2 (by decide) (hts (.fieldLink RX2 23 "RentHarmony" "triedBids" "LRentHarmony$Bids;") (by decide +kernel)) (fun _ h9 => h9) rfl dX2_would_54 ?_
          refine lv_aload_n hx hb dX2_would_57 rfl (lv_at hl 0 rfl) ?_
          refine va_get (D := D) (ci := 2) (v := .ref B) (C := RX2) (T := TX2) (N := 9) hx hb hts (by decide +kernel) hown hK hP 0 rfl rfl 0 (by decide) (hts (.fieldLink RX2 10 "RentHarmony" "bids" "LRentHarmony$Bids;") (by decide +kernel)) (fun _ h9 => h9) rfl dX2_would_58 ?_
          refine zc_wv (As := [.ref B]) (rest := []) hF (c_X0_copy l D cI TB TC tn tb B C n b ) (cwV 1 hts gX2_would_X0_copy rfl rfl rfl (by decide +kernel) ⟨Nat.le_of_ble_eq_true rfl, Nat.le_of_ble_eq_true rfl⟩) hK hP hD hS [8, 9, 1, 2] rfl rfl (fun _ => rfl) 0 rfl 0 rfl rfl rfl rfl hl.1 rfl (Nat.le_of_ble_eq_true rfl) dX2_would_61 ⟨Nat.zero_le _, Nat.zero_le _⟩ (fun u5 H locs hw hP hD hS => ?_)
          have hP : va_P D vwCl [(h, .inr (2, [.ref B, .ref G, .ref TB, .ref TG, .ref FR, .ref CH, .int (iI (rc)), .int (iI (sh)), .int (iI (po))])), (B, .inr (0, [.ref C, .int (iI ((n : Nat) : Int))])), (C, zArr cI 36 b), (G, .inr (1, [.ref GB, .ref GW, .ref GR])), (GB, zArr cI 64 bo), (GW, zArr cI 64 wo), (GR, zArr cI 6 ro), (FR, zArr cI 6 fr), (TB, .inr (0, [.ref TC, .int (iI ((n : Nat) : Int))])), (TC, zArr cI 36 b), (TG, .inr (1, [.ref TGB, .ref TGW, .ref TGR])), (TGB, zArr cI 64 tbo), (TGW, zArr cI 64 two), (TGR, zArr cI 6 tro)] H := hP
          have hD : va_D A [(h, .inr (2, [.ref B, .ref G, .ref TB, .ref TG, .ref FR, .ref CH, .int (iI (rc)), .int (iI (sh)), .int (iI (po))])), (B, .inr (0, [.ref C, .int (iI ((n : Nat) : Int))])), (C, zArr cI 36 b), (G, .inr (1, [.ref GB, .ref GW, .ref GR])), (GB, zArr cI 64 bo), (GW, zArr cI 64 wo), (GR, zArr cI 6 ro), (FR, zArr cI 6 fr), (TB, .inr (0, [.ref TC, .int (iI ((n : Nat) : Int))])), (TC, zArr cI 36 b), (TG, .inr (1, [.ref TGB, .ref TGW, .ref TGR])), (TGB, zArr cI 64 tbo), (TGW, zArr cI 64 two), (TGR, zArr cI 6 tro)] := hD
          refine lv_aload_n hx hb dX2_would_64 rfl (lv_at hl 0 rfl) ?_
          refine lv_iload_n hx hb dX2_would_65 rfl (lv_at hl 1 rfl) ?_
          refine lv_iload_n hx hb dX2_would_66 rfl (lv_at hl 2 rfl) ?_
          refine lv_iload_n hx hb dX2_would_67 rfl (lv_at hl 3 rfl) ?_
          refine zc_wi (As := [.int (iI ((x : Nat) : Int)), .int (iI ((y : Nat) : Int)), .int (iI (v))]) (rest := []) hF (c_X2_roomTried l D cI h B G TB TC TG TGB TGW TGR FR CH n b tbo two tro rc sh po x y v (by omega) (by assumption) (by omega) (by omega) (by assumption)) (cwV 3 hts gX2_would_X2_roomTried rfl rfl rfl (by decide +kernel) ⟨Nat.le_of_ble_eq_true rfl, Nat.le_of_ble_eq_true rfl⟩) hK hP hD hS [0, 8, 9, 10, 11, 12, 13] rfl rfl (fun _ => rfl) 0 rfl 0 rfl rfl rfl rfl hl.1 rfl (Nat.le_of_ble_eq_true rfl) dX2_would_68 ⟨Nat.zero_le _, Nat.zero_le _⟩ (fun r8 u7 H locs hw hP hD hS => ?_)
          obtain ⟨bo9, wo9, ro9⟩ := u7
          obtain ⟨hrv9, hgv9⟩ := hw
          subst hrv9
          have hP : va_P D vwCl [(h, .inr (2, [.ref B, .ref G, .ref TB, .ref TG, .ref FR, .ref CH, .int (iI (rc)), .int (iI (sh)), .int (iI (po))])), (B, .inr (0, [.ref C, .int (iI ((n : Nat) : Int))])), (C, zArr cI 36 b), (G, .inr (1, [.ref GB, .ref GW, .ref GR])), (GB, zArr cI 64 bo), (GW, zArr cI 64 wo), (GR, zArr cI 6 ro), (FR, zArr cI 6 fr), (TB, .inr (0, [.ref TC, .int (iI ((n : Nat) : Int))])), (TC, zArr cI 36 (uZ b (x * 6 + y) v)), (TG, .inr (1, [.ref TGB, .ref TGW, .ref TGR])), (TGB, zArr cI 64 bo9), (TGW, zArr cI 64 wo9), (TGR, zArr cI 6 ro9)] H := hP
          have hD : va_D A [(h, .inr (2, [.ref B, .ref G, .ref TB, .ref TG, .ref FR, .ref CH, .int (iI (rc)), .int (iI (sh)), .int (iI (po))])), (B, .inr (0, [.ref C, .int (iI ((n : Nat) : Int))])), (C, zArr cI 36 b), (G, .inr (1, [.ref GB, .ref GW, .ref GR])), (GB, zArr cI 64 bo), (GW, zArr cI 64 wo), (GR, zArr cI 6 ro), (FR, zArr cI 6 fr), (TB, .inr (0, [.ref TC, .int (iI ((n : Nat) : Int))])), (TC, zArr cI 36 (uZ b (x * 6 + y) v)), (TG, .inr (1, [.ref TGB, .ref TGW, .ref TGR])), (TGB, zArr cI 64 bo9), (TGW, zArr cI 64 wo9), (TGR, zArr cI 6 ro9)] := hD
          exact zWi_ret hx hb hr hlocks hS dX2_would_71 ((uZ b (x * 6 + y) v), bo9, wo9, ro9) rfl hP
        · exact absurd c4 (by omega)
    · exact absurd (by omega) c2
