set_option maxHeartbeats 4000000 in
set_option maxRecDepth 100000 in
/-- X2_mean -/
theorem c_X2_mean (l : Launch) (D : va_G) (cI : ClassId) (h B C G GB GW GR TB TG FR CH n : Nat) (b bo wo ro fr : Nat → Int) (rc sh po : Int)  (hn : n ≤ 6) (hb0 : ∀ k, 0 ≤ b k ∧ b k ≤ 999) (hrc : 0 ≤ rc ∧ rc ≤ 5999) (hset : zSet n b rc bo wo ro fr sh po)  : zWd (S := Unit) l yX2_mean wsX2_mean 5 107 D cI [.ref h] [(h, .inr (2, [.ref B, .ref G, .ref TB, .ref TG, .ref FR, .ref CH, .int (iI (rc)), .int (iI (sh)), .int (iI (po))])), (B, .inr (0, [.ref C, .int (iI ((n : Nat) : Int))])), (C, zArr cI 36 b), (G, .inr (1, [.ref GB, .ref GW, .ref GR])), (GB, zArr cI 64 bo), (GW, zArr cI 64 wo), (GR, zArr cI 6 ro), (FR, zArr cI 6 fr)] (fun r _ => alike64 r (if n = 0 then 0 else FP.ddiv (FP.i2d (iI (zTo n b rc fr 6))) (FP.i2d (iI ((n : Nat) : Int)))) = true) (fun _ => [(h, .inr (2, [.ref B, .ref G, .ref TB, .ref TG, .ref FR, .ref CH, .int (iI (rc)), .int (iI (sh)), .int (iI (po))])), (B, .inr (0, [.ref C, .int (iI ((n : Nat) : Int))])), (C, zArr cI 36 b), (G, .inr (1, [.ref GB, .ref GW, .ref GR])), (GB, zArr cI 64 bo), (GW, zArr cI 64 wo), (GR, zArr cI 6 ro), (FR, zArr cI 6 fr)]) := by
  refine zWd_of (cc := cX2_mean) (maxL := 2) (rt := .double) (by decide) rfl (Nat.le_of_ble_eq_true rfl) ?_
  intro p e s m args below meth c ls A hF hr hlocks hP hK hD hS hd0 hl
  have hF : zFix p m c cX2_mean 2 (s.setDrawn s.drawn) args wsX2_mean RX2 := hF
  obtain ⟨hx, hb, hml, hown, hts⟩ := id hF
  have hP : va_P D vwCl [(h, .inr (2, [.ref B, .ref G, .ref TB, .ref TG, .ref FR, .ref CH, .int (iI (rc)), .int (iI (sh)), .int (iI (po))])), (B, .inr (0, [.ref C, .int (iI ((n : Nat) : Int))])), (C, zArr cI 36 b), (G, .inr (1, [.ref GB, .ref GW, .ref GR])), (GB, zArr cI 64 bo), (GW, zArr cI 64 wo), (GR, zArr cI 6 ro), (FR, zArr cI 6 fr)] s.heap := hP
  have hD : va_D A [(h, .inr (2, [.ref B, .ref G, .ref TB, .ref TG, .ref FR, .ref CH, .int (iI (rc)), .int (iI (sh)), .int (iI (po))])), (B, .inr (0, [.ref C, .int (iI ((n : Nat) : Int))])), (C, zArr cI 36 b), (G, .inr (1, [.ref GB, .ref GW, .ref GR])), (GB, zArr cI 64 bo), (GW, zArr cI 64 wo), (GR, zArr cI 6 ro), (FR, zArr cI 6 fr)] := hD
  skip
  have hl : lv_has ls 2 [(0, .ref h)] := hl
  have hro := zSet_ro hset
  have hgn := zRo_lt (b := b) hn
  have hsh : sh = zSh0 n b rc fr := hset.2.2.1
  refine lv_aload_n hx hb dX2_mean_0 rfl (lv_at hl 0 rfl) ?_
  refine va_get (D := D) (ci := 2) (v := .ref B) (C := RX2) (T := TX2) (N := 9) hx hb hts (by decide +kernel) hown hK hP 0 rfl rfl 0 (by decide) (hts (.fieldLink RX2 10 "RentHarmony" "bids" "LRentHarmony$Bids;") (by decide +kernel)) (fun _ h9 => h9) rfl dX2_mean_1 ?_
  refine zc_ri (As := []) (rest := []) hF (c_X0_size l D cI B C n b ) (cwV 0 hts gX2_mean_X0_size rfl rfl rfl (by decide +kernel) ⟨Nat.le_of_ble_eq_true rfl, Nat.le_of_ble_eq_true rfl⟩) hK hP [1, 2] rfl 0 rfl 0 rfl rfl rfl rfl hl.1 rfl (Nat.le_of_ble_eq_true rfl) dX2_mean_4 ⟨Nat.zero_le _, Nat.zero_le _⟩ ?_
  refine lv_istore_n (lv' := [(1, .int (iI ((n : Nat) : Int))), (0, .ref h)]) hx hb dX2_mean_7 rfl hl (by decide) rfl (fun ls hl => ?_)
  refine lv_iload_n hx hb dX2_mean_8 rfl (lv_at hl 0 rfl) ?_
  refine zr_if_ne (tgt := 14) hx hb dX2_mean_9 (by decide) (zB_of (by omega) (by omega)) (fun c1 => ?_) (fun c1 => ?_)
  · refine lv_aload_n hx hb dX2_mean_14 rfl (lv_at hl 1 rfl) ?_
    refine zc_ri (As := []) (rest := []) hF (c_X2_allPays l D cI h B C G GB GW GR TB TG FR CH n b bo wo ro fr rc sh po (zRo n b) (by omega) (by assumption) (by assumption) (by assumption)) (cwV 0 hts gX2_mean_X2_allPays rfl rfl rfl (by decide +kernel) ⟨Nat.le_of_ble_eq_true rfl, Nat.le_of_ble_eq_true rfl⟩) hK hP [0, 1, 2, 3, 4, 5, 6, 7] rfl 0 rfl 0 rfl rfl rfl rfl hl.1 rfl (Nat.le_of_ble_eq_true rfl) dX2_mean_15 ⟨Nat.zero_le _, Nat.zero_le _⟩ ?_
    refine zr_topi (show (zSum (zPay b (zRo n b) fr sh) n) = (zTo n b rc fr 6) from (by rw [hsh]; rfl)) ?_
    refine lv_i2d hx hb dX2_mean_18 ?_
    refine lv_iload_n hx hb dX2_mean_19 rfl (lv_at hl 0 rfl) ?_
    refine lv_i2d hx hb dX2_mean_20 ?_
    refine lv_ddiv_any hd0 lw_bits hx hb dX2_mean_21 (fun rd d1 hal hd1 => ?_)
    exact zWd_ret hd1 hx hb hr hlocks hS dX2_mean_22 () (by rw [if_neg (by omega)]; exact hal) hP
  · refine lv_dconst0 hx hb dX2_mean_12 ?_
    exact zWd_ret hd0 hx hb hr hlocks hS dX2_mean_13 () (by rw [if_pos (by omega)]; exact alike64_refl _) hP
