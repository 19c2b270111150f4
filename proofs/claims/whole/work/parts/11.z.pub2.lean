set_option maxHeartbeats 4000000 in
set_option maxRecDepth 100000 in
/-- X2_mean -/
theorem c_X2_mean (l : Launch) (D : va_G) (cI : ClassId) (h B C G GB GW GR TB TG FR CH n : Nat) (b bo wo ro fr : Nat → Int) (rc sh po : Int)  (hn : n ≤ 6) (hb0 : ∀ k, 0 ≤ b k ∧ b k ≤ 999) (hrc : 0 ≤ rc ∧ rc ≤ 5999) (hset : zSet n b rc bo wo ro fr sh po)  : zWd (S := Unit) l yX2_mean wsX2_mean 5 107 D cI [.ref h] [(h, .inr (2, [.ref B, .ref G, .ref TB, .ref TG, .ref FR, .ref CH, .int (iI (rc)), .int (iI (sh)), .int (iI (po))])), (B, .inr (0, [.ref C, .int (iI ((n : Nat) : Int))])), (C, zArr cI 36 b), (G, .inr (1, [.ref GB, .ref GW, .ref GR])), (GB, zArr cI 64 bo), (GW, zArr cI 64 wo), (GR, zArr cI 6 ro), (FR, zArr cI 6 fr)] (fun r _ => alike64 r (if n = 0 then 0 else FP.ddiv (FP.i2d (iI (zTo n b rc fr 6))) (FP.i2d (iI ((n : Nat) : Int)))) = true) (fun _ => [(h, .inr (2, [.ref B, .ref G, .ref TB, .ref TG, .ref FR, .ref CH, .int (iI (rc)), .int (iI (sh)), .int (iI (po))])), (B, .inr (0, [.ref C, .int (iI ((n : Nat) : Int))])), (C, zArr cI 36 b), (G, .inr (1, [.ref GB, .ref GW, .ref GR])), (GB, zArr cI 64 bo), (GW, zArr cI 64 wo), (GR, zArr cI 6 ro), (FR, zArr cI 6 fr)]) := by
  refine zWd_of (cc := cX2_mean) (maxL := 2) (rt := .double) (by decide) rfl (Nat.le_of_ble_eq_true rfl) ?_
  intro p e s m args below meth c ls A hF hr hlocks hP hK hD hS hd0 hl
  have hF : zFix p m c cX2_mean 2 (s.setDrawn s.drawn) args wsX2_mean RX2 := hF
  obtain ⟨hx, hb, hml, hown, hts⟩ := id hF
  have hP : va_P D vwCl [(h, .inr (2, [.ref B, .ref G, .ref TB, .ref TG, .ref FR, .ref CH, .int (iI (rc)), .int (iI (sh)), .int (iI (po))])), (B, .inr (0, [.ref C, .int (iI ((n : Nat) : Int))])), (C, zArr cI 36 b), (G, .inr (1, [.ref GB, .ref GW, .ref GR])), (GB, zArr cI 64 bo), (GW, zArr cI 64 wo), (GR, zArr cI 6 ro), (FR, zArr cI 6 fr)] s.heap := hP
  have hD : va_D A [(h, .inr (2, [.ref B, .ref G, .ref TB, .ref TG, .ref FR, .ref CH, .int (iI (rc)), .int (iI (sh)), .int (iI (po))])), (B, .inr (0, [.ref C, .int (iI ((n : Nat) : Int))])), (C, zArr cI 36 b), (G, .inr (1, [.ref GB, .ref GW, .ref GR])), (GB, zArr cI 64 bo), (GW, zArr cI 64 wo), (GR, zArr cI 6 ro), (FR, zArr cI 6 fr)] := hD
  skip
  have hl : lv_has ls 2 [(0, .ref h)] := hl
  have hro := zSet_ro hset
  have hgn := zRo_lt (b := b) hn
  have hsh : sh = zSh0 n b rc fr := hset.2.2.1
  refine lv_aload_n hx hb dX2_mean_0 rfl (lv_at hl 0 rfl) ?_
  refine va_get (D := D) (ci := 2) (v := .ref B) (C := RX2) (T := TX2) (N := 9) hx hb hts (by decide +kernel) hown hK hP 0 rfl rfl 0 (by decide) (hts (.fieldLink RX2 10 "RentHarmony" "bids" "LRentHarmony$Bids;") (by decide +kernel)) (fun _ h9 => h9) rfl dX2_mean_1 ?_
  refine zc_ri (As := []) (rest := []) hF (c_X0_size l D cI B C n b ) (cwV 0 hts gX2_mean_X0_size rfl rfl rfl (by decide +kernel) ⟨Nat.le_of_ble_eq_true rfl, Nat.le_of_ble_eq_true rfl⟩) hK hP [1, 2] rfl 0 rfl 0 rfl rfl rfl rfl hl.1 rfl (Nat.le_of_ble_eq_true rfl) dX2_mean_4 ⟨Nat.zero_le _, Nat.zero_le _⟩ ?_
  refine lv_istore_n (lv' := [(1, .int (iI ((n : Nat) : Int))), (0, .ref h)]) hx hb dX2_mean_7 rfl hl (by decide) rfl (fun ls hl => ?_)
  refine lv_iload_n hx hb dX2_mean_8 rfl (lv_at hl 0 rfl) ?_
  refine zr_if_ne (tgt := 14) hx hb dX2_mean_9 (by decide) (zB_of (by omega) (by omega)) (fun c1 => ?_) (fun c1 => ?_)
  · refine lv_aload_n hx hb dX2_mean_14 rfl (lv_at hl 1 rfl) ?_
    refine zc_ri (As := []) (rest := []) hF (c_X2_allPays l D cI h B C G GB GW GR TB TG FR CH n b bo wo ro fr rc sh po (zRo n b) (by omega) (by assumption) (by assumption) (by assumption)) (cwV 0 hts gX2_mean_X2_allPays rfl rfl rfl (by decide +kernel) ⟨Nat.le_of_ble_eq_true rfl, Nat.le_of_ble_eq_true rfl⟩) hK hP [0, 1, 2, 3, 4, 5, 6, 7] rfl 0 rfl 0 rfl rfl rfl rfl hl.1 rfl (Nat.le_of_ble_eq_true rfl) dX2_mean_15 ⟨Nat.zero_le _, Nat.zero_le _⟩ ?_
    refine zr_topi (show (zSum (zPay b (zRo n b) fr sh) n) = (zTo n b rc fr 6) from (by rw [hsh]; rfl)) ?_
    refine lv_i2d hx hb dX2_mean_18 ?_
    refine lv_iload_n hx hb dX2_mean_19 rfl (lv_at hl 0 rfl) ?_
    refine lv_i2d hx hb dX2_mean_20 ?_
    refine lv_ddiv_any hd0 lw_bits hx hb dX2_mean_21 (fun rd d1 hal hd1 => ?_)
    exact zWd_ret hd1 hx hb hr hlocks hS dX2_mean_22 () (by rw [if_neg (by omega)]; exact hal) hP
  · refine lv_dconst0 hx hb dX2_mean_12 ?_
    exact zWd_ret hd0 hx hb hr hlocks hS dX2_mean_13 () (by rw [if_pos (by omega)]; exact alike64_refl _) hP
set_option maxHeartbeats 4000000 in
set_option maxRecDepth 100000 in
/-- X2_digest -/
theorem c_X2_digest (l : Launch) (D : va_G) (cI : ClassId) (h B C G GB GW GR TB TG FR CH n : Nat) (b bo wo ro fr : Nat → Int) (rc sh po : Int)  (hn : n ≤ 6) (hb0 : ∀ k, 0 ≤ b k ∧ b k ≤ 999) (hrc : 0 ≤ rc ∧ rc ≤ 5999) (hset : zSet n b rc bo wo ro fr sh po)  : zWl (S := Unit) l yX2_digest wsX2_digest 6 131 D cI [.ref h] [(h, .inr (2, [.ref B, .ref G, .ref TB, .ref TG, .ref FR, .ref CH, .int (iI (rc)), .int (iI (sh)), .int (iI (po))])), (B, .inr (0, [.ref C, .int (iI ((n : Nat) : Int))])), (C, zArr cI 36 b), (G, .inr (1, [.ref GB, .ref GW, .ref GR])), (GB, zArr cI 64 bo), (GW, zArr cI 64 wo), (GR, zArr cI 6 ro), (FR, zArr cI 6 fr)] (fun r _ => r = zDi n b rc fr) (fun _ => [(h, .inr (2, [.ref B, .ref G, .ref TB, .ref TG, .ref FR, .ref CH, .int (iI (rc)), .int (iI (sh)), .int (iI (po))])), (B, .inr (0, [.ref C, .int (iI ((n : Nat) : Int))])), (C, zArr cI 36 b), (G, .inr (1, [.ref GB, .ref GW, .ref GR])), (GB, zArr cI 64 bo), (GW, zArr cI 64 wo), (GR, zArr cI 6 ro), (FR, zArr cI 6 fr)]) := by
  refine zWl_of (cc := cX2_digest) (maxL := 5) (rt := .long) (by decide) rfl (Nat.le_of_ble_eq_true rfl) ?_
  intro p e s m args below meth c ls A hF hr hlocks hP hK hD hS hl
  have hF : zFix p m c cX2_digest 5 s args wsX2_digest RX2 := hF
  obtain ⟨hx, hb, hml, hown, hts⟩ := id hF
  have hP : va_P D vwCl [(h, .inr (2, [.ref B, .ref G, .ref TB, .ref TG, .ref FR, .ref CH, .int (iI (rc)), .int (iI (sh)), .int (iI (po))])), (B, .inr (0, [.ref C, .int (iI ((n : Nat) : Int))])), (C, zArr cI 36 b), (G, .inr (1, [.ref GB, .ref GW, .ref GR])), (GB, zArr cI 64 bo), (GW, zArr cI 64 wo), (GR, zArr cI 6 ro), (FR, zArr cI 6 fr)] s.heap := hP
  have hD : va_D A [(h, .inr (2, [.ref B, .ref G, .ref TB, .ref TG, .ref FR, .ref CH, .int (iI (rc)), .int (iI (sh)), .int (iI (po))])), (B, .inr (0, [.ref C, .int (iI ((n : Nat) : Int))])), (C, zArr cI 36 b), (G, .inr (1, [.ref GB, .ref GW, .ref GR])), (GB, zArr cI 64 bo), (GW, zArr cI 64 wo), (GR, zArr cI 6 ro), (FR, zArr cI 6 fr)] := hD
  skip
  have hl : lv_has ls 5 [(0, .ref h)] := hl
  have hro := zSet_ro hset
  have hgn := zRo_lt (b := b) hn
  have hsh : sh = zSh0 n b rc fr := hset.2.2.1
  refine lv_ldc2 hx hb hown (hts (.constantLong RX2 145 (1301)) (by decide +kernel)) dX2_digest_0 ?_
  refine lv_lstore_n (lv' := [(1, .long (1301)), (0, .ref h)]) hx hb dX2_digest_3 rfl hl (by decide) rfl (fun ls hl => ?_)
  refine zr_ic (n := ((0 : Nat) : Int)) hx hb dX2_digest_4 ?_
  refine lv_istore_n (lv' := [(3, .int (iI ((0 : Nat) : Int))), (1, .long (1301)), (0, .ref h)]) hx hb dX2_digest_5 rfl hl (by decide) rfl (fun ls hl => ?_)
  have LD : ∀ (k0 : Nat) (w1 : Nat), 7 - w1 < k0 → (hw1 : w1 ≤ 7) → ∀ (H : Heap) (locs : List Loc), va_P D vwCl [(h, .inr (2, [.ref B, .ref G, .ref TB, .ref TG, .ref FR, .ref CH, .int (iI (rc)), .int (iI (sh)), .int (iI (po))])), (B, .inr (0, [.ref C, .int (iI ((n : Nat) : Int))])), (C, zArr cI 36 b), (G, .inr (1, [.ref GB, .ref GW, .ref GR])), (GB, zArr cI 64 bo), (GW, zArr cI 64 wo), (GR, zArr cI 6 ro), (FR, zArr cI 6 fr)] H → va_D A [(h, .inr (2, [.ref B, .ref G, .ref TB, .ref TG, .ref FR, .ref CH, .int (iI (rc)), .int (iI (sh)), .int (iI (po))])), (B, .inr (0, [.ref C, .int (iI ((n : Nat) : Int))])), (C, zArr cI 36 b), (G, .inr (1, [.ref GB, .ref GW, .ref GR])), (GB, zArr cI 64 bo), (GW, zArr cI 64 wo), (GR, zArr cI 6 ro), (FR, zArr cI 6 fr)] → va_S A s.heap H locs → ∀ (ls : Array Slot), lv_has ls 5 [(0, .ref h), (1, .long (zD1 (zTo n b rc fr) 1301 w1)), (3, .int (iI ((w1 : Nat) : Int)))] → W p l e (zRm 6 131) s m args below meth c H locs 0 0 (MQ below (va_Ql (S := Unit) (fun r _ => r = zDi n b rc fr) (fun u9 t9 => va_P D vwCl ((fun _ => [(h, .inr (2, [.ref B, .ref G, .ref TB, .ref TG, .ref FR, .ref CH, .int (iI (rc)), .int (iI (sh)), .int (iI (po))])), (B, .inr (0, [.ref C, .int (iI ((n : Nat) : Int))])), (C, zArr cI 36 b), (G, .inr (1, [.ref GB, .ref GW, .ref GR])), (GB, zArr cI 64 bo), (GW, zArr cI 64 wo), (GR, zArr cI 6 ro), (FR, zArr cI 6 fr)]) u9) t9.heap) A) args s 0 0 A) (F0 m 6 ls []) := by
    intro k0
    induction k0 with
    | zero => intro w1 hk; exact absurd hk (Nat.not_lt_zero _)
    | succ k0 ih_LD =>
      intro w1 hk hw1 H locs hP hD hS ls hl
      refine lv_iload_n hx hb dX2_digest_6 rfl (lv_at hl 2 rfl) ?_
      refine zr_bi (n := ((7 : Nat) : Int)) hx hb dX2_digest_7 rfl ?_
      refine zr_icmp_ge (tgt := 31) hx hb dX2_digest_9 (by decide) (zB_of (by omega) (by omega)) (zB_of (by omega) (by omega)) (fun c1 => ?_) (fun c1 => ?_)
      · have e9 : w1 = 7 := by omega
        rw [e9] at hl
        refine zr_ic (n := ((0 : Nat) : Int)) hx hb dX2_digest_31 ?_
        refine lv_istore_n (lv' := [(3, .int (iI ((0 : Nat) : Int))), (0, .ref h), (1, .long ((zD1 (zTo n b rc fr) 1301 7)))]) hx hb dX2_digest_32 rfl hl (by decide) rfl (fun ls hl => ?_)
        have LJ : ∀ (k0 : Nat) (j : Nat), n - j < k0 → (hj1 : j ≤ n) → ∀ (H : Heap) (locs : List Loc), va_P D vwCl [(h, .inr (2, [.ref B, .ref G, .ref TB, .ref TG, .ref FR, .ref CH, .int (iI (rc)), .int (iI (sh)), .int (iI (po))])), (B, .inr (0, [.ref C, .int (iI ((n : Nat) : Int))])), (C, zArr cI 36 b), (G, .inr (1, [.ref GB, .ref GW, .ref GR])), (GB, zArr cI 64 bo), (GW, zArr cI 64 wo), (GR, zArr cI 6 ro), (FR, zArr cI 6 fr)] H → va_D A [(h, .inr (2, [.ref B, .ref G, .ref TB, .ref TG, .ref FR, .ref CH, .int (iI (rc)), .int (iI (sh)), .int (iI (po))])), (B, .inr (0, [.ref C, .int (iI ((n : Nat) : Int))])), (C, zArr cI 36 b), (G, .inr (1, [.ref GB, .ref GW, .ref GR])), (GB, zArr cI 64 bo), (GW, zArr cI 64 wo), (GR, zArr cI 6 ro), (FR, zArr cI 6 fr)] → va_S A s.heap H locs → ∀ (ls : Array Slot), lv_has ls 5 [(0, .ref h), (1, .long (zD2 n b rc fr (zD1 (zTo n b rc fr) 1301 7) j)), (3, .int (iI ((j : Nat) : Int)))] → W p l e (zRm 6 131) s m args below meth c H locs 0 0 (MQ below (va_Ql (S := Unit) (fun r _ => r = zDi n b rc fr) (fun u9 t9 => va_P D vwCl ((fun _ => [(h, .inr (2, [.ref B, .ref G, .ref TB, .ref TG, .ref FR, .ref CH, .int (iI (rc)), .int (iI (sh)), .int (iI (po))])), (B, .inr (0, [.ref C, .int (iI ((n : Nat) : Int))])), (C, zArr cI 36 b), (G, .inr (1, [.ref GB, .ref GW, .ref GR])), (GB, zArr cI 64 bo), (GW, zArr cI 64 wo), (GR, zArr cI 6 ro), (FR, zArr cI 6 fr)]) u9) t9.heap) A) args s 0 0 A) (F0 m 33 ls []) := by
          intro k0
          induction k0 with
          | zero => intro j hk; exact absurd hk (Nat.not_lt_zero _)
          | succ k0 ih_LJ =>
            intro j hk hj1 H locs hP hD hS ls hl
            refine lv_iload_n hx hb dX2_digest_33 rfl (lv_at hl 2 rfl) ?_
            refine lv_aload_n hx hb dX2_digest_34 rfl (lv_at hl 0 rfl) ?_
            refine va_get (D := D) (ci := 2) (v := .ref B) (C := RX2) (T := TX2) (N := 9) hx hb hts (by decide +kernel) hown hK hP 0 rfl rfl 0 (by decide) (hts (.fieldLink RX2 10 "RentHarmony" "bids" "LRentHarmony$Bids;") (by decide +kernel)) (fun _ h9 => h9) rfl dX2_digest_35 ?_
            refine zc_ri (As := []) (rest := [.int (iI ((j : Nat) : Int))]) hF (c_X0_size l D cI B C n b ) (cwV 0 hts gX2_digest_X0_size rfl rfl rfl (by decide +kernel) ⟨Nat.le_of_ble_eq_true rfl, Nat.le_of_ble_eq_true rfl⟩) hK hP [1, 2] rfl 0 rfl 0 rfl rfl rfl rfl hl.1 rfl (Nat.le_of_ble_eq_true rfl) dX2_digest_38 ⟨Nat.zero_le _, Nat.zero_le _⟩ ?_
            refine zr_icmp_ge (tgt := 120) hx hb dX2_digest_41 (by decide) (zB_of (by omega) (by omega)) (zB_of (by omega) (by omega)) (fun c2 => ?_) (fun c2 => ?_)
            · refine lv_lload_n hx hb dX2_digest_120 rfl (lv_at hl 1 rfl) ?_
              exact zWl_ret hx hb hr hlocks hS dX2_digest_121 () (by rw [show j = n by omega]; rfl) hP
            · refine zr_ic (n := ((0 : Nat) : Int)) hx hb dX2_digest_44 ?_
              refine lv_istore (lv' := [(4, .int (iI ((0 : Nat) : Int))), (0, .ref h), (1, .long (zD2 n b rc fr (zD1 (zTo n b rc fr) 1301 7) j)), (3, .int (iI ((j : Nat) : Int)))]) hx hb dX2_digest_45 hl (by decide) rfl (fun ls hl => ?_)
              have LW : ∀ (k0 : Nat) (w2 : Nat), 6 - w2 < k0 → (hw2 : w2 ≤ 6) → ∀ (H : Heap) (locs : List Loc), va_P D vwCl [(h, .inr (2, [.ref B, .ref G, .ref TB, .ref TG, .ref FR, .ref CH, .int (iI (rc)), .int (iI (sh)), .int (iI (po))])), (B, .inr (0, [.ref C, .int (iI ((n : Nat) : Int))])), (C, zArr cI 36 b), (G, .inr (1, [.ref GB, .ref GW, .ref GR])), (GB, zArr cI 64 bo), (GW, zArr cI 64 wo), (GR, zArr cI 6 ro), (FR, zArr cI 6 fr)] H → va_D A [(h, .inr (2, [.ref B, .ref G, .ref TB, .ref TG, .ref FR, .ref CH, .int (iI (rc)), .int (iI (sh)), .int (iI (po))])), (B, .inr (0, [.ref C, .int (iI ((n : Nat) : Int))])), (C, zArr cI 36 b), (G, .inr (1, [.ref GB, .ref GW, .ref GR])), (GB, zArr cI 64 bo), (GW, zArr cI 64 wo), (GR, zArr cI 6 ro), (FR, zArr cI 6 fr)] → va_S A s.heap H locs → ∀ (ls : Array Slot), lv_has ls 5 [(0, .ref h), (1, .long (zD1 (zFa n b rc fr j) (zD2 n b rc fr (zD1 (zTo n b rc fr) 1301 7) j) w2)), (3, .int (iI ((j : Nat) : Int))), (4, .int (iI ((w2 : Nat) : Int)))] → W p l e (zRm 6 131) s m args below meth c H locs 0 0 (MQ below (va_Ql (S := Unit) (fun r _ => r = zDi n b rc fr) (fun u9 t9 => va_P D vwCl ((fun _ => [(h, .inr (2, [.ref B, .ref G, .ref TB, .ref TG, .ref FR, .ref CH, .int (iI (rc)), .int (iI (sh)), .int (iI (po))])), (B, .inr (0, [.ref C, .int (iI ((n : Nat) : Int))])), (C, zArr cI 36 b), (G, .inr (1, [.ref GB, .ref GW, .ref GR])), (GB, zArr cI 64 bo), (GW, zArr cI 64 wo), (GR, zArr cI 6 ro), (FR, zArr cI 6 fr)]) u9) t9.heap) A) args s 0 0 A) (F0 m 47 ls []) := by
                intro k0
                induction k0 with
                | zero => intro w2 hk; exact absurd hk (Nat.not_lt_zero _)
                | succ k0 ih_LW =>
                  intro w2 hk hw2 H locs hP hD hS ls hl
                  refine lv_iload hx hb dX2_digest_47 (lv_at hl 3 rfl) ?_
                  refine zr_bi (n := ((6 : Nat) : Int)) hx hb dX2_digest_49 rfl ?_
                  refine zr_icmp_ge (tgt := 75) hx hb dX2_digest_51 (by decide) (zB_of (by omega) (by omega)) (zB_of (by omega) (by omega)) (fun c3 => ?_) (fun c3 => ?_)
                  · have e8 : w2 = 6 := by omega
                    rw [e8] at hl
                    refine zr_ic (n := ((0 : Nat) : Int)) hx hb dX2_digest_75 ?_
                    refine lv_istore (lv' := [(4, .int (iI ((0 : Nat) : Int))), (0, .ref h), (1, .long (zD1 (zFa n b rc fr j) (zD2 n b rc fr (zD1 (zTo n b rc fr) 1301 7) j) 6)), (3, .int (iI ((j : Nat) : Int)))]) hx hb dX2_digest_76 hl (by decide) rfl (fun ls hl => ?_)
                    have LR : ∀ (k0 : Nat) (r2 : Nat), n - r2 < k0 → (hr2 : r2 ≤ n) → ∀ (H : Heap) (locs : List Loc), va_P D vwCl [(h, .inr (2, [.ref B, .ref G, .ref TB, .ref TG, .ref FR, .ref CH, .int (iI (rc)), .int (iI (sh)), .int (iI (po))])), (B, .inr (0, [.ref C, .int (iI ((n : Nat) : Int))])), (C, zArr cI 36 b), (G, .inr (1, [.ref GB, .ref GW, .ref GR])), (GB, zArr cI 64 bo), (GW, zArr cI 64 wo), (GR, zArr cI 6 ro), (FR, zArr cI 6 fr)] H → va_D A [(h, .inr (2, [.ref B, .ref G, .ref TB, .ref TG, .ref FR, .ref CH, .int (iI (rc)), .int (iI (sh)), .int (iI (po))])), (B, .inr (0, [.ref C, .int (iI ((n : Nat) : Int))])), (C, zArr cI 36 b), (G, .inr (1, [.ref GB, .ref GW, .ref GR])), (GB, zArr cI 64 bo), (GW, zArr cI 64 wo), (GR, zArr cI 6 ro), (FR, zArr cI 6 fr)] → va_S A s.heap H locs → ∀ (ls : Array Slot), lv_has ls 5 [(0, .ref h), (1, .long (zD1 (fun r => b (j * 6 + r)) (zD1 (zFa n b rc fr j) (zD2 n b rc fr (zD1 (zTo n b rc fr) 1301 7) j) 6) r2)), (3, .int (iI ((j : Nat) : Int))), (4, .int (iI ((r2 : Nat) : Int)))] → W p l e (zRm 6 131) s m args below meth c H locs 0 0 (MQ below (va_Ql (S := Unit) (fun r _ => r = zDi n b rc fr) (fun u9 t9 => va_P D vwCl ((fun _ => [(h, .inr (2, [.ref B, .ref G, .ref TB, .ref TG, .ref FR, .ref CH, .int (iI (rc)), .int (iI (sh)), .int (iI (po))])), (B, .inr (0, [.ref C, .int (iI ((n : Nat) : Int))])), (C, zArr cI 36 b), (G, .inr (1, [.ref GB, .ref GW, .ref GR])), (GB, zArr cI 64 bo), (GW, zArr cI 64 wo), (GR, zArr cI 6 ro), (FR, zArr cI 6 fr)]) u9) t9.heap) A) args s 0 0 A) (F0 m 78 ls []) := by
                      intro k0
                      induction k0 with
                      | zero => intro r2 hk; exact absurd hk (Nat.not_lt_zero _)
                      | succ k0 ih_LR =>
                        intro r2 hk hr2 H locs hP hD hS ls hl
                        refine lv_iload hx hb dX2_digest_78 (lv_at hl 3 rfl) ?_
                        refine lv_aload_n hx hb dX2_digest_80 rfl (lv_at hl 0 rfl) ?_
                        refine va_get (D := D) (ci := 2) (v := .ref B) (C := RX2) (T := TX2) (N := 9) hx hb hts (by decide +kernel) hown hK hP 0 rfl rfl 0 (by decide) (hts (.fieldLink RX2 10 "RentHarmony" "bids" "LRentHarmony$Bids;") (by decide +kernel)) (fun _ h9 => h9) rfl dX2_digest_81 ?_
                        refine zc_ri (As := []) (rest := [.int (iI ((r2 : Nat) : Int))]) hF (c_X0_size l D cI B C n b ) (cwV 0 hts gX2_digest_X0_size rfl rfl rfl (by decide +kernel) ⟨Nat.le_of_ble_eq_true rfl, Nat.le_of_ble_eq_true rfl⟩) hK hP [1, 2] rfl 0 rfl 0 rfl rfl rfl rfl hl.1 rfl (Nat.le_of_ble_eq_true rfl) dX2_digest_84 ⟨Nat.zero_le _, Nat.zero_le _⟩ ?_
                        refine zr_icmp_ge (tgt := 114) hx hb dX2_digest_87 (by decide) (zB_of (by omega) (by omega)) (zB_of (by omega) (by omega)) (fun c4 => ?_) (fun c4 => ?_)
                        · have e8 : r2 = n := by omega
                          rw [e8] at hl
                          refine zr_iinc (lv2 := [(3, .int (iI (((j : Nat) : Int) + 1))), (0, .ref h), (1, .long (zD1 (fun r => b (j * 6 + r)) (zD1 (zFa n b rc fr j) (zD2 n b rc fr (zD1 (zTo n b rc fr) 1301 7) j) 6) n)), (4, .int (iI ((n : Nat) : Int)))]) hx hb dX2_digest_114 hl (k0 := 2) rfl (by decide) rfl (fun ls hl => ?_)
                          have hl : lv_has ls 5 [(3, .int (iI ((j + 1 : Nat) : Int))), (0, .ref h), (1, .long (zD1 (fun r => b (j * 6 + r)) (zD1 (zFa n b rc fr j) (zD2 n b rc fr (zD1 (zTo n b rc fr) 1301 7) j) 6) n)), (4, .int (iI ((n : Nat) : Int)))] := hl
                          refine lv_goto (tgt := 33) hx hb dX2_digest_117 (by decide) ?_
                          have hl : lv_has ls 5 [(3, .int (iI ((j + 1 : Nat) : Int))), (0, .ref h), (1, .long (zD2 n b rc fr (zD1 (zTo n b rc fr) 1301 7) (j + 1))), (4, .int (iI ((n : Nat) : Int)))] := hl
                          exact ih_LJ (j + 1) (by omega) (by omega) _ _ hP hD hS _ (lv_sub hl [1, 2, 0] rfl)
                        · refine lv_lload_n hx hb dX2_digest_90 rfl (lv_at hl 1 rfl) ?_
                          refine lv_ldc2 hx hb hown (hts (.constantLong RX2 147 (31)) (by decide +kernel)) dX2_digest_91 ?_
                          refine lv_lmul hx hb dX2_digest_94 ?_
                          refine lv_aload_n hx hb dX2_digest_95 rfl (lv_at hl 0 rfl) ?_
                          refine va_get (D := D) (ci := 2) (v := .ref B) (C := RX2) (T := TX2) (N := 9) hx hb hts (by decide +kernel) hown hK hP 0 rfl rfl 0 (by decide) (hts (.fieldLink RX2 10 "RentHarmony" "bids" "LRentHarmony$Bids;") (by decide +kernel)) (fun _ h9 => h9) rfl dX2_digest_96 ?_
                          refine lv_iload_n hx hb dX2_digest_99 rfl (lv_at hl 2 rfl) ?_
                          refine lv_iload hx hb dX2_digest_100 (lv_at hl 3 rfl) ?_
                          refine zc_ri (As := [.int (iI ((j : Nat) : Int)), .int (iI ((r2 : Nat) : Int))]) (rest := [.long ((zD1 (fun r => b (j * 6 + r)) (zD1 (zFa n b rc fr j) (zD2 n b rc fr (zD1 (zTo n b rc fr) 1301 7) j) 6) r2) * (31))]) hF (c_X0_of l D cI B C n b j r2 (by omega) (by omega) (by omega)) (cwV 2 hts gX2_digest_X0_of rfl rfl rfl (by decide +kernel) ⟨Nat.le_of_ble_eq_true rfl, Nat.le_of_ble_eq_true rfl⟩) hK hP [1, 2] rfl 0 rfl 0 rfl rfl rfl rfl hl.1 rfl (Nat.le_of_ble_eq_true rfl) dX2_digest_102 ⟨Nat.zero_le _, Nat.zero_le _⟩ ?_
                          refine lv_i2l hx hb dX2_digest_105 rfl ?_
                          refine lv_ladd hx hb dX2_digest_106 ?_
                          refine lv_lstore_n (lv' := [(1, .long (((zD1 (fun r => b (j * 6 + r)) (zD1 (zFa n b rc fr j) (zD2 n b rc fr (zD1 (zTo n b rc fr) 1301 7) j) 6) r2) * (31)) + ((iI (b (j * 6 + r2))).toInt64))), (0, .ref h), (3, .int (iI ((j : Nat) : Int))), (4, .int (iI ((r2 : Nat) : Int)))]) hx hb dX2_digest_107 rfl hl (by decide) rfl (fun ls hl => ?_)
                          refine zr_iinc (lv2 := [(4, .int (iI (((r2 : Nat) : Int) + 1))), (1, .long (((zD1 (fun r => b (j * 6 + r)) (zD1 (zFa n b rc fr j) (zD2 n b rc fr (zD1 (zTo n b rc fr) 1301 7) j) 6) r2) * (31)) + ((iI (b (j * 6 + r2))).toInt64))), (0, .ref h), (3, .int (iI ((j : Nat) : Int)))]) hx hb dX2_digest_108 hl (k0 := 3) rfl (by decide) rfl (fun ls hl => ?_)
                          have hl : lv_has ls 5 [(4, .int (iI ((r2 + 1 : Nat) : Int))), (1, .long (((zD1 (fun r => b (j * 6 + r)) (zD1 (zFa n b rc fr j) (zD2 n b rc fr (zD1 (zTo n b rc fr) 1301 7) j) 6) r2) * (31)) + ((iI (b (j * 6 + r2))).toInt64))), (0, .ref h), (3, .int (iI ((j : Nat) : Int)))] := hl
                          refine lv_goto (tgt := 78) hx hb dX2_digest_111 (by decide) ?_
                          have hl : lv_has ls 5 [(4, .int (iI ((r2 + 1 : Nat) : Int))), (1, .long (zD1 (fun r => b (j * 6 + r)) (zD1 (zFa n b rc fr j) (zD2 n b rc fr (zD1 (zTo n b rc fr) 1301 7) j) 6) (r2 + 1))), (0, .ref h), (3, .int (iI ((j : Nat) : Int)))] := hl
                          exact ih_LR (r2 + 1) (by omega) (by omega) _ _ hP hD hS _ (lv_sub hl [2, 1, 3, 0] rfl)
                    have hl : lv_has ls 5 [(4, .int (iI ((0 : Nat) : Int))), (0, .ref h), (1, .long (zD1 (fun r => b (j * 6 + r)) (zD1 (zFa n b rc fr j) (zD2 n b rc fr (zD1 (zTo n b rc fr) 1301 7) j) 6) 0)), (3, .int (iI ((j : Nat) : Int)))] := hl
                    exact LR ((n - (0)) + 1) (0) (Nat.lt_succ_self _) (by omega) _ _ hP hD hS _ (lv_sub hl [1, 2, 3, 0] rfl)
                  · refine lv_lload_n hx hb dX2_digest_54 rfl (lv_at hl 1 rfl) ?_
                    refine lv_ldc2 hx hb hown (hts (.constantLong RX2 147 (31)) (by decide +kernel)) dX2_digest_55 ?_
                    refine lv_lmul hx hb dX2_digest_58 ?_
                    refine lv_aload_n hx hb dX2_digest_59 rfl (lv_at hl 0 rfl) ?_
                    refine lv_iload_n hx hb dX2_digest_60 rfl (lv_at hl 2 rfl) ?_
                    refine lv_iload hx hb dX2_digest_61 (lv_at hl 3 rfl) ?_
                    refine zc_ri (As := [.int (iI ((j : Nat) : Int)), .int (iI ((w2 : Nat) : Int))]) (rest := [.long ((zD1 (zFa n b rc fr j) (zD2 n b rc fr (zD1 (zTo n b rc fr) 1301 7) j) w2) * (31))]) hF (c_X2_fact l D cI h B C G GB GW GR TB TG FR CH n b bo wo ro fr rc sh po (zRo n b) j w2 (by omega) (by assumption) (by assumption) (by assumption) (by omega) (by omega)) (cwV 2 hts gX2_digest_X2_fact rfl rfl rfl (by decide +kernel) ⟨Nat.le_of_ble_eq_true rfl, Nat.le_of_ble_eq_true rfl⟩) hK hP [0, 1, 2, 3, 4, 5, 6, 7] rfl 0 rfl 0 rfl rfl rfl rfl hl.1 rfl (Nat.le_of_ble_eq_true rfl) dX2_digest_63 ⟨Nat.zero_le _, Nat.zero_le _⟩ ?_
                    refine zr_topi (show (zFact n b (zRo n b) fr sh j w2) = (zFa n b rc fr j w2) from (by rw [hsh]; rfl)) ?_
                    refine lv_i2l hx hb dX2_digest_66 rfl ?_
                    refine lv_ladd hx hb dX2_digest_67 ?_
                    refine lv_lstore_n (lv' := [(1, .long (((zD1 (zFa n b rc fr j) (zD2 n b rc fr (zD1 (zTo n b rc fr) 1301 7) j) w2) * (31)) + ((iI (zFa n b rc fr j w2)).toInt64))), (0, .ref h), (3, .int (iI ((j : Nat) : Int))), (4, .int (iI ((w2 : Nat) : Int)))]) hx hb dX2_digest_68 rfl hl (by decide) rfl (fun ls hl => ?_)
                    refine zr_iinc (lv2 := [(4, .int (iI (((w2 : Nat) : Int) + 1))), (1, .long (((zD1 (zFa n b rc fr j) (zD2 n b rc fr (zD1 (zTo n b rc fr) 1301 7) j) w2) * (31)) + ((iI (zFa n b rc fr j w2)).toInt64))), (0, .ref h), (3, .int (iI ((j : Nat) : Int)))]) hx hb dX2_digest_69 hl (k0 := 3) rfl (by decide) rfl (fun ls hl => ?_)
                    have hl : lv_has ls 5 [(4, .int (iI ((w2 + 1 : Nat) : Int))), (1, .long (((zD1 (zFa n b rc fr j) (zD2 n b rc fr (zD1 (zTo n b rc fr) 1301 7) j) w2) * (31)) + ((iI (zFa n b rc fr j w2)).toInt64))), (0, .ref h), (3, .int (iI ((j : Nat) : Int)))] := hl
                    refine lv_goto (tgt := 47) hx hb dX2_digest_72 (by decide) ?_
                    have hl : lv_has ls 5 [(4, .int (iI ((w2 + 1 : Nat) : Int))), (1, .long (zD1 (zFa n b rc fr j) (zD2 n b rc fr (zD1 (zTo n b rc fr) 1301 7) j) (w2 + 1))), (0, .ref h), (3, .int (iI ((j : Nat) : Int)))] := hl
                    exact ih_LW (w2 + 1) (by omega) (by omega) _ _ hP hD hS _ (lv_sub hl [2, 1, 3, 0] rfl)
              have hl : lv_has ls 5 [(4, .int (iI ((0 : Nat) : Int))), (0, .ref h), (1, .long (zD1 (zFa n b rc fr j) (zD2 n b rc fr (zD1 (zTo n b rc fr) 1301 7) j) 0)), (3, .int (iI ((j : Nat) : Int)))] := hl
              exact LW ((6 - (0)) + 1) (0) (Nat.lt_succ_self _) (by omega) _ _ hP hD hS _ (lv_sub hl [1, 2, 3, 0] rfl)
        have hl : lv_has ls 5 [(3, .int (iI ((0 : Nat) : Int))), (0, .ref h), (1, .long (zD2 n b rc fr (zD1 (zTo n b rc fr) 1301 7) 0))] := hl
        exact LJ ((n - (0)) + 1) (0) (Nat.lt_succ_self _) (by omega) _ _ hP hD hS _ (lv_sub hl [1, 2, 0] rfl)
      · refine lv_lload_n hx hb dX2_digest_12 rfl (lv_at hl 1 rfl) ?_
        refine lv_ldc2 hx hb hown (hts (.constantLong RX2 147 (31)) (by decide +kernel)) dX2_digest_13 ?_
        refine lv_lmul hx hb dX2_digest_16 ?_
        refine lv_aload_n hx hb dX2_digest_17 rfl (lv_at hl 0 rfl) ?_
        refine lv_iload_n hx hb dX2_digest_18 rfl (lv_at hl 2 rfl) ?_
        refine zc_ri (As := [.int (iI ((w1 : Nat) : Int))]) (rest := [.long ((zD1 (zTo n b rc fr) 1301 w1) * (31))]) hF (c_X2_total l D cI h B C G GB GW GR TB TG FR CH n b bo wo ro fr rc sh po (zRo n b) w1 (by omega) (by assumption) (by assumption) (by assumption) (by omega)) (cwV 1 hts gX2_digest_X2_total rfl rfl rfl (by decide +kernel) ⟨Nat.le_of_ble_eq_true rfl, Nat.le_of_ble_eq_true rfl⟩) hK hP [0, 1, 2, 3, 4, 5, 6, 7] rfl 0 rfl 0 rfl rfl rfl rfl hl.1 rfl (Nat.le_of_ble_eq_true rfl) dX2_digest_19 ⟨Nat.zero_le _, Nat.zero_le _⟩ ?_
        refine zr_topi (show (zTot n b (zRo n b) fr rc sh po (bo 0) (wo 0) w1) = (zTo n b rc fr w1) from (by rw [hsh, show bo 0 = zWo n b from hset.1.1, show wo 0 = zWy n b from hset.1.2.1, show po = zPo0 n b rc fr from hset.2.2.2]; rfl)) ?_
        refine lv_i2l hx hb dX2_digest_22 rfl ?_
        refine lv_ladd hx hb dX2_digest_23 ?_
        refine lv_lstore_n (lv' := [(1, .long (((zD1 (zTo n b rc fr) 1301 w1) * (31)) + ((iI (zTo n b rc fr w1)).toInt64))), (0, .ref h), (3, .int (iI ((w1 : Nat) : Int)))]) hx hb dX2_digest_24 rfl hl (by decide) rfl (fun ls hl => ?_)
        refine zr_iinc (lv2 := [(3, .int (iI (((w1 : Nat) : Int) + 1))), (1, .long (((zD1 (zTo n b rc fr) 1301 w1) * (31)) + ((iI (zTo n b rc fr w1)).toInt64))), (0, .ref h)]) hx hb dX2_digest_25 hl (k0 := 2) rfl (by decide) rfl (fun ls hl => ?_)
        have hl : lv_has ls 5 [(3, .int (iI ((w1 + 1 : Nat) : Int))), (1, .long (((zD1 (zTo n b rc fr) 1301 w1) * (31)) + ((iI (zTo n b rc fr w1)).toInt64))), (0, .ref h)] := hl
        refine lv_goto (tgt := 6) hx hb dX2_digest_28 (by decide) ?_
        have hl : lv_has ls 5 [(3, .int (iI ((w1 + 1 : Nat) : Int))), (1, .long (zD1 (zTo n b rc fr) 1301 (w1 + 1))), (0, .ref h)] := hl
        exact ih_LD (w1 + 1) (by omega) (by omega) _ _ hP hD hS _ (lv_sub hl [2, 1, 0] rfl)
  have hl : lv_has ls 5 [(3, .int (iI ((0 : Nat) : Int))), (1, .long (zD1 (zTo n b rc fr) 1301 0)), (0, .ref h)] := hl
  exact LD ((7 - (0)) + 1) (0) (Nat.lt_succ_self _) (by omega) _ _ hP hD hS _ (lv_sub hl [2, 1, 0] rfl)
set_option maxHeartbeats 4000000 in
set_option maxRecDepth 100000 in
/-- X2_without -/
theorem c_X2_without (l : Launch) (D : va_G) (cI : ClassId) (h B C G GB GW GR TB TG FR CH n : Nat) (b bo wo ro fr : Nat → Int) (rc sh po : Int) (TC TGB TGW TGR tn : Nat) (tb tbo two tro : Nat → Int) (x : Nat) (hn : n ≤ 6) (hb0 : ∀ k, 0 ≤ b k ∧ b k ≤ 999) (hrc : 0 ≤ rc ∧ rc ≤ 5999) (hset : zSet n b rc bo wo ro fr sh po) (hx0 : x < n) : zWi (S := (Nat → Int) × (Nat → Int) × (Nat → Int) × (Nat → Int)) l yX2_without wsX2_without 4 95 D cI [.ref h, .int (iI ((x : Nat) : Int))] [(h, .inr (2, [.ref B, .ref G, .ref TB, .ref TG, .ref FR, .ref CH, .int (iI (rc)), .int (iI (sh)), .int (iI (po))])), (B, .inr (0, [.ref C, .int (iI ((n : Nat) : Int))])), (C, zArr cI 36 b), (G, .inr (1, [.ref GB, .ref GW, .ref GR])), (GB, zArr cI 64 bo), (GW, zArr cI 64 wo), (GR, zArr cI 6 ro), (FR, zArr cI 6 fr), (TB, .inr (0, [.ref TC, .int (iI ((tn : Nat) : Int))])), (TC, zArr cI 36 tb), (TG, .inr (1, [.ref TGB, .ref TGW, .ref TGR])), (TGB, zArr cI 64 tbo), (TGW, zArr cI 64 two), (TGR, zArr cI 6 tro)] (fun r _ => r = iI (zWo n (zRow0 b x n))) (fun u8 => [(h, .inr (2, [.ref B, .ref G, .ref TB, .ref TG, .ref FR, .ref CH, .int (iI (rc)), .int (iI (sh)), .int (iI (po))])), (B, .inr (0, [.ref C, .int (iI ((n : Nat) : Int))])), (C, zArr cI 36 b), (G, .inr (1, [.ref GB, .ref GW, .ref GR])), (GB, zArr cI 64 bo), (GW, zArr cI 64 wo), (GR, zArr cI 6 ro), (FR, zArr cI 6 fr), (TB, .inr (0, [.ref TC, .int (iI ((n : Nat) : Int))])), (TC, zArr cI 36 u8.1), (TG, .inr (1, [.ref TGB, .ref TGW, .ref TGR])), (TGB, zArr cI 64 u8.2.1), (TGW, zArr cI 64 u8.2.2.1), (TGR, zArr cI 6 u8.2.2.2)]) := by
  refine zWi_of (cc := cX2_without) (maxL := 3) (rt := .int) (by decide) rfl (Nat.le_of_ble_eq_true rfl) ?_
  intro p e s m args below meth c ls A hF hr hlocks hP hK hD hS hl
  have hF : zFix p m c cX2_without 3 s args wsX2_without RX2 := hF
  obtain ⟨hx, hb, hml, hown, hts⟩ := id hF
  have hP : va_P D vwCl [(h, .inr (2, [.ref B, .ref G, .ref TB, .ref TG, .ref FR, .ref CH, .int (iI (rc)), .int (iI (sh)), .int (iI (po))])), (B, .inr (0, [.ref C, .int (iI ((n : Nat) : Int))])), (C, zArr cI 36 b), (G, .inr (1, [.ref GB, .ref GW, .ref GR])), (GB, zArr cI 64 bo), (GW, zArr cI 64 wo), (GR, zArr cI 6 ro), (FR, zArr cI 6 fr), (TB, .inr (0, [.ref TC, .int (iI ((tn : Nat) : Int))])), (TC, zArr cI 36 tb), (TG, .inr (1, [.ref TGB, .ref TGW, .ref TGR])), (TGB, zArr cI 64 tbo), (TGW, zArr cI 64 two), (TGR, zArr cI 6 tro)] s.heap := hP
  have hD : va_D A [(h, .inr (2, [.ref B, .ref G, .ref TB, .ref TG, .ref FR, .ref CH, .int (iI (rc)), .int (iI (sh)), .int (iI (po))])), (B, .inr (0, [.ref C, .int (iI ((n : Nat) : Int))])), (C, zArr cI 36 b), (G, .inr (1, [.ref GB, .ref GW, .ref GR])), (GB, zArr cI 64 bo), (GW, zArr cI 64 wo), (GR, zArr cI 6 ro), (FR, zArr cI 6 fr), (TB, .inr (0, [.ref TC, .int (iI ((tn : Nat) : Int))])), (TC, zArr cI 36 tb), (TG, .inr (1, [.ref TGB, .ref TGW, .ref TGR])), (TGB, zArr cI 64 tbo), (TGW, zArr cI 64 two), (TGR, zArr cI 6 tro)] := hD
  skip
  have hl : lv_has ls 3 [(0, .ref h), (1, .int (iI ((x : Nat) : Int)))] := hl
  have hro := zSet_ro hset
  have hgn := zRo_lt (b := b) hn
  have hsh : sh = zSh0 n b rc fr := hset.2.2.1
  refine lv_aload_n hx hb dX2_without_0 rfl (lv_at hl 0 rfl) ?_
  refine va_get (D := D) (ci := 2) (v := .ref B) (C := RX2) (T := TX2) (N := 9) hx hb hts (by decide +kernel) hown hK hP 0 rfl rfl 0 (by decide) (hts (.fieldLink RX2 10 "RentHarmony" "bids" "LRentHarmony$Bids;") (by decide +kernel)) (fun _ h9 => h9) rfl dX2_without_1 ?_
  refine lv_iload_n hx hb dX2_without_4 rfl (lv_at hl 1 rfl) ?_
  refine zc_ri (As := [.int (iI ((x : Nat) : Int))]) (rest := []) hF (c_X0_has l D cI B C n b ((x : Nat) : Int) (by omega) (zB_of (by omega) (by omega))) (cwV 1 hts gX2_without_X0_has rfl rfl rfl (by decide +kernel) ⟨Nat.le_of_ble_eq_true rfl, Nat.le_of_ble_eq_true rfl⟩) hK hP [1, 2] rfl 0 rfl 0 rfl rfl rfl rfl hl.1 rfl (Nat.le_of_ble_eq_true rfl) dX2_without_5 ⟨Nat.zero_le _, Nat.zero_le _⟩ ?_
  refine zr_ifB_ne (tgt := 21) hx hb dX2_without_8 (by decide)  (fun c1 => ?_) (fun c1 => ?_)
  · refine lv_aload_n hx hb dX2_without_21 rfl (lv_at hl 0 rfl) ?_
    refine va_get (D := D) (ci := 2) (v := .ref TB) (C := RX2) (T := TX2) (N := 9) hx hb hts (by decide +kernel) hown hK hP 0 rfl rfl 2 (by decide) (hts (.fieldLink RX2 23 "RentHarmony" "triedBids" "LRentHarmony$Bids;") (by decide +kernel)) (fun _ h9 => h9) rfl dX2_without_22 ?_
    refine lv_aload_n hx hb dX2_without_25 rfl (lv_at hl 0 rfl) ?_
    refine va_get (D := D) (ci := 2) (v := .ref B) (C := RX2) (T := TX2) (N := 9) hx hb hts (by decide +kernel) hown hK hP 0 rfl rfl 0 (by decide) (hts (.fieldLink RX2 10 "RentHarmony" "bids" "LRentHarmony$Bids;") (by decide +kernel)) (fun _ h9 => h9) rfl dX2_without_26 ?_
    refine zc_wv (As := [.ref B]) (rest := []) hF (c_X0_copy l D cI TB TC tn tb B C n b ) (cwV 1 hts gX2_without_X0_copy rfl rfl rfl (by decide +kernel) ⟨Nat.le_of_ble_eq_true rfl, Nat.le_of_ble_eq_true rfl⟩) hK hP hD hS [8, 9, 1, 2] rfl rfl (fun _ => rfl) 0 rfl 0 rfl rfl rfl rfl hl.1 rfl (Nat.le_of_ble_eq_true rfl) dX2_without_29 ⟨Nat.zero_le _, Nat.zero_le _⟩ (fun u2 H locs hw hP hD hS => ?_)
    have hP : va_P D vwCl [(h, .inr (2, [.ref B, .ref G, .ref TB, .ref TG, .ref FR, .ref CH, .int (iI (rc)), .int (iI (sh)), .int (iI (po))])), (B, .inr (0, [.ref C, .int (iI ((n : Nat) : Int))])), (C, zArr cI 36 b), (G, .inr (1, [.ref GB, .ref GW, .ref GR])), (GB, zArr cI 64 bo), (GW, zArr cI 64 wo), (GR, zArr cI 6 ro), (FR, zArr cI 6 fr), (TB, .inr (0, [.ref TC, .int (iI ((n : Nat) : Int))])), (TC, zArr cI 36 b), (TG, .inr (1, [.ref TGB, .ref TGW, .ref TGR])), (TGB, zArr cI 64 tbo), (TGW, zArr cI 64 two), (TGR, zArr cI 6 tro)] H := hP
    have hD : va_D A [(h, .inr (2, [.ref B, .ref G, .ref TB, .ref TG, .ref FR, .ref CH, .int (iI (rc)), .int (iI (sh)), .int (iI (po))])), (B, .inr (0, [.ref C, .int (iI ((n : Nat) : Int))])), (C, zArr cI 36 b), (G, .inr (1, [.ref GB, .ref GW, .ref GR])), (GB, zArr cI 64 bo), (GW, zArr cI 64 wo), (GR, zArr cI 6 ro), (FR, zArr cI 6 fr), (TB, .inr (0, [.ref TC, .int (iI ((n : Nat) : Int))])), (TC, zArr cI 36 b), (TG, .inr (1, [.ref TGB, .ref TGW, .ref TGR])), (TGB, zArr cI 64 tbo), (TGW, zArr cI 64 two), (TGR, zArr cI 6 tro)] := hD
    refine zr_ic (n := ((0 : Nat) : Int)) hx hb dX2_without_32 ?_
    refine lv_istore_n (lv' := [(2, .int (iI ((0 : Nat) : Int))), (0, .ref h), (1, .int (iI ((x : Nat) : Int)))]) hx hb dX2_without_33 rfl hl (by decide) rfl (fun ls hl => ?_)
    have LZ : ∀ (k0 : Nat) (r3 : Nat), n - r3 < k0 → (hr3 : r3 ≤ n) → ∀ (H : Heap) (locs : List Loc), va_P D vwCl [(h, .inr (2, [.ref B, .ref G, .ref TB, .ref TG, .ref FR, .ref CH, .int (iI (rc)), .int (iI (sh)), .int (iI (po))])), (B, .inr (0, [.ref C, .int (iI ((n : Nat) : Int))])), (C, zArr cI 36 b), (G, .inr (1, [.ref GB, .ref GW, .ref GR])), (GB, zArr cI 64 bo), (GW, zArr cI 64 wo), (GR, zArr cI 6 ro), (FR, zArr cI 6 fr), (TB, .inr (0, [.ref TC, .int (iI ((n : Nat) : Int))])), (TC, zArr cI 36 (zRow0 b x r3)), (TG, .inr (1, [.ref TGB, .ref TGW, .ref TGR])), (TGB, zArr cI 64 tbo), (TGW, zArr cI 64 two), (TGR, zArr cI 6 tro)] H → va_D A [(h, .inr (2, [.ref B, .ref G, .ref TB, .ref TG, .ref FR, .ref CH, .int (iI (rc)), .int (iI (sh)), .int (iI (po))])), (B, .inr (0, [.ref C, .int (iI ((n : Nat) : Int))])), (C, zArr cI 36 b), (G, .inr (1, [.ref GB, .ref GW, .ref GR])), (GB, zArr cI 64 bo), (GW, zArr cI 64 wo), (GR, zArr cI 6 ro), (FR, zArr cI 6 fr), (TB, .inr (0, [.ref TC, .int (iI ((n : Nat) : Int))])), (TC, zArr cI 36 (zRow0 b x r3)), (TG, .inr (1, [.ref TGB, .ref TGW, .ref TGR])), (TGB, zArr cI 64 tbo), (TGW, zArr cI 64 two), (TGR, zArr cI 6 tro)] → va_S A s.heap H locs → ∀ (ls : Array Slot), lv_has ls 3 [(0, .ref h), (1, .int (iI ((x : Nat) : Int))), (2, .int (iI ((r3 : Nat) : Int)))] → W p l e (zRm 4 95) s m args below meth c H locs 0 0 (MQ below (va_Qi (S := (Nat → Int) × (Nat → Int) × (Nat → Int) × (Nat → Int)) (fun r _ => r = iI (zWo n (zRow0 b x n))) (fun u9 t9 => va_P D vwCl ((fun u8 => [(h, .inr (2, [.ref B, .ref G, .ref TB, .ref TG, .ref FR, .ref CH, .int (iI (rc)), .int (iI (sh)), .int (iI (po))])), (B, .inr (0, [.ref C, .int (iI ((n : Nat) : Int))])), (C, zArr cI 36 b), (G, .inr (1, [.ref GB, .ref GW, .ref GR])), (GB, zArr cI 64 bo), (GW, zArr cI 64 wo), (GR, zArr cI 6 ro), (FR, zArr cI 6 fr), (TB, .inr (0, [.ref TC, .int (iI ((n : Nat) : Int))])), (TC, zArr cI 36 u8.1), (TG, .inr (1, [.ref TGB, .ref TGW, .ref TGR])), (TGB, zArr cI 64 u8.2.1), (TGW, zArr cI 64 u8.2.2.1), (TGR, zArr cI 6 u8.2.2.2)]) u9) t9.heap) A) args s 0 0 A) (F0 m 34 ls []) := by
      intro k0
      induction k0 with
      | zero => intro r3 hk; exact absurd hk (Nat.not_lt_zero _)
      | succ k0 ih_LZ =>
        intro r3 hk hr3 H locs hP hD hS ls hl
        refine lv_iload_n hx hb dX2_without_34 rfl (lv_at hl 2 rfl) ?_
        refine lv_aload_n hx hb dX2_without_35 rfl (lv_at hl 0 rfl) ?_
        refine va_get (D := D) (ci := 2) (v := .ref TB) (C := RX2) (T := TX2) (N := 9) hx hb hts (by decide +kernel) hown hK hP 0 rfl rfl 2 (by decide) (hts (.fieldLink RX2 23 "RentHarmony" "triedBids" "LRentHarmony$Bids;") (by decide +kernel)) (fun _ h9 => h9) rfl dX2_without_36 ?_
        refine zc_ri (As := []) (rest := [.int (iI ((r3 : Nat) : Int))]) hF (c_X0_size l D cI TB TC n (zRow0 b x r3) ) (cwV 0 hts gX2_without_X0_size rfl rfl rfl (by decide +kernel) ⟨Nat.le_of_ble_eq_true rfl, Nat.le_of_ble_eq_true rfl⟩) hK hP [8, 9] rfl 0 rfl 0 rfl rfl rfl rfl hl.1 rfl (Nat.le_of_ble_eq_true rfl) dX2_without_39 ⟨Nat.zero_le _, Nat.zero_le _⟩ ?_
        refine zr_icmp_ge (tgt := 61) hx hb dX2_without_42 (by decide) (zB_of (by omega) (by omega)) (zB_of (by omega) (by omega)) (fun c4 => ?_) (fun c4 => ?_)
        · have e3 : r3 = n := by omega
          rw [e3] at hP hD
          have hb1 : ∀ k, 0 ≤ zRow0 b x n k ∧ zRow0 b x n k ≤ 999 := zRow0_b hb0 x n
          refine lv_aload_n hx hb dX2_without_61 rfl (lv_at hl 0 rfl) ?_
          refine va_get (D := D) (ci := 2) (v := .ref TG) (C := RX2) (T := TX2) (N := 9) hx hb hts (by decide +kernel) hown hK hP 0 rfl rfl 3 (by decide) (hts (.fieldLink RX2 26 "RentHarmony" "triedGiving" "LRentHarmony$Giving;") (by decide +kernel)) (fun _ h9 => h9) rfl dX2_without_62 ?_
          refine lv_aload_n hx hb dX2_without_65 rfl (lv_at hl 0 rfl) ?_
          refine va_get (D := D) (ci := 2) (v := .ref TB) (C := RX2) (T := TX2) (N := 9) hx hb hts (by decide +kernel) hown hK hP 0 rfl rfl 2 (by decide) (hts (.fieldLink RX2 23 "RentHarmony" "triedBids" "LRentHarmony$Bids;") (by decide +kernel)) (fun _ h9 => h9) rfl dX2_without_66 ?_
          refine zc_wv (As := [.ref TB]) (rest := []) hF (c_X1_choose l D cI TG TGB TGW TGR tbo two tro TB TC n (zRow0 b x n) (by omega) hb1) (cwV 1 hts gX2_without_X1_choose rfl rfl rfl (by decide +kernel) ⟨Nat.le_of_ble_eq_true rfl, Nat.le_of_ble_eq_true rfl⟩) hK hP hD hS [10, 11, 12, 13, 8, 9] rfl rfl (fun _ => rfl) 0 rfl 0 rfl rfl rfl rfl hl.1 rfl (Nat.le_of_ble_eq_true rfl) dX2_without_69 ⟨Nat.zero_le _, Nat.zero_le _⟩ (fun u5 H locs hw hP hD hS => ?_)
          obtain ⟨bo7, wo7, ro7⟩ := u5
          obtain ⟨hgb7, hgw7, hgr7⟩ := hw
          have hP : va_P D vwCl [(h, .inr (2, [.ref B, .ref G, .ref TB, .ref TG, .ref FR, .ref CH, .int (iI (rc)), .int (iI (sh)), .int (iI (po))])), (B, .inr (0, [.ref C, .int (iI ((n : Nat) : Int))])), (C, zArr cI 36 b), (G, .inr (1, [.ref GB, .ref GW, .ref GR])), (GB, zArr cI 64 bo), (GW, zArr cI 64 wo), (GR, zArr cI 6 ro), (FR, zArr cI 6 fr), (TB, .inr (0, [.ref TC, .int (iI ((n : Nat) : Int))])), (TC, zArr cI 36 (zRow0 b x n)), (TG, .inr (1, [.ref TGB, .ref TGW, .ref TGR])), (TGB, zArr cI 64 bo7), (TGW, zArr cI 64 wo7), (TGR, zArr cI 6 ro7)] H := hP
          have hD : va_D A [(h, .inr (2, [.ref B, .ref G, .ref TB, .ref TG, .ref FR, .ref CH, .int (iI (rc)), .int (iI (sh)), .int (iI (po))])), (B, .inr (0, [.ref C, .int (iI ((n : Nat) : Int))])), (C, zArr cI 36 b), (G, .inr (1, [.ref GB, .ref GW, .ref GR])), (GB, zArr cI 64 bo), (GW, zArr cI 64 wo), (GR, zArr cI 6 ro), (FR, zArr cI 6 fr), (TB, .inr (0, [.ref TC, .int (iI ((n : Nat) : Int))])), (TC, zArr cI 36 (zRow0 b x n)), (TG, .inr (1, [.ref TGB, .ref TGW, .ref TGR])), (TGB, zArr cI 64 bo7), (TGW, zArr cI 64 wo7), (TGR, zArr cI 6 ro7)] := hD
          have hgb7 : bo7 0 = zWo n (zRow0 b x n) := hgb7
          have hgw7 : wo7 0 = zWy n (zRow0 b x n) := hgw7
          have hgr7 : ∀ j, j < n → ro7 j = ((zRo n (zRow0 b x n) j : Nat) : Int) := hgr7
          have hro : ∀ j, j < n → ro7 j = ((zRo n (zRow0 b x n) j : Nat) : Int) := hgr7
          have hgn : ∀ j, j < n → zRo n (zRow0 b x n) j < n := zRo_lt hn
          refine lv_aload_n hx hb dX2_without_72 rfl (lv_at hl 0 rfl) ?_
          refine va_get (D := D) (ci := 2) (v := .ref TG) (C := RX2) (T := TX2) (N := 9) hx hb hts (by decide +kernel) hown hK hP 0 rfl rfl 3 (by decide) (hts (.fieldLink RX2 26 "RentHarmony" "triedGiving" "LRentHarmony$Giving;") (by decide +kernel)) (fun _ h9 => h9) rfl dX2_without_73 ?_
          refine zc_ri (As := []) (rest := []) hF (c_X1_worth l D cI TG TGB TGW TGR bo7 wo7 ro7 ) (cwV 0 hts gX2_without_X1_worth rfl rfl rfl (by decide +kernel) ⟨Nat.le_of_ble_eq_true rfl, Nat.le_of_ble_eq_true rfl⟩) hK hP [10, 11, 12, 13] rfl 0 rfl 0 rfl rfl rfl rfl hl.1 rfl (Nat.le_of_ble_eq_true rfl) dX2_without_76 ⟨Nat.zero_le _, Nat.zero_le _⟩ ?_
          exact zWi_ret hx hb hr hlocks hS dX2_without_79 ((zRow0 b x n), bo7, wo7, ro7) (congrArg iI hgb7) hP
        · refine lv_aload_n hx hb dX2_without_45 rfl (lv_at hl 0 rfl) ?_
          refine va_get (D := D) (ci := 2) (v := .ref TB) (C := RX2) (T := TX2) (N := 9) hx hb hts (by decide +kernel) hown hK hP 0 rfl rfl 2 (by decide) (hts (.fieldLink RX2 23 "RentHarmony" "triedBids" "LRentHarmony$Bids;") (by decide +kernel)) (fun _ h9 => h9) rfl dX2_without_46 ?_
          refine lv_iload_n hx hb dX2_without_49 rfl (lv_at hl 1 rfl) ?_
          refine lv_iload_n hx hb dX2_without_50 rfl (lv_at hl 2 rfl) ?_
          refine zr_ic (n := ((0 : Nat) : Int)) hx hb dX2_without_51 ?_
          refine zc_wv (As := [.int (iI ((x : Nat) : Int)), .int (iI ((r3 : Nat) : Int)), .int (iI ((0 : Nat) : Int))]) (rest := []) hF (c_X0_set l D cI TB TC n (zRow0 b x r3) x r3 ((0 : Nat) : Int) (by omega) (by omega) (by omega)) (cwV 3 hts gX2_without_X0_set rfl rfl rfl (by decide +kernel) ⟨Nat.le_of_ble_eq_true rfl, Nat.le_of_ble_eq_true rfl⟩) hK hP hD hS [8, 9] rfl rfl (fun _ => rfl) 0 rfl 0 rfl rfl rfl rfl hl.1 rfl (Nat.le_of_ble_eq_true rfl) dX2_without_52 ⟨Nat.zero_le _, Nat.zero_le _⟩ (fun u8 H locs hw hP hD hS => ?_)
          have hP : va_P D vwCl [(h, .inr (2, [.ref B, .ref G, .ref TB, .ref TG, .ref FR, .ref CH, .int (iI (rc)), .int (iI (sh)), .int (iI (po))])), (B, .inr (0, [.ref C, .int (iI ((n : Nat) : Int))])), (C, zArr cI 36 b), (G, .inr (1, [.ref GB, .ref GW, .ref GR])), (GB, zArr cI 64 bo), (GW, zArr cI 64 wo), (GR, zArr cI 6 ro), (FR, zArr cI 6 fr), (TB, .inr (0, [.ref TC, .int (iI ((n : Nat) : Int))])), (TC, zArr cI 36 (uZ (zRow0 b x r3) (x * 6 + r3) ((0 : Nat) : Int))), (TG, .inr (1, [.ref TGB, .ref TGW, .ref TGR])), (TGB, zArr cI 64 tbo), (TGW, zArr cI 64 two), (TGR, zArr cI 6 tro)] H := hP
          have hD : va_D A [(h, .inr (2, [.ref B, .ref G, .ref TB, .ref TG, .ref FR, .ref CH, .int (iI (rc)), .int (iI (sh)), .int (iI (po))])), (B, .inr (0, [.ref C, .int (iI ((n : Nat) : Int))])), (C, zArr cI 36 b), (G, .inr (1, [.ref GB, .ref GW, .ref GR])), (GB, zArr cI 64 bo), (GW, zArr cI 64 wo), (GR, zArr cI 6 ro), (FR, zArr cI 6 fr), (TB, .inr (0, [.ref TC, .int (iI ((n : Nat) : Int))])), (TC, zArr cI 36 (uZ (zRow0 b x r3) (x * 6 + r3) ((0 : Nat) : Int))), (TG, .inr (1, [.ref TGB, .ref TGW, .ref TGR])), (TGB, zArr cI 64 tbo), (TGW, zArr cI 64 two), (TGR, zArr cI 6 tro)] := hD
          refine zr_iinc (lv2 := [(2, .int (iI (((r3 : Nat) : Int) + 1))), (0, .ref h), (1, .int (iI ((x : Nat) : Int)))]) hx hb dX2_without_55 hl (k0 := 2) rfl (by decide) rfl (fun ls hl => ?_)
          have hl : lv_has ls 3 [(2, .int (iI ((r3 + 1 : Nat) : Int))), (0, .ref h), (1, .int (iI ((x : Nat) : Int)))] := hl
          refine lv_goto (tgt := 34) hx hb dX2_without_58 (by decide) ?_
          have hP : va_P D vwCl [(h, .inr (2, [.ref B, .ref G, .ref TB, .ref TG, .ref FR, .ref CH, .int (iI (rc)), .int (iI (sh)), .int (iI (po))])), (B, .inr (0, [.ref C, .int (iI ((n : Nat) : Int))])), (C, zArr cI 36 b), (G, .inr (1, [.ref GB, .ref GW, .ref GR])), (GB, zArr cI 64 bo), (GW, zArr cI 64 wo), (GR, zArr cI 6 ro), (FR, zArr cI 6 fr), (TB, .inr (0, [.ref TC, .int (iI ((n : Nat) : Int))])), (TC, zArr cI 36 (uZ (zRow0 b x r3) (x * 6 + r3) ((0 : Nat) : Int))), (TG, .inr (1, [.ref TGB, .ref TGW, .ref TGR])), (TGB, zArr cI 64 tbo), (TGW, zArr cI 64 two), (TGR, zArr cI 6 tro)] H := hP
          have hD : va_D A [(h, .inr (2, [.ref B, .ref G, .ref TB, .ref TG, .ref FR, .ref CH, .int (iI (rc)), .int (iI (sh)), .int (iI (po))])), (B, .inr (0, [.ref C, .int (iI ((n : Nat) : Int))])), (C, zArr cI 36 b), (G, .inr (1, [.ref GB, .ref GW, .ref GR])), (GB, zArr cI 64 bo), (GW, zArr cI 64 wo), (GR, zArr cI 6 ro), (FR, zArr cI 6 fr), (TB, .inr (0, [.ref TC, .int (iI ((n : Nat) : Int))])), (TC, zArr cI 36 (uZ (zRow0 b x r3) (x * 6 + r3) ((0 : Nat) : Int))), (TG, .inr (1, [.ref TGB, .ref TGW, .ref TGR])), (TGB, zArr cI 64 tbo), (TGW, zArr cI 64 two), (TGR, zArr cI 6 tro)] := hD
          exact ih_LZ (r3 + 1) (by omega) (by omega) _ _ hP hD hS _ (lv_sub hl [1, 2, 0] rfl)
    have hP : va_P D vwCl [(h, .inr (2, [.ref B, .ref G, .ref TB, .ref TG, .ref FR, .ref CH, .int (iI (rc)), .int (iI (sh)), .int (iI (po))])), (B, .inr (0, [.ref C, .int (iI ((n : Nat) : Int))])), (C, zArr cI 36 b), (G, .inr (1, [.ref GB, .ref GW, .ref GR])), (GB, zArr cI 64 bo), (GW, zArr cI 64 wo), (GR, zArr cI 6 ro), (FR, zArr cI 6 fr), (TB, .inr (0, [.ref TC, .int (iI ((n : Nat) : Int))])), (TC, zArr cI 36 b), (TG, .inr (1, [.ref TGB, .ref TGW, .ref TGR])), (TGB, zArr cI 64 tbo), (TGW, zArr cI 64 two), (TGR, zArr cI 6 tro)] H := hP
    have hD : va_D A [(h, .inr (2, [.ref B, .ref G, .ref TB, .ref TG, .ref FR, .ref CH, .int (iI (rc)), .int (iI (sh)), .int (iI (po))])), (B, .inr (0, [.ref C, .int (iI ((n : Nat) : Int))])), (C, zArr cI 36 b), (G, .inr (1, [.ref GB, .ref GW, .ref GR])), (GB, zArr cI 64 bo), (GW, zArr cI 64 wo), (GR, zArr cI 6 ro), (FR, zArr cI 6 fr), (TB, .inr (0, [.ref TC, .int (iI ((n : Nat) : Int))])), (TC, zArr cI 36 b), (TG, .inr (1, [.ref TGB, .ref TGW, .ref TGR])), (TGB, zArr cI 64 tbo), (TGW, zArr cI 64 two), (TGR, zArr cI 6 tro)] := hD
    exact LZ ((n - (0)) + 1) (0) (Nat.lt_succ_self _) (by omega) _ _ hP hD hS _ (lv_sub hl [1, 2, 0] rfl)
  · exact absurd (by omega) c1
set_option maxHeartbeats 4000000 in
set_option maxRecDepth 100000 in
/-- X2_needs -/
theorem c_X2_needs (l : Launch) (D : va_G) (cI : ClassId) (h B C G GB GW GR TB TG FR CH n : Nat) (b bo wo ro fr : Nat → Int) (rc sh po : Int) (TC TGB TGW TGR tn : Nat) (tb tbo two tro : Nat → Int) (x y : Nat) (hn : n ≤ 6) (hb0 : ∀ k, 0 ≤ b k ∧ b k ≤ 999) (hrc : 0 ≤ rc ∧ rc ≤ 5999) (hset : zSet n b rc bo wo ro fr sh po) (hx0 : x < n) (hy0 : y < n) : zWi (S := (Nat → Int) × (Nat → Int) × (Nat → Int) × (Nat → Int)) l yX2_needs wsX2_needs 5 118 D cI [.ref h, .int (iI ((x : Nat) : Int)), .int (iI ((y : Nat) : Int))] [(h, .inr (2, [.ref B, .ref G, .ref TB, .ref TG, .ref FR, .ref CH, .int (iI (rc)), .int (iI (sh)), .int (iI (po))])), (B, .inr (0, [.ref C, .int (iI ((n : Nat) : Int))])), (C, zArr cI 36 b), (G, .inr (1, [.ref GB, .ref GW, .ref GR])), (GB, zArr cI 64 bo), (GW, zArr cI 64 wo), (GR, zArr cI 6 ro), (FR, zArr cI 6 fr), (TB, .inr (0, [.ref TC, .int (iI ((tn : Nat) : Int))])), (TC, zArr cI 36 tb), (TG, .inr (1, [.ref TGB, .ref TGW, .ref TGR])), (TGB, zArr cI 64 tbo), (TGW, zArr cI 64 two), (TGR, zArr cI 6 tro)] (fun r _ => ∃ z : Int, r = iI z ∧ zNd n b x y z) (fun u8 => [(h, .inr (2, [.ref B, .ref G, .ref TB, .ref TG, .ref FR, .ref CH, .int (iI (rc)), .int (iI (sh)), .int (iI (po))])), (B, .inr (0, [.ref C, .int (iI ((n : Nat) : Int))])), (C, zArr cI 36 b), (G, .inr (1, [.ref GB, .ref GW, .ref GR])), (GB, zArr cI 64 bo), (GW, zArr cI 64 wo), (GR, zArr cI 6 ro), (FR, zArr cI 6 fr), (TB, .inr (0, [.ref TC, .int (iI ((n : Nat) : Int))])), (TC, zArr cI 36 u8.1), (TG, .inr (1, [.ref TGB, .ref TGW, .ref TGR])), (TGB, zArr cI 64 u8.2.1), (TGW, zArr cI 64 u8.2.2.1), (TGR, zArr cI 6 u8.2.2.2)]) := by
  refine zWi_of (cc := cX2_needs) (maxL := 6) (rt := .int) (by decide) rfl (Nat.le_of_ble_eq_true rfl) ?_
  intro p e s m args below meth c ls A hF hr hlocks hP hK hD hS hl
  have hF : zFix p m c cX2_needs 6 s args wsX2_needs RX2 := hF
  obtain ⟨hx, hb, hml, hown, hts⟩ := id hF
  have hP : va_P D vwCl [(h, .inr (2, [.ref B, .ref G, .ref TB, .ref TG, .ref FR, .ref CH, .int (iI (rc)), .int (iI (sh)), .int (iI (po))])), (B, .inr (0, [.ref C, .int (iI ((n : Nat) : Int))])), (C, zArr cI 36 b), (G, .inr (1, [.ref GB, .ref GW, .ref GR])), (GB, zArr cI 64 bo), (GW, zArr cI 64 wo), (GR, zArr cI 6 ro), (FR, zArr cI 6 fr), (TB, .inr (0, [.ref TC, .int (iI ((tn : Nat) : Int))])), (TC, zArr cI 36 tb), (TG, .inr (1, [.ref TGB, .ref TGW, .ref TGR])), (TGB, zArr cI 64 tbo), (TGW, zArr cI 64 two), (TGR, zArr cI 6 tro)] s.heap := hP
  have hD : va_D A [(h, .inr (2, [.ref B, .ref G, .ref TB, .ref TG, .ref FR, .ref CH, .int (iI (rc)), .int (iI (sh)), .int (iI (po))])), (B, .inr (0, [.ref C, .int (iI ((n : Nat) : Int))])), (C, zArr cI 36 b), (G, .inr (1, [.ref GB, .ref GW, .ref GR])), (GB, zArr cI 64 bo), (GW, zArr cI 64 wo), (GR, zArr cI 6 ro), (FR, zArr cI 6 fr), (TB, .inr (0, [.ref TC, .int (iI ((tn : Nat) : Int))])), (TC, zArr cI 36 tb), (TG, .inr (1, [.ref TGB, .ref TGW, .ref TGR])), (TGB, zArr cI 64 tbo), (TGW, zArr cI 64 two), (TGR, zArr cI 6 tro)] := hD
  skip
  have hl : lv_has ls 6 [(0, .ref h), (1, .int (iI ((x : Nat) : Int))), (2, .int (iI ((y : Nat) : Int)))] := hl
  have hro := zSet_ro hset
  have hgn := zRo_lt (b := b) hn
  have hsh : sh = zSh0 n b rc fr := hset.2.2.1
  refine lv_aload_n hx hb dX2_needs_0 rfl (lv_at hl 0 rfl) ?_
  refine va_get (D := D) (ci := 2) (v := .ref B) (C := RX2) (T := TX2) (N := 9) hx hb hts (by decide +kernel) hown hK hP 0 rfl rfl 0 (by decide) (hts (.fieldLink RX2 10 "RentHarmony" "bids" "LRentHarmony$Bids;") (by decide +kernel)) (fun _ h9 => h9) rfl dX2_needs_1 ?_
  refine lv_iload_n hx hb dX2_needs_4 rfl (lv_at hl 1 rfl) ?_
  refine zc_ri (As := [.int (iI ((x : Nat) : Int))]) (rest := []) hF (c_X0_has l D cI B C n b ((x : Nat) : Int) (by omega) (zB_of (by omega) (by omega))) (cwV 1 hts gX2_needs_X0_has rfl rfl rfl (by decide +kernel) ⟨Nat.le_of_ble_eq_true rfl, Nat.le_of_ble_eq_true rfl⟩) hK hP [1, 2] rfl 0 rfl 0 rfl rfl rfl rfl hl.1 rfl (Nat.le_of_ble_eq_true rfl) dX2_needs_5 ⟨Nat.zero_le _, Nat.zero_le _⟩ ?_
  refine zr_ifB_eq (tgt := 22) hx hb dX2_needs_8 (by decide)  (fun c1 => ?_) (fun c1 => ?_)
  · exact absurd (by omega) c1
  · refine lv_aload_n hx hb dX2_needs_11 rfl (lv_at hl 0 rfl) ?_
    refine va_get (D := D) (ci := 2) (v := .ref B) (C := RX2) (T := TX2) (N := 9) hx hb hts (by decide +kernel) hown hK hP 0 rfl rfl 0 (by decide) (hts (.fieldLink RX2 10 "RentHarmony" "bids" "LRentHarmony$Bids;") (by decide +kernel)) (fun _ h9 => h9) rfl dX2_needs_12 ?_
    refine lv_iload_n hx hb dX2_needs_15 rfl (lv_at hl 2 rfl) ?_
    refine zc_ri (As := [.int (iI ((y : Nat) : Int))]) (rest := []) hF (c_X0_has l D cI B C n b ((y : Nat) : Int) (by omega) (zB_of (by omega) (by omega))) (cwV 1 hts gX2_needs_X0_has rfl rfl rfl (by decide +kernel) ⟨Nat.le_of_ble_eq_true rfl, Nat.le_of_ble_eq_true rfl⟩) hK hP [1, 2] rfl 0 rfl 0 rfl rfl rfl rfl hl.1 rfl (Nat.le_of_ble_eq_true rfl) dX2_needs_16 ⟨Nat.zero_le _, Nat.zero_le _⟩ ?_
    refine zr_ifB_ne (tgt := 32) hx hb dX2_needs_19 (by decide)  (fun c2 => ?_) (fun c2 => ?_)
    · refine lv_aload_n hx hb dX2_needs_32 rfl (lv_at hl 0 rfl) ?_
      refine va_get (D := D) (ci := 2) (v := .ref TB) (C := RX2) (T := TX2) (N := 9) hx hb hts (by decide +kernel) hown hK hP 0 rfl rfl 2 (by decide) (hts (.fieldLink RX2 23 "RentHarmony" "triedBids" "LRentHarmony$Bids;") (by decide +kernel)) (fun _ h9 => h9) rfl dX2_needs_33 ?_
      refine lv_aload_n hx hb dX2_needs_36 rfl (lv_at hl 0 rfl) ?_
      refine va_get (D := D) (ci := 2) (v := .ref B) (C := RX2) (T := TX2) (N := 9) hx hb hts (by decide +kernel) hown hK hP 0 rfl rfl 0 (by decide) (hts (.fieldLink RX2 10 "RentHarmony" "bids" "LRentHarmony$Bids;") (by decide +kernel)) (fun _ h9 => h9) rfl dX2_needs_37 ?_
      refine zc_wv (As := [.ref B]) (rest := []) hF (c_X0_copy l D cI TB TC tn tb B C n b ) (cwV 1 hts gX2_needs_X0_copy rfl rfl rfl (by decide +kernel) ⟨Nat.le_of_ble_eq_true rfl, Nat.le_of_ble_eq_true rfl⟩) hK hP hD hS [8, 9, 1, 2] rfl rfl (fun _ => rfl) 0 rfl 0 rfl rfl rfl rfl hl.1 rfl (Nat.le_of_ble_eq_true rfl) dX2_needs_40 ⟨Nat.zero_le _, Nat.zero_le _⟩ (fun u3 H locs hw hP hD hS => ?_)
      have hP : va_P D vwCl [(h, .inr (2, [.ref B, .ref G, .ref TB, .ref TG, .ref FR, .ref CH, .int (iI (rc)), .int (iI (sh)), .int (iI (po))])), (B, .inr (0, [.ref C, .int (iI ((n : Nat) : Int))])), (C, zArr cI 36 b), (G, .inr (1, [.ref GB, .ref GW, .ref GR])), (GB, zArr cI 64 bo), (GW, zArr cI 64 wo), (GR, zArr cI 6 ro), (FR, zArr cI 6 fr), (TB, .inr (0, [.ref TC, .int (iI ((n : Nat) : Int))])), (TC, zArr cI 36 b), (TG, .inr (1, [.ref TGB, .ref TGW, .ref TGR])), (TGB, zArr cI 64 tbo), (TGW, zArr cI 64 two), (TGR, zArr cI 6 tro)] H := hP
      have hD : va_D A [(h, .inr (2, [.ref B, .ref G, .ref TB, .ref TG, .ref FR, .ref CH, .int (iI (rc)), .int (iI (sh)), .int (iI (po))])), (B, .inr (0, [.ref C, .int (iI ((n : Nat) : Int))])), (C, zArr cI 36 b), (G, .inr (1, [.ref GB, .ref GW, .ref GR])), (GB, zArr cI 64 bo), (GW, zArr cI 64 wo), (GR, zArr cI 6 ro), (FR, zArr cI 6 fr), (TB, .inr (0, [.ref TC, .int (iI ((n : Nat) : Int))])), (TC, zArr cI 36 b), (TG, .inr (1, [.ref TGB, .ref TGW, .ref TGR])), (TGB, zArr cI 64 tbo), (TGW, zArr cI 64 two), (TGR, zArr cI 6 tro)] := hD
      refine zr_ic (n := -1) hx hb dX2_needs_43 ?_
      refine lv_istore_n (lv' := [(3, .int (iI (-1))), (0, .ref h), (1, .int (iI ((x : Nat) : Int))), (2, .int (iI ((y : Nat) : Int)))]) hx hb dX2_needs_44 rfl hl (by decide) rfl (fun ls hl => ?_)
      refine zr_si (n := ((512 : Nat) : Int)) hx hb dX2_needs_45 rfl ?_
      refine lv_istore (lv' := [(4, .int (iI ((512 : Nat) : Int))), (3, .int (iI (-1))), (0, .ref h), (1, .int (iI ((x : Nat) : Int))), (2, .int (iI ((y : Nat) : Int)))]) hx hb dX2_needs_48 hl (by decide) rfl (fun ls hl => ?_)
      have LQ : ∀ (k0 : Nat) (k1 : Nat) (tl : Int) (tb1 : Nat → Int) (tbo1 : Nat → Int) (two1 : Nat → Int) (tro1 : Nat → Int), k1 < k0 → (hk10 : k1 ≤ 10) → (htl : -1 ≤ tl ∧ tl ≤ 999) → (hlo : ∀ c, 0 ≤ c → c ≤ tl → ¬ zGets n b x y c) → (hhi : ∀ c : Int, tl + ((2 ^ k1 : Nat) : Int) ≤ c → c ≤ 999 → zGets n b x y c) → (htb : ∀ v, uZ tb1 (x * 6 + y) v = uZ b (x * 6 + y) v) → (hbt : ∀ k, 0 ≤ tb1 k ∧ tb1 k ≤ 999) → ∀ (H : Heap) (locs : List Loc), va_P D vwCl [(h, .inr (2, [.ref B, .ref G, .ref TB, .ref TG, .ref FR, .ref CH, .int (iI (rc)), .int (iI (sh)), .int (iI (po))])), (B, .inr (0, [.ref C, .int (iI ((n : Nat) : Int))])), (C, zArr cI 36 b), (G, .inr (1, [.ref GB, .ref GW, .ref GR])), (GB, zArr cI 64 bo), (GW, zArr cI 64 wo), (GR, zArr cI 6 ro), (FR, zArr cI 6 fr), (TB, .inr (0, [.ref TC, .int (iI ((n : Nat) : Int))])), (TC, zArr cI 36 tb1), (TG, .inr (1, [.ref TGB, .ref TGW, .ref TGR])), (TGB, zArr cI 64 tbo1), (TGW, zArr cI 64 two1), (TGR, zArr cI 6 tro1)] H → va_D A [(h, .inr (2, [.ref B, .ref G, .ref TB, .ref TG, .ref FR, .ref CH, .int (iI (rc)), .int (iI (sh)), .int (iI (po))])), (B, .inr (0, [.ref C, .int (iI ((n : Nat) : Int))])), (C, zArr cI 36 b), (G, .inr (1, [.ref GB, .ref GW, .ref GR])), (GB, zArr cI 64 bo), (GW, zArr cI 64 wo), (GR, zArr cI 6 ro), (FR, zArr cI 6 fr), (TB, .inr (0, [.ref TC, .int (iI ((n : Nat) : Int))])), (TC, zArr cI 36 tb1), (TG, .inr (1, [.ref TGB, .ref TGW, .ref TGR])), (TGB, zArr cI 64 tbo1), (TGW, zArr cI 64 two1), (TGR, zArr cI 6 tro1)] → va_S A s.heap H locs → ∀ (ls : Array Slot), lv_has ls 6 [(0, .ref h), (1, .int (iI ((x : Nat) : Int))), (2, .int (iI ((y : Nat) : Int))), (3, .int (iI (tl))), (4, .int (iI ((2 ^ k1 / 2 : Nat) : Int)))] → W p l e (zRm 5 118) s m args below meth c H locs 0 0 (MQ below (va_Qi (S := (Nat → Int) × (Nat → Int) × (Nat → Int) × (Nat → Int)) (fun r _ => ∃ z : Int, r = iI z ∧ zNd n b x y z) (fun u9 t9 => va_P D vwCl ((fun u8 => [(h, .inr (2, [.ref B, .ref G, .ref TB, .ref TG, .ref FR, .ref CH, .int (iI (rc)), .int (iI (sh)), .int (iI (po))])), (B, .inr (0, [.ref C, .int (iI ((n : Nat) : Int))])), (C, zArr cI 36 b), (G, .inr (1, [.ref GB, .ref GW, .ref GR])), (GB, zArr cI 64 bo), (GW, zArr cI 64 wo), (GR, zArr cI 6 ro), (FR, zArr cI 6 fr), (TB, .inr (0, [.ref TC, .int (iI ((n : Nat) : Int))])), (TC, zArr cI 36 u8.1), (TG, .inr (1, [.ref TGB, .ref TGW, .ref TGR])), (TGB, zArr cI 64 u8.2.1), (TGW, zArr cI 64 u8.2.2.1), (TGR, zArr cI 6 u8.2.2.2)]) u9) t9.heap) A) args s 0 0 A) (F0 m 50 ls []) := by
        intro k0
        induction k0 with
        | zero => intro k1 tl tb1 tbo1 two1 tro1 hk; exact absurd hk (Nat.not_lt_zero _)
        | succ k0 ih_LQ =>
          intro k1 tl tb1 tbo1 two1 tro1 hk hk10 htl hlo hhi htb hbt H locs hP hD hS ls hl
          refine lv_iload hx hb dX2_needs_50 (lv_at hl 4 rfl) ?_
          have hpk : 2 ^ k1 ≤ 1024 := Nat.pow_le_pow_right (by decide) hk10
          have hpb : 0 ≤ ((2 ^ k1 / 2 : Nat) : Int) := Int.natCast_nonneg _
          refine zr_if_le (tgt := 93) hx hb dX2_needs_52 (by decide) (zB_of (by omega) (by omega)) (fun c5 => ?_) (fun c5 => ?_)
          · have e1 : k1 = 0 := by rcases Nat.eq_zero_or_pos k1 with z | z; exact z; have q2 : 2 ^ 1 ≤ 2 ^ k1 := Nat.pow_le_pow_right (by decide) z; omega
            have hhi : ∀ c : Int, tl + 1 ≤ c → c ≤ 999 → zGets n b x y c := by rw [e1] at hhi; exact hhi
            refine lv_iload_n hx hb dX2_needs_93 rfl (lv_at hl 3 rfl) ?_
            refine zr_si (n := ((999 : Nat) : Int)) hx hb dX2_needs_94 rfl ?_
            refine zr_icmp_lt (tgt := 104) hx hb dX2_needs_97 (by decide) (zB_of (by omega) (by omega)) (zB_of (by omega) (by omega)) (fun c6 => ?_) (fun c6 => ?_)
            · refine lv_iload_n hx hb dX2_needs_104 rfl (lv_at hl 3 rfl) ?_
              refine zr_ic (n := ((1 : Nat) : Int)) hx hb dX2_needs_105 ?_
              refine zr_add hx hb dX2_needs_106 ?_
              exact zWi_ret hx hb hr hlocks hS dX2_needs_107 (tb1, tbo1, two1, tro1) ⟨_, rfl, Or.inl ⟨by omega, by omega, hhi _ (by omega) (by omega), fun c h1 h2 => hlo c h1 (by omega)⟩⟩ hP
            · refine zr_ic (n := -1) hx hb dX2_needs_100 ?_
              refine lv_goto (tgt := 107) hx hb dX2_needs_101 (by decide) ?_
              exact zWi_ret hx hb hr hlocks hS dX2_needs_107 (tb1, tbo1, two1, tro1) ⟨_, rfl, Or.inr ⟨rfl, fun c h1 h2 => hlo c h1 (by omega)⟩⟩ hP
          · have e1 : k1 ≠ 0 := by intro z; rw [z] at c5; exact absurd c5 (by decide)
            obtain ⟨k, rfl⟩ : ∃ k, k1 = k + 1 := ⟨k1 - 1, by omega⟩
            have hp2k : (2 ^ (k + 1) : Nat) = 2 ^ k + 2 ^ k := by rw [Nat.pow_succ]; omega
            have hp1 : 1 ≤ 2 ^ k := Nat.one_le_two_pow
            have hp9 : 2 ^ k ≤ 2 ^ 9 := Nat.pow_le_pow_right (by decide) (by omega)
            have hp9 : 2 ^ k ≤ 512 := hp9
            have hl : lv_has ls 6 [(0, .ref h), (1, .int (iI ((x : Nat) : Int))), (2, .int (iI ((y : Nat) : Int))), (3, .int (iI (tl))), (4, .int (iI ((2 ^ k : Nat) : Int)))] := by rw [show ((2 ^ k : Nat) : Int) = ((2 ^ (k + 1) / 2 : Nat) : Int) from congrArg Nat.cast (zDouble_two k).symm]; exact hl
            refine lv_iload_n hx hb dX2_needs_55 rfl (lv_at hl 3 rfl) ?_
            refine lv_iload hx hb dX2_needs_56 (lv_at hl 4 rfl) ?_
            refine zr_add hx hb dX2_needs_58 ?_
            refine lv_istore (lv' := [(5, .int (iI (tl + ((2 ^ k : Nat) : Int)))), (0, .ref h), (1, .int (iI ((x : Nat) : Int))), (2, .int (iI ((y : Nat) : Int))), (3, .int (iI (tl))), (4, .int (iI ((2 ^ k : Nat) : Int)))]) hx hb dX2_needs_59 hl (by decide) rfl (fun ls hl => ?_)
            refine lv_iload hx hb dX2_needs_61 (lv_at hl 0 rfl) ?_
            refine zr_si (n := ((999 : Nat) : Int)) hx hb dX2_needs_63 rfl ?_
            refine zr_icmp_gt (tgt := 84) hx hb dX2_needs_66 (by decide) (zB_of (by omega) (by omega)) (zB_of (by omega) (by omega)) (fun c7 => ?_) (fun c7 => ?_)
            · refine lv_iload hx hb dX2_needs_84 (lv_at hl 5 rfl) ?_
              refine zr_ic (n := ((2 : Nat) : Int)) hx hb dX2_needs_86 ?_
              refine zr_div hx hb dX2_needs_87 (zB_of (by omega) (by omega)) (zB_of (by omega) (by omega)) (by omega) (by omega) ?_
              refine lv_istore (lv' := [(4, .int (iI (((2 ^ k : Nat) : Int) / ((2 : Nat) : Int)))), (5, .int (iI (tl + ((2 ^ k : Nat) : Int)))), (0, .ref h), (1, .int (iI ((x : Nat) : Int))), (2, .int (iI ((y : Nat) : Int))), (3, .int (iI (tl)))]) hx hb dX2_needs_88 hl (by decide) rfl (fun ls hl => ?_)
              refine lv_goto (tgt := 50) hx hb dX2_needs_90 (by decide) ?_
              have hl : lv_has ls 6 [(4, .int (iI ((2 ^ k / 2 : Nat) : Int))), (5, .int (iI (tl + ((2 ^ k : Nat) : Int)))), (0, .ref h), (1, .int (iI ((x : Nat) : Int))), (2, .int (iI ((y : Nat) : Int))), (3, .int (iI (tl)))] := by rw [show ((2 ^ k / 2 : Nat) : Int) = (((2 ^ k : Nat) : Int) / ((2 : Nat) : Int)) from rfl]; exact hl
              exact ih_LQ (k) (tl) (tb1) (tbo1) (two1) (tro1) (by omega) (by omega) (by omega) hlo (fun c h1 h2 => absurd h2 (by omega)) htb hbt _ _ hP hD hS _ (lv_sub hl [2, 3, 4, 5, 0] rfl)
            · have hbt5 := hbt
              refine lv_aload_n hx hb dX2_needs_69 rfl (lv_at hl 1 rfl) ?_
              refine lv_iload_n hx hb dX2_needs_70 rfl (lv_at hl 2 rfl) ?_
              refine lv_iload_n hx hb dX2_needs_71 rfl (lv_at hl 3 rfl) ?_
              refine lv_iload hx hb dX2_needs_72 (lv_at hl 0 rfl) ?_
              refine zc_wi (As := [.int (iI ((x : Nat) : Int)), .int (iI ((y : Nat) : Int)), .int (iI (tl + ((2 ^ k : Nat) : Int)))]) (rest := []) hF (c_X2_roomTried l D cI h B G TB TC TG TGB TGW TGR FR CH n tb1 tbo1 two1 tro1 rc sh po x y (tl + ((2 ^ k : Nat) : Int)) (by omega) hbt (by omega) (by omega) (by omega)) (cwV 3 hts gX2_needs_X2_roomTried rfl rfl rfl (by decide +kernel) ⟨Nat.le_of_ble_eq_true rfl, Nat.le_of_ble_eq_true rfl⟩) hK hP hD hS [0, 8, 9, 10, 11, 12, 13] rfl rfl (fun _ => rfl) 0 rfl 0 rfl rfl rfl rfl hl.1 rfl (Nat.le_of_ble_eq_true rfl) dX2_needs_74 ⟨Nat.zero_le _, Nat.zero_le _⟩ (fun r9 u8 H locs hw hP hD hS => ?_)
              obtain ⟨bo10, wo10, ro10⟩ := u8
              obtain ⟨hrv10, hgv10⟩ := hw
              subst hrv10
              have hP : va_P D vwCl [(h, .inr (2, [.ref B, .ref G, .ref TB, .ref TG, .ref FR, .ref CH, .int (iI (rc)), .int (iI (sh)), .int (iI (po))])), (B, .inr (0, [.ref C, .int (iI ((n : Nat) : Int))])), (C, zArr cI 36 b), (G, .inr (1, [.ref GB, .ref GW, .ref GR])), (GB, zArr cI 64 bo), (GW, zArr cI 64 wo), (GR, zArr cI 6 ro), (FR, zArr cI 6 fr), (TB, .inr (0, [.ref TC, .int (iI ((n : Nat) : Int))])), (TC, zArr cI 36 (uZ tb1 (x * 6 + y) (tl + ((2 ^ k : Nat) : Int)))), (TG, .inr (1, [.ref TGB, .ref TGW, .ref TGR])), (TGB, zArr cI 64 bo10), (TGW, zArr cI 64 wo10), (TGR, zArr cI 6 ro10)] H := hP
              have hD : va_D A [(h, .inr (2, [.ref B, .ref G, .ref TB, .ref TG, .ref FR, .ref CH, .int (iI (rc)), .int (iI (sh)), .int (iI (po))])), (B, .inr (0, [.ref C, .int (iI ((n : Nat) : Int))])), (C, zArr cI 36 b), (G, .inr (1, [.ref GB, .ref GW, .ref GR])), (GB, zArr cI 64 bo), (GW, zArr cI 64 wo), (GR, zArr cI 6 ro), (FR, zArr cI 6 fr), (TB, .inr (0, [.ref TC, .int (iI ((n : Nat) : Int))])), (TC, zArr cI 36 (uZ tb1 (x * 6 + y) (tl + ((2 ^ k : Nat) : Int)))), (TG, .inr (1, [.ref TGB, .ref TGW, .ref TGR])), (TGB, zArr cI 64 bo10), (TGW, zArr cI 64 wo10), (TGR, zArr cI 6 ro10)] := hD
              refine zr_topi (show ((zRo n (uZ tb1 (x * 6 + y) (tl + ((2 ^ k : Nat) : Int))) x : Nat) : Int) = ((zRo n (uZ b (x * 6 + y) (tl + ((2 ^ k : Nat) : Int))) x : Nat) : Int) from by rw [htb]) ?_
              have hzl := zRo_lt (b := uZ b (x * 6 + y) (tl + ((2 ^ k : Nat) : Int))) hn x hx0
              refine lv_iload_n hx hb dX2_needs_77 rfl (lv_at hl 3 rfl) ?_
              refine zr_icmp_eq (tgt := 84) hx hb dX2_needs_78 (by decide) (zB_of (by omega) (by omega)) (zB_of (by omega) (by omega)) (fun c11 => ?_) (fun c11 => ?_)
              · have hgt : zGets n b x y (tl + ((2 ^ k : Nat) : Int)) := Int.ofNat.inj c11
                refine lv_iload hx hb dX2_needs_84 (lv_at hl 5 rfl) ?_
                refine zr_ic (n := ((2 : Nat) : Int)) hx hb dX2_needs_86 ?_
                refine zr_div hx hb dX2_needs_87 (zB_of (by omega) (by omega)) (zB_of (by omega) (by omega)) (by omega) (by omega) ?_
                refine lv_istore (lv' := [(4, .int (iI (((2 ^ k : Nat) : Int) / ((2 : Nat) : Int)))), (5, .int (iI (tl + ((2 ^ k : Nat) : Int)))), (0, .ref h), (1, .int (iI ((x : Nat) : Int))), (2, .int (iI ((y : Nat) : Int))), (3, .int (iI (tl)))]) hx hb dX2_needs_88 hl (by decide) rfl (fun ls hl => ?_)
                refine lv_goto (tgt := 50) hx hb dX2_needs_90 (by decide) ?_
                have hl : lv_has ls 6 [(4, .int (iI ((2 ^ k / 2 : Nat) : Int))), (5, .int (iI (tl + ((2 ^ k : Nat) : Int)))), (0, .ref h), (1, .int (iI ((x : Nat) : Int))), (2, .int (iI ((y : Nat) : Int))), (3, .int (iI (tl)))] := by rw [show ((2 ^ k / 2 : Nat) : Int) = (((2 ^ k : Nat) : Int) / ((2 : Nat) : Int)) from rfl]; exact hl
                exact ih_LQ (k) (tl) ((uZ tb1 (x * 6 + y) (tl + ((2 ^ k : Nat) : Int)))) (bo10) (wo10) (ro10) (by omega) (by omega) (by omega) hlo (fun c h1 h2 => by by_cases e8 : c = (tl + ((2 ^ k : Nat) : Int)); rw [e8]; exact hgt; exact zGets_mono hn hb0 hx0 hy0 (by omega) (by omega) h2 hgt) (fun v => by rw [uZ_uZ]; exact htb v) (uZ_b hbt _ (by omega)) _ _ hP hD hS _ (lv_sub hl [2, 3, 4, 5, 0] rfl)
              · have hng : ¬ zGets n b x y (tl + ((2 ^ k : Nat) : Int)) := fun q => c11 (congrArg Nat.cast q)
                refine lv_iload hx hb dX2_needs_81 (lv_at hl 0 rfl) ?_
                refine lv_istore_n (lv' := [(3, .int (iI (tl + ((2 ^ k : Nat) : Int)))), (5, .int (iI (tl + ((2 ^ k : Nat) : Int)))), (0, .ref h), (1, .int (iI ((x : Nat) : Int))), (2, .int (iI ((y : Nat) : Int))), (4, .int (iI ((2 ^ k : Nat) : Int)))]) hx hb dX2_needs_83 rfl hl (by decide) rfl (fun ls hl => ?_)
                refine lv_iload hx hb dX2_needs_84 (lv_at hl 5 rfl) ?_
                refine zr_ic (n := ((2 : Nat) : Int)) hx hb dX2_needs_86 ?_
                refine zr_div hx hb dX2_needs_87 (zB_of (by omega) (by omega)) (zB_of (by omega) (by omega)) (by omega) (by omega) ?_
                refine lv_istore (lv' := [(4, .int (iI (((2 ^ k : Nat) : Int) / ((2 : Nat) : Int)))), (3, .int (iI (tl + ((2 ^ k : Nat) : Int)))), (5, .int (iI (tl + ((2 ^ k : Nat) : Int)))), (0, .ref h), (1, .int (iI ((x : Nat) : Int))), (2, .int (iI ((y : Nat) : Int)))]) hx hb dX2_needs_88 hl (by decide) rfl (fun ls hl => ?_)
                refine lv_goto (tgt := 50) hx hb dX2_needs_90 (by decide) ?_
                have hl : lv_has ls 6 [(4, .int (iI ((2 ^ k / 2 : Nat) : Int))), (3, .int (iI (tl + ((2 ^ k : Nat) : Int)))), (5, .int (iI (tl + ((2 ^ k : Nat) : Int)))), (0, .ref h), (1, .int (iI ((x : Nat) : Int))), (2, .int (iI ((y : Nat) : Int)))] := by rw [show ((2 ^ k / 2 : Nat) : Int) = (((2 ^ k : Nat) : Int) / ((2 : Nat) : Int)) from rfl]; exact hl
                exact ih_LQ (k) ((tl + ((2 ^ k : Nat) : Int))) ((uZ tb1 (x * 6 + y) (tl + ((2 ^ k : Nat) : Int)))) (bo10) (wo10) (ro10) (by omega) (by omega) (by omega) (fun c h1 h2 q => by by_cases e8 : c = (tl + ((2 ^ k : Nat) : Int)); rw [e8] at q; exact hng q; exact hng (zGets_mono hn hb0 hx0 hy0 h1 (by omega) (by omega) q)) (fun c h1 h2 => hhi c (by rw [hp2k]; omega) h2) (fun v => by rw [uZ_uZ]; exact htb v) (uZ_b hbt _ (by omega)) _ _ hP hD hS _ (lv_sub hl [3, 4, 5, 1, 0] rfl)
      have hl : lv_has ls 6 [(4, .int (iI ((2 ^ 10 / 2 : Nat) : Int))), (3, .int (iI (-1))), (0, .ref h), (1, .int (iI ((x : Nat) : Int))), (2, .int (iI ((y : Nat) : Int)))] := by rw [show ((2 ^ 10 / 2 : Nat) : Int) = ((512 : Nat) : Int) from rfl]; exact hl
      exact LQ (((10)) + 1) (10) ((-1)) (b) (tbo) (two) (tro) (Nat.lt_succ_self _) (by decide) (by decide) (fun c h1 h2 => absurd h2 (by omega)) (fun c h1 h2 => absurd (show (-1 : Int) + 1024 ≤ c from h1) (by omega)) (fun v => rfl) hb0 _ _ hP hD hS _ (lv_sub hl [2, 3, 4, 1, 0] rfl)
    · exact absurd (by omega) c2
