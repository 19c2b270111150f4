set_option maxHeartbeats 4000000 in
set_option maxRecDepth 100000 in
/-- X2_settleFirstRebates -/
theorem c_X2_settleFirstRebates (l : Launch) (D : va_G) (cI : ClassId) (h B C G GB GW GR TB TG FR CH n : Nat) (b bo wo ro fr : Nat → Int) (rc sh po : Int) (g : Nat → Nat) (U : Nat → Int) (hn : n ≤ 6) (hb0 : ∀ k, 0 ≤ b k ∧ b k ≤ 999) (hro : ∀ j, j < n → ro j = ((g j : Nat) : Int)) (hgn : ∀ j, j < n → g j < n) (hU : zIsB n (zWt b g) U) (hfix : ∀ a c, a < n → c < n → zWt b g a c + U c ≤ U a) (hUb : ∀ a, a < n → 0 ≤ U a ∧ U a ≤ 5994) : zWv (S := (Nat → Int)) l yX2_settleFirstRebates wsX2_settleFirstRebates 4 88 D cI [.ref h] [(h, .inr (2, [.ref B, .ref G, .ref TB, .ref TG, .ref FR, .ref CH, .int (iI (rc)), .int (iI (sh)), .int (iI (po))])), (B, .inr (0, [.ref C, .int (iI ((n : Nat) : Int))])), (C, zArr cI 36 b), (G, .inr (1, [.ref GB, .ref GW, .ref GR])), (GB, zArr cI 64 bo), (GW, zArr cI 64 wo), (GR, zArr cI 6 ro), (FR, zArr cI 6 fr)] (fun u8 => zIsB n (zWt b g) u8) (fun u8 => [(h, .inr (2, [.ref B, .ref G, .ref TB, .ref TG, .ref FR, .ref CH, .int (iI (rc)), .int (iI (sh)), .int (iI (po))])), (B, .inr (0, [.ref C, .int (iI ((n : Nat) : Int))])), (C, zArr cI 36 b), (G, .inr (1, [.ref GB, .ref GW, .ref GR])), (GB, zArr cI 64 bo), (GW, zArr cI 64 wo), (GR, zArr cI 6 ro), (FR, zArr cI 6 u8)]) := by
  refine zWv_of (cc := cX2_settleFirstRebates) (maxL := 4) (by decide) rfl (Nat.le_of_ble_eq_true rfl) ?_
  intro p e s m args below meth c ls A hF hr hlocks hP hK hD hS hl
  have hF : zFix p m c cX2_settleFirstRebates 4 s args wsX2_settleFirstRebates RX2 := hF
  obtain ⟨hx, hb, hml, hown, hts⟩ := id hF
  have hP : va_P D vwCl [(h, .inr (2, [.ref B, .ref G, .ref TB, .ref TG, .ref FR, .ref CH, .int (iI (rc)), .int (iI (sh)), .int (iI (po))])), (B, .inr (0, [.ref C, .int (iI ((n : Nat) : Int))])), (C, zArr cI 36 b), (G, .inr (1, [.ref GB, .ref GW, .ref GR])), (GB, zArr cI 64 bo), (GW, zArr cI 64 wo), (GR, zArr cI 6 ro), (FR, zArr cI 6 fr)] s.heap := hP
  have hD : va_D A [(h, .inr (2, [.ref B, .ref G, .ref TB, .ref TG, .ref FR, .ref CH, .int (iI (rc)), .int (iI (sh)), .int (iI (po))])), (B, .inr (0, [.ref C, .int (iI ((n : Nat) : Int))])), (C, zArr cI 36 b), (G, .inr (1, [.ref GB, .ref GW, .ref GR])), (GB, zArr cI 64 bo), (GW, zArr cI 64 wo), (GR, zArr cI 6 ro), (FR, zArr cI 6 fr)] := hD
  skip
  have hl : lv_has ls 4 [(0, .ref h)] := hl
  refine lv_aload_n hx hb dX2_settleFirstRebates_0 rfl (lv_at hl 0 rfl) ?_
  refine va_get (D := D) (ci := 2) (v := .ref B) (C := RX2) (T := TX2) (N := 9) hx hb hts (by decide +kernel) hown hK hP 0 rfl rfl 0 (by decide) (hts (.fieldLink RX2 10 "RentHarmony" "bids" "LRentHarmony$Bids;") (by decide +kernel)) (fun _ h9 => h9) rfl dX2_settleFirstRebates_1 ?_
  refine zc_ri (As := []) (rest := []) hF (c_X0_size l D cI B C n b ) (cwV 0 hts gX2_settleFirstRebates_X0_size rfl rfl rfl (by decide +kernel) ⟨Nat.le_of_ble_eq_true rfl, Nat.le_of_ble_eq_true rfl⟩) hK hP [1, 2] rfl 0 rfl 0 rfl rfl rfl rfl hl.1 rfl (Nat.le_of_ble_eq_true rfl) dX2_settleFirstRebates_4 ⟨Nat.zero_le _, Nat.zero_le _⟩ ?_
  refine lv_istore_n (lv' := [(1, .int (iI ((n : Nat) : Int))), (0, .ref h)]) hx hb dX2_settleFirstRebates_7 rfl hl (by decide) rfl (fun ls hl => ?_)
  refine zr_ic (n := ((0 : Nat) : Int)) hx hb dX2_settleFirstRebates_8 ?_
  refine lv_istore_n (lv' := [(2, .int (iI ((0 : Nat) : Int))), (1, .int (iI ((n : Nat) : Int))), (0, .ref h)]) hx hb dX2_settleFirstRebates_9 rfl hl (by decide) rfl (fun ls hl => ?_)
  have LZ : ∀ (k0 : Nat) (i : Nat) (fr1 : Nat → Int), n - i < k0 → (hi : i ≤ n) → (hz : ∀ a, a < i → fr1 a = 0) → ∀ (H : Heap) (locs : List Loc), va_P D vwCl [(h, .inr (2, [.ref B, .ref G, .ref TB, .ref TG, .ref FR, .ref CH, .int (iI (rc)), .int (iI (sh)), .int (iI (po))])), (B, .inr (0, [.ref C, .int (iI ((n : Nat) : Int))])), (C, zArr cI 36 b), (G, .inr (1, [.ref GB, .ref GW, .ref GR])), (GB, zArr cI 64 bo), (GW, zArr cI 64 wo), (GR, zArr cI 6 ro), (FR, zArr cI 6 fr1)] H → va_D A [(h, .inr (2, [.ref B, .ref G, .ref TB, .ref TG, .ref FR, .ref CH, .int (iI (rc)), .int (iI (sh)), .int (iI (po))])), (B, .inr (0, [.ref C, .int (iI ((n : Nat) : Int))])), (C, zArr cI 36 b), (G, .inr (1, [.ref GB, .ref GW, .ref GR])), (GB, zArr cI 64 bo), (GW, zArr cI 64 wo), (GR, zArr cI 6 ro), (FR, zArr cI 6 fr1)] → va_S A s.heap H locs → ∀ (ls : Array Slot), lv_has ls 4 [(0, .ref h), (1, .int (iI ((n : Nat) : Int))), (2, .int (iI ((i : Nat) : Int)))] → W p l e (zRm 4 88) s m args below meth c H locs 0 0 (MQ below (va_Qv (S := (Nat → Int)) (fun u8 => zIsB n (zWt b g) u8) (fun u9 t9 => va_P D vwCl ((fun u8 => [(h, .inr (2, [.ref B, .ref G, .ref TB, .ref TG, .ref FR, .ref CH, .int (iI (rc)), .int (iI (sh)), .int (iI (po))])), (B, .inr (0, [.ref C, .int (iI ((n : Nat) : Int))])), (C, zArr cI 36 b), (G, .inr (1, [.ref GB, .ref GW, .ref GR])), (GB, zArr cI 64 bo), (GW, zArr cI 64 wo), (GR, zArr cI 6 ro), (FR, zArr cI 6 u8)]) u9) t9.heap) A) args s 0 0 A) (F0 m 10 ls []) := by
    intro k0
    induction k0 with
    | zero => intro i fr1 hk; exact absurd hk (Nat.not_lt_zero _)
    | succ k0 ih_LZ =>
      intro i fr1 hk hi hz H locs hP hD hS ls hl
      refine lv_iload_n hx hb dX2_settleFirstRebates_10 rfl (lv_at hl 2 rfl) ?_
      refine lv_iload_n hx hb dX2_settleFirstRebates_11 rfl (lv_at hl 1 rfl) ?_
      refine zr_icmp_ge (tgt := 28) hx hb dX2_settleFirstRebates_12 (by decide) (zB_of (by omega) (by omega)) (zB_of (by omega) (by omega)) (fun c1 => ?_) (fun c1 => ?_)
      · refine zr_ic (n := ((1 : Nat) : Int)) hx hb dX2_settleFirstRebates_28 ?_
        refine lv_istore_n (lv' := [(2, .int (iI ((1 : Nat) : Int))), (0, .ref h), (1, .int (iI ((n : Nat) : Int)))]) hx hb dX2_settleFirstRebates_29 rfl hl (by decide) rfl (fun ls hl => ?_)
        have LK : ∀ (k0 : Nat) (k : Nat) (fr2 : Nat → Int), n - k < k0 → (hk1 : 1 ≤ k) → (hk7 : k ≤ 7) → (hI : zInv n (zWt b g) U k 0 fr2) → ∀ (H : Heap) (locs : List Loc), va_P D vwCl [(h, .inr (2, [.ref B, .ref G, .ref TB, .ref TG, .ref FR, .ref CH, .int (iI (rc)), .int (iI (sh)), .int (iI (po))])), (B, .inr (0, [.ref C, .int (iI ((n : Nat) : Int))])), (C, zArr cI 36 b), (G, .inr (1, [.ref GB, .ref GW, .ref GR])), (GB, zArr cI 64 bo), (GW, zArr cI 64 wo), (GR, zArr cI 6 ro), (FR, zArr cI 6 fr2)] H → va_D A [(h, .inr (2, [.ref B, .ref G, .ref TB, .ref TG, .ref FR, .ref CH, .int (iI (rc)), .int (iI (sh)), .int (iI (po))])), (B, .inr (0, [.ref C, .int (iI ((n : Nat) : Int))])), (C, zArr cI 36 b), (G, .inr (1, [.ref GB, .ref GW, .ref GR])), (GB, zArr cI 64 bo), (GW, zArr cI 64 wo), (GR, zArr cI 6 ro), (FR, zArr cI 6 fr2)] → va_S A s.heap H locs → ∀ (ls : Array Slot), lv_has ls 4 [(0, .ref h), (1, .int (iI ((n : Nat) : Int))), (2, .int (iI ((k : Nat) : Int)))] → W p l e (zRm 4 88) s m args below meth c H locs 0 0 (MQ below (va_Qv (S := (Nat → Int)) (fun u8 => zIsB n (zWt b g) u8) (fun u9 t9 => va_P D vwCl ((fun u8 => [(h, .inr (2, [.ref B, .ref G, .ref TB, .ref TG, .ref FR, .ref CH, .int (iI (rc)), .int (iI (sh)), .int (iI (po))])), (B, .inr (0, [.ref C, .int (iI ((n : Nat) : Int))])), (C, zArr cI 36 b), (G, .inr (1, [.ref GB, .ref GW, .ref GR])), (GB, zArr cI 64 bo), (GW, zArr cI 64 wo), (GR, zArr cI 6 ro), (FR, zArr cI 6 u8)]) u9) t9.heap) A) args s 0 0 A) (F0 m 30 ls []) := by
          intro k0
          induction k0 with
          | zero => intro k fr2 hk; exact absurd hk (Nat.not_lt_zero _)
          | succ k0 ih_LK =>
            intro k fr2 hk hk1 hk7 hI H locs hP hD hS ls hl
            refine lv_iload_n hx hb dX2_settleFirstRebates_30 rfl (lv_at hl 2 rfl) ?_
            refine lv_iload_n hx hb dX2_settleFirstRebates_31 rfl (lv_at hl 1 rfl) ?_
            refine zr_icmp_ge (tgt := 65) hx hb dX2_settleFirstRebates_32 (by decide) (zB_of (by omega) (by omega)) (zB_of (by omega) (by omega)) (fun c2 => ?_) (fun c2 => ?_)
            · exact zWv_ret hx hb hr hlocks hS dX2_settleFirstRebates_65 fr2 (zInv_end hU (by omega) hI) hP
            · refine zr_ic (n := ((0 : Nat) : Int)) hx hb dX2_settleFirstRebates_35 ?_
              refine lv_istore_n (lv' := [(3, .int (iI ((0 : Nat) : Int))), (0, .ref h), (1, .int (iI ((n : Nat) : Int))), (2, .int (iI ((k : Nat) : Int)))]) hx hb dX2_settleFirstRebates_36 rfl hl (by decide) rfl (fun ls hl => ?_)
              have LM : ∀ (k0 : Nat) (m1 : Nat) (fr3 : Nat → Int), n - m1 < k0 → (hm : m1 ≤ n) → (hI3 : zInv n (zWt b g) U k m1 fr3) → ∀ (H : Heap) (locs : List Loc), va_P D vwCl [(h, .inr (2, [.ref B, .ref G, .ref TB, .ref TG, .ref FR, .ref CH, .int (iI (rc)), .int (iI (sh)), .int (iI (po))])), (B, .inr (0, [.ref C, .int (iI ((n : Nat) : Int))])), (C, zArr cI 36 b), (G, .inr (1, [.ref GB, .ref GW, .ref GR])), (GB, zArr cI 64 bo), (GW, zArr cI 64 wo), (GR, zArr cI 6 ro), (FR, zArr cI 6 fr3)] H → va_D A [(h, .inr (2, [.ref B, .ref G, .ref TB, .ref TG, .ref FR, .ref CH, .int (iI (rc)), .int (iI (sh)), .int (iI (po))])), (B, .inr (0, [.ref C, .int (iI ((n : Nat) : Int))])), (C, zArr cI 36 b), (G, .inr (1, [.ref GB, .ref GW, .ref GR])), (GB, zArr cI 64 bo), (GW, zArr cI 64 wo), (GR, zArr cI 6 ro), (FR, zArr cI 6 fr3)] → va_S A s.heap H locs → ∀ (ls : Array Slot), lv_has ls 4 [(0, .ref h), (1, .int (iI ((n : Nat) : Int))), (2, .int (iI ((k : Nat) : Int))), (3, .int (iI ((m1 : Nat) : Int)))] → W p l e (zRm 4 88) s m args below meth c H locs 0 0 (MQ below (va_Qv (S := (Nat → Int)) (fun u8 => zIsB n (zWt b g) u8) (fun u9 t9 => va_P D vwCl ((fun u8 => [(h, .inr (2, [.ref B, .ref G, .ref TB, .ref TG, .ref FR, .ref CH, .int (iI (rc)), .int (iI (sh)), .int (iI (po))])), (B, .inr (0, [.ref C, .int (iI ((n : Nat) : Int))])), (C, zArr cI 36 b), (G, .inr (1, [.ref GB, .ref GW, .ref GR])), (GB, zArr cI 64 bo), (GW, zArr cI 64 wo), (GR, zArr cI 6 ro), (FR, zArr cI 6 u8)]) u9) t9.heap) A) args s 0 0 A) (F0 m 37 ls []) := by
                intro k0
                induction k0 with
                | zero => intro m1 fr3 hk; exact absurd hk (Nat.not_lt_zero _)
                | succ k0 ih_LM =>
                  intro m1 fr3 hk hm hI3 H locs hP hD hS ls hl
                  refine lv_iload_n hx hb dX2_settleFirstRebates_37 rfl (lv_at hl 3 rfl) ?_
                  refine lv_iload_n hx hb dX2_settleFirstRebates_38 rfl (lv_at hl 1 rfl) ?_
                  refine zr_icmp_ge (tgt := 59) hx hb dX2_settleFirstRebates_39 (by decide) (zB_of (by omega) (by omega)) (zB_of (by omega) (by omega)) (fun c3 => ?_) (fun c3 => ?_)
                  · refine zr_iinc (lv2 := [(2, .int (iI (((k : Nat) : Int) + 1))), (0, .ref h), (1, .int (iI ((n : Nat) : Int))), (3, .int (iI ((m1 : Nat) : Int)))]) hx hb dX2_settleFirstRebates_59 hl (k0 := 2) rfl (by decide) rfl (fun ls hl => ?_)
                    have hl : lv_has ls 4 [(2, .int (iI ((k + 1 : Nat) : Int))), (0, .ref h), (1, .int (iI ((n : Nat) : Int))), (3, .int (iI ((m1 : Nat) : Int)))] := hl
                    refine lv_goto (tgt := 30) hx hb dX2_settleFirstRebates_62 (by decide) ?_
                    exact ih_LK (k + 1) (fr3) (by omega) (by omega) (by omega) (zInv_round (by omega) hI3) _ _ hP hD hS _ (lv_sub hl [1, 2, 0] rfl)
                  · refine lv_aload_n hx hb dX2_settleFirstRebates_42 rfl (lv_at hl 0 rfl) ?_
                    refine va_get (D := D) (ci := 2) (v := .ref FR) (C := RX2) (T := TX2) (N := 9) hx hb hts (by decide +kernel) hown hK hP 0 rfl rfl 4 (by decide) (hts (.fieldLink RX2 29 "RentHarmony" "firstRebates" "[I") (by decide +kernel)) (fun _ h9 => h9) rfl dX2_settleFirstRebates_43 ?_
                    refine lv_iload_n hx hb dX2_settleFirstRebates_46 rfl (lv_at hl 3 rfl) ?_
                    have hfr : ∀ j, j < n → 0 ≤ fr3 j ∧ fr3 j ≤ 5994 := fun j hj => by have q1 := hI3.1 j hj; have q2 := hUb j hj; omega
                    refine lv_aload_n hx hb dX2_settleFirstRebates_47 rfl (lv_at hl 0 rfl) ?_
                    refine lv_iload_n hx hb dX2_settleFirstRebates_48 rfl (lv_at hl 3 rfl) ?_
                    refine zc_ri (As := [.int (iI ((m1 : Nat) : Int))]) (rest := [.int (iI ((m1 : Nat) : Int)), .ref FR]) hF (c_X2_bestOfAllRooms l D cI h B C G GB GW GR TB TG FR CH n b bo wo ro fr3 rc sh po g m1 (by omega) (by assumption) (by assumption) (by assumption) (by omega) (by assumption)) (cwV 1 hts gX2_settleFirstRebates_X2_bestOfAllRooms rfl rfl rfl (by decide +kernel) ⟨Nat.le_of_ble_eq_true rfl, Nat.le_of_ble_eq_true rfl⟩) hK hP [0, 1, 2, 3, 4, 5, 6, 7] rfl 0 rfl 0 rfl rfl rfl rfl hl.1 rfl (Nat.le_of_ble_eq_true rfl) dX2_settleFirstRebates_49 ⟨Nat.zero_le _, Nat.zero_le _⟩ ?_
                    refine zr_iast hx hb hK hP hD hS 7 0 rfl rfl (m1) (by omega) (by omega) (by omega) dX2_settleFirstRebates_52 (fun H locs hP hD hS => ?_)
                    have hP : va_P D vwCl [(h, .inr (2, [.ref B, .ref G, .ref TB, .ref TG, .ref FR, .ref CH, .int (iI (rc)), .int (iI (sh)), .int (iI (po))])), (B, .inr (0, [.ref C, .int (iI ((n : Nat) : Int))])), (C, zArr cI 36 b), (G, .inr (1, [.ref GB, .ref GW, .ref GR])), (GB, zArr cI 64 bo), (GW, zArr cI 64 wo), (GR, zArr cI 6 ro), (FR, zArr cI 6 (uZ fr3 (m1) (zBor (zWt b g) fr3 m1 n)))] H := hP
                    have hD : va_D A [(h, .inr (2, [.ref B, .ref G, .ref TB, .ref TG, .ref FR, .ref CH, .int (iI (rc)), .int (iI (sh)), .int (iI (po))])), (B, .inr (0, [.ref C, .int (iI ((n : Nat) : Int))])), (C, zArr cI 36 b), (G, .inr (1, [.ref GB, .ref GW, .ref GR])), (GB, zArr cI 64 bo), (GW, zArr cI 64 wo), (GR, zArr cI 6 ro), (FR, zArr cI 6 (uZ fr3 (m1) (zBor (zWt b g) fr3 m1 n)))] := hD
                    refine zr_iinc (lv2 := [(3, .int (iI (((m1 : Nat) : Int) + 1))), (0, .ref h), (1, .int (iI ((n : Nat) : Int))), (2, .int (iI ((k : Nat) : Int)))]) hx hb dX2_settleFirstRebates_53 hl (k0 := 3) rfl (by decide) rfl (fun ls hl => ?_)
                    have hl : lv_has ls 4 [(3, .int (iI ((m1 + 1 : Nat) : Int))), (0, .ref h), (1, .int (iI ((n : Nat) : Int))), (2, .int (iI ((k : Nat) : Int)))] := hl
                    refine lv_goto (tgt := 37) hx hb dX2_settleFirstRebates_56 (by decide) ?_
                    exact ih_LM (m1 + 1) ((uZ fr3 (m1) (zBor (zWt b g) fr3 m1 n))) (by omega) (by omega) (zInv_step hfix hk1 (by omega) hI3) _ _ hP hD hS _ (lv_sub hl [1, 2, 3, 0] rfl)
              exact LM ((n - (0)) + 1) (0) (fr2) (Nat.lt_succ_self _) (Nat.zero_le _) hI _ _ hP hD hS _ (lv_sub hl [1, 2, 3, 0] rfl)
        exact LK ((n - (1)) + 1) (1) (fr1) (Nat.lt_succ_self _) (Nat.le_refl _) (by decide) (zInv_start (fun a ha => (hUb a ha).1) (fun a ha => hz a (by omega))) _ _ hP hD hS _ (lv_sub hl [1, 2, 0] rfl)
      · refine lv_aload_n hx hb dX2_settleFirstRebates_15 rfl (lv_at hl 0 rfl) ?_
        refine va_get (D := D) (ci := 2) (v := .ref FR) (C := RX2) (T := TX2) (N := 9) hx hb hts (by decide +kernel) hown hK hP 0 rfl rfl 4 (by decide) (hts (.fieldLink RX2 29 "RentHarmony" "firstRebates" "[I") (by decide +kernel)) (fun _ h9 => h9) rfl dX2_settleFirstRebates_16 ?_
        refine lv_iload_n hx hb dX2_settleFirstRebates_19 rfl (lv_at hl 2 rfl) ?_
        refine zr_ic (n := ((0 : Nat) : Int)) hx hb dX2_settleFirstRebates_20 ?_
        refine zr_iast hx hb hK hP hD hS 7 0 rfl rfl (i) (by omega) (by omega) (by omega) dX2_settleFirstRebates_21 (fun H locs hP hD hS => ?_)
        have hP : va_P D vwCl [(h, .inr (2, [.ref B, .ref G, .ref TB, .ref TG, .ref FR, .ref CH, .int (iI (rc)), .int (iI (sh)), .int (iI (po))])), (B, .inr (0, [.ref C, .int (iI ((n : Nat) : Int))])), (C, zArr cI 36 b), (G, .inr (1, [.ref GB, .ref GW, .ref GR])), (GB, zArr cI 64 bo), (GW, zArr cI 64 wo), (GR, zArr cI 6 ro), (FR, zArr cI 6 (uZ fr1 (i) ((0 : Nat) : Int)))] H := hP
        have hD : va_D A [(h, .inr (2, [.ref B, .ref G, .ref TB, .ref TG, .ref FR, .ref CH, .int (iI (rc)), .int (iI (sh)), .int (iI (po))])), (B, .inr (0, [.ref C, .int (iI ((n : Nat) : Int))])), (C, zArr cI 36 b), (G, .inr (1, [.ref GB, .ref GW, .ref GR])), (GB, zArr cI 64 bo), (GW, zArr cI 64 wo), (GR, zArr cI 6 ro), (FR, zArr cI 6 (uZ fr1 (i) ((0 : Nat) : Int)))] := hD
        refine zr_iinc (lv2 := [(2, .int (iI (((i : Nat) : Int) + 1))), (0, .ref h), (1, .int (iI ((n : Nat) : Int)))]) hx hb dX2_settleFirstRebates_22 hl (k0 := 2) rfl (by decide) rfl (fun ls hl => ?_)
        have hl : lv_has ls 4 [(2, .int (iI ((i + 1 : Nat) : Int))), (0, .ref h), (1, .int (iI ((n : Nat) : Int)))] := hl
        refine lv_goto (tgt := 10) hx hb dX2_settleFirstRebates_25 (by decide) ?_
        exact ih_LZ (i + 1) ((uZ fr1 (i) ((0 : Nat) : Int))) (by omega) (by omega) (fun a ha => by by_cases e8 : a = i; rw [e8, uZ_s]; rfl; rw [uZ_n _ _ e8]; exact hz a (by omega)) _ _ hP hD hS _ (lv_sub hl [1, 2, 0] rfl)
  exact LZ ((n - (0)) + 1) (0) (fr) (Nat.lt_succ_self _) (Nat.zero_le _) (fun a ha => absurd ha (Nat.not_lt_zero _)) _ _ hP hD hS _ (lv_sub hl [2, 1, 0] rfl)
set_option maxHeartbeats 4000000 in
set_option maxRecDepth 100000 in
/-- X2_settleLeftOver -/
theorem c_X2_settleLeftOver (l : Launch) (D : va_G) (cI : ClassId) (h B C G GB GW GR TB TG FR CH n : Nat) (b bo wo ro fr : Nat → Int) (rc sh po : Int) (g : Nat → Nat) (hn : n ≤ 6) (hb0 : ∀ k, 0 ≤ b k ∧ b k ≤ 999) (hro : ∀ j, j < n → ro j = ((g j : Nat) : Int)) (hgn : ∀ j, j < n → g j < n) (hwo : 0 ≤ bo 0 ∧ bo 0 ≤ 6000) (hrc : 0 ≤ rc ∧ rc ≤ 5999) (hfr : ∀ j, j < n → 0 ≤ fr j ∧ fr j ≤ 5994) : zWv (S := Unit) l yX2_settleLeftOver wsX2_settleLeftOver 2 42 D cI [.ref h] [(h, .inr (2, [.ref B, .ref G, .ref TB, .ref TG, .ref FR, .ref CH, .int (iI (rc)), .int (iI (sh)), .int (iI (po))])), (B, .inr (0, [.ref C, .int (iI ((n : Nat) : Int))])), (C, zArr cI 36 b), (G, .inr (1, [.ref GB, .ref GW, .ref GR])), (GB, zArr cI 64 bo), (GW, zArr cI 64 wo), (GR, zArr cI 6 ro), (FR, zArr cI 6 fr)] (fun _ => True) (fun _ => [(h, .inr (2, [.ref B, .ref G, .ref TB, .ref TG, .ref FR, .ref CH, .int (iI (rc)), .int (iI (zShare n (zLeft (bo 0) rc fr n))), .int (iI (zPot n (zLeft (bo 0) rc fr n)))])), (B, .inr (0, [.ref C, .int (iI ((n : Nat) : Int))])), (C, zArr cI 36 b), (G, .inr (1, [.ref GB, .ref GW, .ref GR])), (GB, zArr cI 64 bo), (GW, zArr cI 64 wo), (GR, zArr cI 6 ro), (FR, zArr cI 6 fr)]) := by
  refine zWv_of (cc := cX2_settleLeftOver) (maxL := 3) (by decide) rfl (Nat.le_of_ble_eq_true rfl) ?_
  intro p e s m args below meth c ls A hF hr hlocks hP hK hD hS hl
  have hF : zFix p m c cX2_settleLeftOver 3 s args wsX2_settleLeftOver RX2 := hF
  obtain ⟨hx, hb, hml, hown, hts⟩ := id hF
  have hP : va_P D vwCl [(h, .inr (2, [.ref B, .ref G, .ref TB, .ref TG, .ref FR, .ref CH, .int (iI (rc)), .int (iI (sh)), .int (iI (po))])), (B, .inr (0, [.ref C, .int (iI ((n : Nat) : Int))])), (C, zArr cI 36 b), (G, .inr (1, [.ref GB, .ref GW, .ref GR])), (GB, zArr cI 64 bo), (GW, zArr cI 64 wo), (GR, zArr cI 6 ro), (FR, zArr cI 6 fr)] s.heap := hP
  have hD : va_D A [(h, .inr (2, [.ref B, .ref G, .ref TB, .ref TG, .ref FR, .ref CH, .int (iI (rc)), .int (iI (sh)), .int (iI (po))])), (B, .inr (0, [.ref C, .int (iI ((n : Nat) : Int))])), (C, zArr cI 36 b), (G, .inr (1, [.ref GB, .ref GW, .ref GR])), (GB, zArr cI 64 bo), (GW, zArr cI 64 wo), (GR, zArr cI 6 ro), (FR, zArr cI 6 fr)] := hD
  skip
  have hl : lv_has ls 3 [(0, .ref h)] := hl
  have hsb := zSum_b (M := 5994) n hfr
  have hlb : -100000 ≤ zLeft (bo 0) rc fr n ∧ zLeft (bo 0) rc fr n ≤ 100000 := by unfold zLeft; omega
  refine lv_aload_n hx hb dX2_settleLeftOver_0 rfl (lv_at hl 0 rfl) ?_
  refine va_get (D := D) (ci := 2) (v := .ref B) (C := RX2) (T := TX2) (N := 9) hx hb hts (by decide +kernel) hown hK hP 0 rfl rfl 0 (by decide) (hts (.fieldLink RX2 10 "RentHarmony" "bids" "LRentHarmony$Bids;") (by decide +kernel)) (fun _ h9 => h9) rfl dX2_settleLeftOver_1 ?_
  refine zc_ri (As := []) (rest := []) hF (c_X0_size l D cI B C n b ) (cwV 0 hts gX2_settleLeftOver_X0_size rfl rfl rfl (by decide +kernel) ⟨Nat.le_of_ble_eq_true rfl, Nat.le_of_ble_eq_true rfl⟩) hK hP [1, 2] rfl 0 rfl 0 rfl rfl rfl rfl hl.1 rfl (Nat.le_of_ble_eq_true rfl) dX2_settleLeftOver_4 ⟨Nat.zero_le _, Nat.zero_le _⟩ ?_
  refine lv_istore_n (lv' := [(1, .int (iI ((n : Nat) : Int))), (0, .ref h)]) hx hb dX2_settleLeftOver_7 rfl hl (by decide) rfl (fun ls hl => ?_)
  refine lv_aload_n hx hb dX2_settleLeftOver_8 rfl (lv_at hl 1 rfl) ?_
  refine va_get (D := D) (ci := 2) (v := .ref G) (C := RX2) (T := TX2) (N := 9) hx hb hts (by decide +kernel) hown hK hP 0 rfl rfl 1 (by decide) (hts (.fieldLink RX2 19 "RentHarmony" "giving" "LRentHarmony$Giving;") (by decide +kernel)) (fun _ h9 => h9) rfl dX2_settleLeftOver_9 ?_
  refine zc_ri (As := []) (rest := []) hF (c_X1_worth l D cI G GB GW GR bo wo ro ) (cwV 0 hts gX2_settleLeftOver_X1_worth rfl rfl rfl (by decide +kernel) ⟨Nat.le_of_ble_eq_true rfl, Nat.le_of_ble_eq_true rfl⟩) hK hP [3, 4, 5, 6] rfl 0 rfl 0 rfl rfl rfl rfl hl.1 rfl (Nat.le_of_ble_eq_true rfl) dX2_settleLeftOver_12 ⟨Nat.zero_le _, Nat.zero_le _⟩ ?_
  refine lv_aload_n hx hb dX2_settleLeftOver_15 rfl (lv_at hl 1 rfl) ?_
  refine va_get (D := D) (ci := 2) (v := .int (iI (rc))) (C := RX2) (T := TX2) (N := 9) hx hb hts (by decide +kernel) hown hK hP 0 rfl rfl 6 (by decide) (hts (.fieldLink RX2 36 "RentHarmony" "rentCoins" "I") (by decide +kernel)) (fun _ h9 => h9) rfl dX2_settleLeftOver_16 ?_
  refine zr_sub hx hb dX2_settleLeftOver_19 ?_
  refine lv_aload_n hx hb dX2_settleLeftOver_20 rfl (lv_at hl 1 rfl) ?_
  refine zc_ri (As := []) (rest := [.int (iI ((bo 0) - rc))]) hF (c_X2_allFirstRebates l D cI h B C G GB GW GR TB TG FR CH n b bo wo ro fr rc sh po g (by omega) (by assumption) (by assumption) (by assumption)) (cwV 0 hts gX2_settleLeftOver_X2_allFirstRebates rfl rfl rfl (by decide +kernel) ⟨Nat.le_of_ble_eq_true rfl, Nat.le_of_ble_eq_true rfl⟩) hK hP [0, 1, 2, 3, 4, 5, 6, 7] rfl 0 rfl 0 rfl rfl rfl rfl hl.1 rfl (Nat.le_of_ble_eq_true rfl) dX2_settleLeftOver_21 ⟨Nat.zero_le _, Nat.zero_le _⟩ ?_
  refine zr_sub hx hb dX2_settleLeftOver_24 ?_
  refine zr_topi (show (((bo 0) - rc) - (zSum fr n)) = (zLeft (bo 0) rc fr n) from rfl) ?_
  refine lv_istore_n (lv' := [(2, .int (iI (zLeft (bo 0) rc fr n))), (1, .int (iI ((n : Nat) : Int))), (0, .ref h)]) hx hb dX2_settleLeftOver_25 rfl hl (by decide) rfl (fun ls hl => ?_)
  refine lv_aload_n hx hb dX2_settleLeftOver_26 rfl (lv_at hl 2 rfl) ?_
  refine lv_iload_n hx hb dX2_settleLeftOver_27 rfl (lv_at hl 0 rfl) ?_
  refine zr_if_le (tgt := 41) hx hb dX2_settleLeftOver_28 (by decide) (zB_of (by omega) (by omega)) (fun c1 => ?_) (fun c1 => ?_)
  · refine zr_ic (n := ((0 : Nat) : Int)) hx hb dX2_settleLeftOver_41 ?_
    refine zr_topi (show ((0 : Nat) : Int) = (zShare n (zLeft (bo 0) rc fr n)) from by unfold zShare; split <;> omega) ?_
    refine va_put (D := D) (ci := 2) (v := .int (iI (zShare n (zLeft (bo 0) rc fr n)))) (ty := .int) (C := RX2) (T := TX2) (N := 9) hx hb hts (by decide +kernel) tyX2 tyX2_ok nmX2 hown hK hP hD hS 0 rfl rfl 7 (by decide) (hts (.fieldLink RX2 40 "RentHarmony" "share" "I") (by decide +kernel)) (fun _ h9 => h9) rfl (by decide +kernel) rfl rfl (Nat.le_of_ble_eq_true rfl) dX2_settleLeftOver_42 (fun H locs hP hD hS => ?_)
    have hP : va_P D vwCl [(h, .inr (2, [.ref B, .ref G, .ref TB, .ref TG, .ref FR, .ref CH, .int (iI (rc)), .int (iI (zShare n (zLeft (bo 0) rc fr n))), .int (iI (po))])), (B, .inr (0, [.ref C, .int (iI ((n : Nat) : Int))])), (C, zArr cI 36 b), (G, .inr (1, [.ref GB, .ref GW, .ref GR])), (GB, zArr cI 64 bo), (GW, zArr cI 64 wo), (GR, zArr cI 6 ro), (FR, zArr cI 6 fr)] H := hP
    have hD : va_D A [(h, .inr (2, [.ref B, .ref G, .ref TB, .ref TG, .ref FR, .ref CH, .int (iI (rc)), .int (iI (zShare n (zLeft (bo 0) rc fr n))), .int (iI (po))])), (B, .inr (0, [.ref C, .int (iI ((n : Nat) : Int))])), (C, zArr cI 36 b), (G, .inr (1, [.ref GB, .ref GW, .ref GR])), (GB, zArr cI 64 bo), (GW, zArr cI 64 wo), (GR, zArr cI 6 ro), (FR, zArr cI 6 fr)] := hD
    refine lv_aload_n hx hb dX2_settleLeftOver_45 rfl (lv_at hl 2 rfl) ?_
    refine lv_iload_n hx hb dX2_settleLeftOver_46 rfl (lv_at hl 0 rfl) ?_
    refine lv_aload_n hx hb dX2_settleLeftOver_47 rfl (lv_at hl 2 rfl) ?_
    refine va_get (D := D) (ci := 2) (v := .int (iI (zShare n (zLeft (bo 0) rc fr n)))) (C := RX2) (T := TX2) (N := 9) hx hb hts (by decide +kernel) hown hK hP 0 rfl rfl 7 (by decide) (hts (.fieldLink RX2 40 "RentHarmony" "share" "I") (by decide +kernel)) (fun _ h9 => h9) rfl dX2_settleLeftOver_48 ?_
    refine lv_iload_n hx hb dX2_settleLeftOver_51 rfl (lv_at hl 1 rfl) ?_
    refine zr_mul hx hb dX2_settleLeftOver_52 ?_
    refine zr_sub hx hb dX2_settleLeftOver_53 ?_
    refine zr_topi (show ((zLeft (bo 0) rc fr n) - ((zShare n (zLeft (bo 0) rc fr n)) * ((n : Nat) : Int))) = (zPot n (zLeft (bo 0) rc fr n)) from rfl) ?_
    refine va_put (D := D) (ci := 2) (v := .int (iI (zPot n (zLeft (bo 0) rc fr n)))) (ty := .int) (C := RX2) (T := TX2) (N := 9) hx hb hts (by decide +kernel) tyX2 tyX2_ok nmX2 hown hK hP hD hS 0 rfl rfl 8 (by decide) (hts (.fieldLink RX2 43 "RentHarmony" "pot" "I") (by decide +kernel)) (fun _ h9 => h9) rfl (by decide +kernel) rfl rfl (Nat.le_of_ble_eq_true rfl) dX2_settleLeftOver_54 (fun H locs hP hD hS => ?_)
    have hP : va_P D vwCl [(h, .inr (2, [.ref B, .ref G, .ref TB, .ref TG, .ref FR, .ref CH, .int (iI (rc)), .int (iI (zShare n (zLeft (bo 0) rc fr n))), .int (iI (zPot n (zLeft (bo 0) rc fr n)))])), (B, .inr (0, [.ref C, .int (iI ((n : Nat) : Int))])), (C, zArr cI 36 b), (G, .inr (1, [.ref GB, .ref GW, .ref GR])), (GB, zArr cI 64 bo), (GW, zArr cI 64 wo), (GR, zArr cI 6 ro), (FR, zArr cI 6 fr)] H := hP
    have hD : va_D A [(h, .inr (2, [.ref B, .ref G, .ref TB, .ref TG, .ref FR, .ref CH, .int (iI (rc)), .int (iI (zShare n (zLeft (bo 0) rc fr n))), .int (iI (zPot n (zLeft (bo 0) rc fr n)))])), (B, .inr (0, [.ref C, .int (iI ((n : Nat) : Int))])), (C, zArr cI 36 b), (G, .inr (1, [.ref GB, .ref GW, .ref GR])), (GB, zArr cI 64 bo), (GW, zArr cI 64 wo), (GR, zArr cI 6 ro), (FR, zArr cI 6 fr)] := hD
    exact zWv_ret hx hb hr hlocks hS dX2_settleLeftOver_57 () trivial hP
  · refine lv_iload_n hx hb dX2_settleLeftOver_31 rfl (lv_at hl 1 rfl) ?_
    refine zr_if_le (tgt := 41) hx hb dX2_settleLeftOver_32 (by decide) (zB_of (by omega) (by omega)) (fun c2 => ?_) (fun c2 => ?_)
    · refine zr_ic (n := ((0 : Nat) : Int)) hx hb dX2_settleLeftOver_41 ?_
      refine zr_topi (show ((0 : Nat) : Int) = (zShare n (zLeft (bo 0) rc fr n)) from by unfold zShare; split <;> omega) ?_
      refine va_put (D := D) (ci := 2) (v := .int (iI (zShare n (zLeft (bo 0) rc fr n)))) (ty := .int) (C := RX2) (T := TX2) (N := 9) hx hb hts (by decide +kernel) tyX2 tyX2_ok nmX2 hown hK hP hD hS 0 rfl rfl 7 (by decide) (hts (.fieldLink RX2 40 "RentHarmony" "share" "I") (by decide +kernel)) (fun _ h9 => h9) rfl (by decide +kernel) rfl rfl (Nat.le_of_ble_eq_true rfl) dX2_settleLeftOver_42 (fun H locs hP hD hS => ?_)
      have hP : va_P D vwCl [(h, .inr (2, [.ref B, .ref G, .ref TB, .ref TG, .ref FR, .ref CH, .int (iI (rc)), .int (iI (zShare n (zLeft (bo 0) rc fr n))), .int (iI (po))])), (B, .inr (0, [.ref C, .int (iI ((n : Nat) : Int))])), (C, zArr cI 36 b), (G, .inr (1, [.ref GB, .ref GW, .ref GR])), (GB, zArr cI 64 bo), (GW, zArr cI 64 wo), (GR, zArr cI 6 ro), (FR, zArr cI 6 fr)] H := hP
      have hD : va_D A [(h, .inr (2, [.ref B, .ref G, .ref TB, .ref TG, .ref FR, .ref CH, .int (iI (rc)), .int (iI (zShare n (zLeft (bo 0) rc fr n))), .int (iI (po))])), (B, .inr (0, [.ref C, .int (iI ((n : Nat) : Int))])), (C, zArr cI 36 b), (G, .inr (1, [.ref GB, .ref GW, .ref GR])), (GB, zArr cI 64 bo), (GW, zArr cI 64 wo), (GR, zArr cI 6 ro), (FR, zArr cI 6 fr)] := hD
      refine lv_aload_n hx hb dX2_settleLeftOver_45 rfl (lv_at hl 2 rfl) ?_
      refine lv_iload_n hx hb dX2_settleLeftOver_46 rfl (lv_at hl 0 rfl) ?_
      refine lv_aload_n hx hb dX2_settleLeftOver_47 rfl (lv_at hl 2 rfl) ?_
      refine va_get (D := D) (ci := 2) (v := .int (iI (zShare n (zLeft (bo 0) rc fr n)))) (C := RX2) (T := TX2) (N := 9) hx hb hts (by decide +kernel) hown hK hP 0 rfl rfl 7 (by decide) (hts (.fieldLink RX2 40 "RentHarmony" "share" "I") (by decide +kernel)) (fun _ h9 => h9) rfl dX2_settleLeftOver_48 ?_
      refine lv_iload_n hx hb dX2_settleLeftOver_51 rfl (lv_at hl 1 rfl) ?_
      refine zr_mul hx hb dX2_settleLeftOver_52 ?_
      refine zr_sub hx hb dX2_settleLeftOver_53 ?_
      refine zr_topi (show ((zLeft (bo 0) rc fr n) - ((zShare n (zLeft (bo 0) rc fr n)) * ((n : Nat) : Int))) = (zPot n (zLeft (bo 0) rc fr n)) from rfl) ?_
      refine va_put (D := D) (ci := 2) (v := .int (iI (zPot n (zLeft (bo 0) rc fr n)))) (ty := .int) (C := RX2) (T := TX2) (N := 9) hx hb hts (by decide +kernel) tyX2 tyX2_ok nmX2 hown hK hP hD hS 0 rfl rfl 8 (by decide) (hts (.fieldLink RX2 43 "RentHarmony" "pot" "I") (by decide +kernel)) (fun _ h9 => h9) rfl (by decide +kernel) rfl rfl (Nat.le_of_ble_eq_true rfl) dX2_settleLeftOver_54 (fun H locs hP hD hS => ?_)
      have hP : va_P D vwCl [(h, .inr (2, [.ref B, .ref G, .ref TB, .ref TG, .ref FR, .ref CH, .int (iI (rc)), .int (iI (zShare n (zLeft (bo 0) rc fr n))), .int (iI (zPot n (zLeft (bo 0) rc fr n)))])), (B, .inr (0, [.ref C, .int (iI ((n : Nat) : Int))])), (C, zArr cI 36 b), (G, .inr (1, [.ref GB, .ref GW, .ref GR])), (GB, zArr cI 64 bo), (GW, zArr cI 64 wo), (GR, zArr cI 6 ro), (FR, zArr cI 6 fr)] H := hP
      have hD : va_D A [(h, .inr (2, [.ref B, .ref G, .ref TB, .ref TG, .ref FR, .ref CH, .int (iI (rc)), .int (iI (zShare n (zLeft (bo 0) rc fr n))), .int (iI (zPot n (zLeft (bo 0) rc fr n)))])), (B, .inr (0, [.ref C, .int (iI ((n : Nat) : Int))])), (C, zArr cI 36 b), (G, .inr (1, [.ref GB, .ref GW, .ref GR])), (GB, zArr cI 64 bo), (GW, zArr cI 64 wo), (GR, zArr cI 6 ro), (FR, zArr cI 6 fr)] := hD
      exact zWv_ret hx hb hr hlocks hS dX2_settleLeftOver_57 () trivial hP
    · refine lv_iload_n hx hb dX2_settleLeftOver_35 rfl (lv_at hl 0 rfl) ?_
      refine lv_iload_n hx hb dX2_settleLeftOver_36 rfl (lv_at hl 1 rfl) ?_
      refine zr_div hx hb dX2_settleLeftOver_37 (zB_of (by omega) (by omega)) (zB_of (by omega) (by omega)) (by omega) (by omega) ?_
      refine lv_goto (tgt := 42) hx hb dX2_settleLeftOver_38 (by decide) ?_
      refine zr_topi (show ((zLeft (bo 0) rc fr n) / ((n : Nat) : Int)) = (zShare n (zLeft (bo 0) rc fr n)) from by unfold zShare; split <;> omega) ?_
      refine va_put (D := D) (ci := 2) (v := .int (iI (zShare n (zLeft (bo 0) rc fr n)))) (ty := .int) (C := RX2) (T := TX2) (N := 9) hx hb hts (by decide +kernel) tyX2 tyX2_ok nmX2 hown hK hP hD hS 0 rfl rfl 7 (by decide) (hts (.fieldLink RX2 40 "RentHarmony" "share" "I") (by decide +kernel)) (fun _ h9 => h9) rfl (by decide +kernel) rfl rfl (Nat.le_of_ble_eq_true rfl) dX2_settleLeftOver_42 (fun H locs hP hD hS => ?_)
      have hP : va_P D vwCl [(h, .inr (2, [.ref B, .ref G, .ref TB, .ref TG, .ref FR, .ref CH, .int (iI (rc)), .int (iI (zShare n (zLeft (bo 0) rc fr n))), .int (iI (po))])), (B, .inr (0, [.ref C, .int (iI ((n : Nat) : Int))])), (C, zArr cI 36 b), (G, .inr (1, [.ref GB, .ref GW, .ref GR])), (GB, zArr cI 64 bo), (GW, zArr cI 64 wo), (GR, zArr cI 6 ro), (FR, zArr cI 6 fr)] H := hP
      have hD : va_D A [(h, .inr (2, [.ref B, .ref G, .ref TB, .ref TG, .ref FR, .ref CH, .int (iI (rc)), .int (iI (zShare n (zLeft (bo 0) rc fr n))), .int (iI (po))])), (B, .inr (0, [.ref C, .int (iI ((n : Nat) : Int))])), (C, zArr cI 36 b), (G, .inr (1, [.ref GB, .ref GW, .ref GR])), (GB, zArr cI 64 bo), (GW, zArr cI 64 wo), (GR, zArr cI 6 ro), (FR, zArr cI 6 fr)] := hD
      refine lv_aload_n hx hb dX2_settleLeftOver_45 rfl (lv_at hl 2 rfl) ?_
      refine lv_iload_n hx hb dX2_settleLeftOver_46 rfl (lv_at hl 0 rfl) ?_
      refine lv_aload_n hx hb dX2_settleLeftOver_47 rfl (lv_at hl 2 rfl) ?_
      refine va_get (D := D) (ci := 2) (v := .int (iI (zShare n (zLeft (bo 0) rc fr n)))) (C := RX2) (T := TX2) (N := 9) hx hb hts (by decide +kernel) hown hK hP 0 rfl rfl 7 (by decide) (hts (.fieldLink RX2 40 "RentHarmony" "share" "I") (by decide +kernel)) (fun _ h9 => h9) rfl dX2_settleLeftOver_48 ?_
      refine lv_iload_n hx hb dX2_settleLeftOver_51 rfl (lv_at hl 1 rfl) ?_
      refine zr_mul hx hb dX2_settleLeftOver_52 ?_
      refine zr_sub hx hb dX2_settleLeftOver_53 ?_
      refine zr_topi (show ((zLeft (bo 0) rc fr n) - ((zShare n (zLeft (bo 0) rc fr n)) * ((n : Nat) : Int))) = (zPot n (zLeft (bo 0) rc fr n)) from rfl) ?_
      refine va_put (D := D) (ci := 2) (v := .int (iI (zPot n (zLeft (bo 0) rc fr n)))) (ty := .int) (C := RX2) (T := TX2) (N := 9) hx hb hts (by decide +kernel) tyX2 tyX2_ok nmX2 hown hK hP hD hS 0 rfl rfl 8 (by decide) (hts (.fieldLink RX2 43 "RentHarmony" "pot" "I") (by decide +kernel)) (fun _ h9 => h9) rfl (by decide +kernel) rfl rfl (Nat.le_of_ble_eq_true rfl) dX2_settleLeftOver_54 (fun H locs hP hD hS => ?_)
      have hP : va_P D vwCl [(h, .inr (2, [.ref B, .ref G, .ref TB, .ref TG, .ref FR, .ref CH, .int (iI (rc)), .int (iI (zShare n (zLeft (bo 0) rc fr n))), .int (iI (zPot n (zLeft (bo 0) rc fr n)))])), (B, .inr (0, [.ref C, .int (iI ((n : Nat) : Int))])), (C, zArr cI 36 b), (G, .inr (1, [.ref GB, .ref GW, .ref GR])), (GB, zArr cI 64 bo), (GW, zArr cI 64 wo), (GR, zArr cI 6 ro), (FR, zArr cI 6 fr)] H := hP
      have hD : va_D A [(h, .inr (2, [.ref B, .ref G, .ref TB, .ref TG, .ref FR, .ref CH, .int (iI (rc)), .int (iI (zShare n (zLeft (bo 0) rc fr n))), .int (iI (zPot n (zLeft (bo 0) rc fr n)))])), (B, .inr (0, [.ref C, .int (iI ((n : Nat) : Int))])), (C, zArr cI 36 b), (G, .inr (1, [.ref GB, .ref GW, .ref GR])), (GB, zArr cI 64 bo), (GW, zArr cI 64 wo), (GR, zArr cI 6 ro), (FR, zArr cI 6 fr)] := hD
      exact zWv_ret hx hb hr hlocks hS dX2_settleLeftOver_57 () trivial hP
/-- what the house is, once settled -/
def zSet (n : Nat) (b : Nat → Int) (rc : Int) (bo wo ro fr : Nat → Int) (sh po : Int) : Prop := zGiven n b (bo, wo, ro) ∧ zIsB n (zWt b (zRo n b)) fr ∧ sh = zShare n (zLeft (zWo n b) rc fr n) ∧ po = zPot n (zLeft (zWo n b) rc fr n)
theorem zWo_b {n : Nat} {b : Nat → Int} (hn : n ≤ 6) (hb0 : ∀ k, 0 ≤ b k ∧ b k ≤ 999) : 0 ≤ zWo n b ∧ zWo n b ≤ 6000 := by
  obtain ⟨x, hx⟩ := zD_some (b := b) (u := 0) hn (zT_full hn).2.1
  have h := zD_bound hn hb0 hx
  unfold zWo
  rw [hx]
  show 0 ≤ x.1 ∧ x.1 ≤ 6000
  omega

set_option maxHeartbeats 4000000 in
set_option maxRecDepth 100000 in
/-- X2_settleAll -/
theorem c_X2_settleAll (l : Launch) (D : va_G) (cI : ClassId) (h B C G GB GW GR TB TG FR CH n : Nat) (b bo wo ro fr : Nat → Int) (rc sh po : Int) (hn : n ≤ 6) (hb0 : ∀ k, 0 ≤ b k ∧ b k ≤ 999) (hrc : 0 ≤ rc ∧ rc ≤ 5999) : zWv (S := (Nat → Int) × (Nat → Int) × (Nat → Int) × (Nat → Int) × Int × Int) l yX2_settleAll wsX2_settleAll 5 111 D cI [.ref h] [(h, .inr (2, [.ref B, .ref G, .ref TB, .ref TG, .ref FR, .ref CH, .int (iI (rc)), .int (iI (sh)), .int (iI (po))])), (B, .inr (0, [.ref C, .int (iI ((n : Nat) : Int))])), (C, zArr cI 36 b), (G, .inr (1, [.ref GB, .ref GW, .ref GR])), (GB, zArr cI 64 bo), (GW, zArr cI 64 wo), (GR, zArr cI 6 ro), (FR, zArr cI 6 fr)] (fun u8 => zSet n b rc u8.1 u8.2.1 u8.2.2.1 u8.2.2.2.1 u8.2.2.2.2.1 u8.2.2.2.2.2) (fun u8 => [(h, .inr (2, [.ref B, .ref G, .ref TB, .ref TG, .ref FR, .ref CH, .int (iI (rc)), .int (iI (u8.2.2.2.2.1)), .int (iI (u8.2.2.2.2.2))])), (B, .inr (0, [.ref C, .int (iI ((n : Nat) : Int))])), (C, zArr cI 36 b), (G, .inr (1, [.ref GB, .ref GW, .ref GR])), (GB, zArr cI 64 u8.1), (GW, zArr cI 64 u8.2.1), (GR, zArr cI 6 u8.2.2.1), (FR, zArr cI 6 u8.2.2.2.1)]) := by
  refine zWv_of (cc := cX2_settleAll) (maxL := 1) (by decide) rfl (Nat.le_of_ble_eq_true rfl) ?_
  intro p e s m args below meth c ls A hF hr hlocks hP hK hD hS hl
  have hF : zFix p m c cX2_settleAll 1 s args wsX2_settleAll RX2 := hF
  obtain ⟨hx, hb, hml, hown, hts⟩ := id hF
  have hP : va_P D vwCl [(h, .inr (2, [.ref B, .ref G, .ref TB, .ref TG, .ref FR, .ref CH, .int (iI (rc)), .int (iI (sh)), .int (iI (po))])), (B, .inr (0, [.ref C, .int (iI ((n : Nat) : Int))])), (C, zArr cI 36 b), (G, .inr (1, [.ref GB, .ref GW, .ref GR])), (GB, zArr cI 64 bo), (GW, zArr cI 64 wo), (GR, zArr cI 6 ro), (FR, zArr cI 6 fr)] s.heap := hP
  have hD : va_D A [(h, .inr (2, [.ref B, .ref G, .ref TB, .ref TG, .ref FR, .ref CH, .int (iI (rc)), .int (iI (sh)), .int (iI (po))])), (B, .inr (0, [.ref C, .int (iI ((n : Nat) : Int))])), (C, zArr cI 36 b), (G, .inr (1, [.ref GB, .ref GW, .ref GR])), (GB, zArr cI 64 bo), (GW, zArr cI 64 wo), (GR, zArr cI 6 ro), (FR, zArr cI 6 fr)] := hD
  skip
  have hl : lv_has ls 1 [(0, .ref h)] := hl
  refine lv_aload_n hx hb dX2_settleAll_0 rfl (lv_at hl 0 rfl) ?_
  refine va_get (D := D) (ci := 2) (v := .ref G) (C := RX2) (T := TX2) (N := 9) hx hb hts (by decide +kernel) hown hK hP 0 rfl rfl 1 (by decide) (hts (.fieldLink RX2 19 "RentHarmony" "giving" "LRentHarmony$Giving;") (by decide +kernel)) (fun _ h9 => h9) rfl dX2_settleAll_1 ?_
  refine lv_aload_n hx hb dX2_settleAll_4 rfl (lv_at hl 0 rfl) ?_
  refine va_get (D := D) (ci := 2) (v := .ref B) (C := RX2) (T := TX2) (N := 9) hx hb hts (by decide +kernel) hown hK hP 0 rfl rfl 0 (by decide) (hts (.fieldLink RX2 10 "RentHarmony" "bids" "LRentHarmony$Bids;") (by decide +kernel)) (fun _ h9 => h9) rfl dX2_settleAll_5 ?_
  refine zc_wv (As := [.ref B]) (rest := []) hF (c_X1_choose l D cI G GB GW GR bo wo ro B C n b (by omega) (by assumption)) (cwV 1 hts gX2_settleAll_X1_choose rfl rfl rfl (by decide +kernel) ⟨Nat.le_of_ble_eq_true rfl, Nat.le_of_ble_eq_true rfl⟩) hK hP hD hS [3, 4, 5, 6, 1, 2] rfl rfl (fun _ => rfl) 0 rfl 0 rfl rfl rfl rfl hl.1 rfl (Nat.le_of_ble_eq_true rfl) dX2_settleAll_8 ⟨Nat.zero_le _, Nat.zero_le _⟩ (fun u1 H locs hw hP hD hS => ?_)
  obtain ⟨bo3, wo3, ro3⟩ := u1
  obtain ⟨hgb3, hgw3, hgr3⟩ := hw
  have hP : va_P D vwCl [(h, .inr (2, [.ref B, .ref G, .ref TB, .ref TG, .ref FR, .ref CH, .int (iI (rc)), .int (iI (sh)), .int (iI (po))])), (B, .inr (0, [.ref C, .int (iI ((n : Nat) : Int))])), (C, zArr cI 36 b), (G, .inr (1, [.ref GB, .ref GW, .ref GR])), (GB, zArr cI 64 bo3), (GW, zArr cI 64 wo3), (GR, zArr cI 6 ro3), (FR, zArr cI 6 fr)] H := hP
  have hD : va_D A [(h, .inr (2, [.ref B, .ref G, .ref TB, .ref TG, .ref FR, .ref CH, .int (iI (rc)), .int (iI (sh)), .int (iI (po))])), (B, .inr (0, [.ref C, .int (iI ((n : Nat) : Int))])), (C, zArr cI 36 b), (G, .inr (1, [.ref GB, .ref GW, .ref GR])), (GB, zArr cI 64 bo3), (GW, zArr cI 64 wo3), (GR, zArr cI 6 ro3), (FR, zArr cI 6 fr)] := hD
  have hgb3 : bo3 0 = zWo n b := hgb3
  have hgw3 : wo3 0 = zWy n b := hgw3
  have hgr3 : ∀ j, j < n → ro3 j = ((zRo n b j : Nat) : Int) := hgr3
  have hro : ∀ j, j < n → ro3 j = ((zRo n b j : Nat) : Int) := hgr3
  have hgn : ∀ j, j < n → zRo n b j < n := zRo_lt hn
  refine lv_aload_n hx hb dX2_settleAll_11 rfl (lv_at hl 0 rfl) ?_
  obtain ⟨U, hU⟩ := zU_ex (n := n) (b := b) hn hb0
  have hfix : ∀ a c, a < n → c < n → zWt b (zRo n b) a c + U c ≤ U a := fun a c ha hc => zIsB_fix (zWt_noC hn) hU ha hc
  have hUb := zU_le hn hb0 hU
  refine zc_wv (As := []) (rest := []) hF (c_X2_settleFirstRebates l D cI h B C G GB GW GR TB TG FR CH n b bo3 wo3 ro3 fr rc sh po (zRo n b) U (by omega) (by assumption) (by assumption) (by assumption) (by assumption) (by assumption) (by assumption)) (cwV 0 hts gX2_settleAll_X2_settleFirstRebates rfl rfl rfl (by decide +kernel) ⟨Nat.le_of_ble_eq_true rfl, Nat.le_of_ble_eq_true rfl⟩) hK hP hD hS [0, 1, 2, 3, 4, 5, 6, 7] rfl rfl (fun _ => rfl) 0 rfl 0 rfl rfl rfl rfl hl.1 rfl (Nat.le_of_ble_eq_true rfl) dX2_settleAll_12 ⟨Nat.zero_le _, Nat.zero_le _⟩ (fun u4 H locs hw hP hD hS => ?_)
  have hB6 : zIsB n (zWt b (zRo n b)) u4 := hw
  have hP : va_P D vwCl [(h, .inr (2, [.ref B, .ref G, .ref TB, .ref TG, .ref FR, .ref CH, .int (iI (rc)), .int (iI (sh)), .int (iI (po))])), (B, .inr (0, [.ref C, .int (iI ((n : Nat) : Int))])), (C, zArr cI 36 b), (G, .inr (1, [.ref GB, .ref GW, .ref GR])), (GB, zArr cI 64 bo3), (GW, zArr cI 64 wo3), (GR, zArr cI 6 ro3), (FR, zArr cI 6 u4)] H := hP
  have hD : va_D A [(h, .inr (2, [.ref B, .ref G, .ref TB, .ref TG, .ref FR, .ref CH, .int (iI (rc)), .int (iI (sh)), .int (iI (po))])), (B, .inr (0, [.ref C, .int (iI ((n : Nat) : Int))])), (C, zArr cI 36 b), (G, .inr (1, [.ref GB, .ref GW, .ref GR])), (GB, zArr cI 64 bo3), (GW, zArr cI 64 wo3), (GR, zArr cI 6 ro3), (FR, zArr cI 6 u4)] := hD
  refine lv_aload_n hx hb dX2_settleAll_15 rfl (lv_at hl 0 rfl) ?_
  have hwo : 0 ≤ bo3 0 ∧ bo3 0 ≤ 6000 := by rw [hgb3]; exact zWo_b hn hb0
  have hfr := zU_le hn hb0 hB6
  refine zc_wv (As := []) (rest := []) hF (c_X2_settleLeftOver l D cI h B C G GB GW GR TB TG FR CH n b bo3 wo3 ro3 u4 rc sh po (zRo n b) (by omega) (by assumption) (by assumption) (by assumption) (by assumption) (by assumption) (by assumption)) (cwV 0 hts gX2_settleAll_X2_settleLeftOver rfl rfl rfl (by decide +kernel) ⟨Nat.le_of_ble_eq_true rfl, Nat.le_of_ble_eq_true rfl⟩) hK hP hD hS [0, 1, 2, 3, 4, 5, 6, 7] rfl rfl (fun _ => rfl) 0 rfl 0 rfl rfl rfl rfl hl.1 rfl (Nat.le_of_ble_eq_true rfl) dX2_settleAll_16 ⟨Nat.zero_le _, Nat.zero_le _⟩ (fun u7 H locs hw hP hD hS => ?_)
  have hP : va_P D vwCl [(h, .inr (2, [.ref B, .ref G, .ref TB, .ref TG, .ref FR, .ref CH, .int (iI (rc)), .int (iI (zShare n (zLeft (bo3 0) rc u4 n))), .int (iI (zPot n (zLeft (bo3 0) rc u4 n)))])), (B, .inr (0, [.ref C, .int (iI ((n : Nat) : Int))])), (C, zArr cI 36 b), (G, .inr (1, [.ref GB, .ref GW, .ref GR])), (GB, zArr cI 64 bo3), (GW, zArr cI 64 wo3), (GR, zArr cI 6 ro3), (FR, zArr cI 6 u4)] H := hP
  have hD : va_D A [(h, .inr (2, [.ref B, .ref G, .ref TB, .ref TG, .ref FR, .ref CH, .int (iI (rc)), .int (iI (zShare n (zLeft (bo3 0) rc u4 n))), .int (iI (zPot n (zLeft (bo3 0) rc u4 n)))])), (B, .inr (0, [.ref C, .int (iI ((n : Nat) : Int))])), (C, zArr cI 36 b), (G, .inr (1, [.ref GB, .ref GW, .ref GR])), (GB, zArr cI 64 bo3), (GW, zArr cI 64 wo3), (GR, zArr cI 6 ro3), (FR, zArr cI 6 u4)] := hD
  exact zWv_ret hx hb hr hlocks hS dX2_settleAll_19 (bo3, wo3, ro3, u4, zShare n (zLeft (bo3 0) rc u4 n), zPot n (zLeft (bo3 0) rc u4 n)) ⟨⟨hgb3, hgw3, hgr3⟩, hB6, by rw [← hgb3], by rw [← hgb3]⟩ hP
set_option maxHeartbeats 4000000 in
set_option maxRecDepth 100000 in
/-- X2_roomTried -/
theorem c_X2_roomTried (l : Launch) (D : va_G) (cI : ClassId) (h B G TB TC TG TGB TGW TGR FR CH n : Nat) (tb tbo two tro : Nat → Int) (rc sh po : Int) (x y : Nat) (v : Int) (hn : n ≤ 6) (hb0 : ∀ k, 0 ≤ tb k ∧ tb k ≤ 999) (hx0 : x < n) (hy0 : y < n) (hv0 : 0 ≤ v ∧ v ≤ 999) : zWi (S := (Nat → Int) × (Nat → Int) × (Nat → Int)) l yX2_roomTried wsX2_roomTried 4 95 D cI [.ref h, .int (iI ((x : Nat) : Int)), .int (iI ((y : Nat) : Int)), .int (iI (v))] [(h, .inr (2, [.ref B, .ref G, .ref TB, .ref TG, .ref FR, .ref CH, .int (iI (rc)), .int (iI (sh)), .int (iI (po))])), (TB, .inr (0, [.ref TC, .int (iI ((n : Nat) : Int))])), (TC, zArr cI 36 tb), (TG, .inr (1, [.ref TGB, .ref TGW, .ref TGR])), (TGB, zArr cI 64 tbo), (TGW, zArr cI 64 two), (TGR, zArr cI 6 tro)] (fun r u8 => r = iI ((zRo n (uZ tb (x * 6 + y) v) x : Nat) : Int) ∧ zGiven n (uZ tb (x * 6 + y) v) u8) (fun u8 => [(h, .inr (2, [.ref B, .ref G, .ref TB, .ref TG, .ref FR, .ref CH, .int (iI (rc)), .int (iI (sh)), .int (iI (po))])), (TB, .inr (0, [.ref TC, .int (iI ((n : Nat) : Int))])), (TC, zArr cI 36 (uZ tb (x * 6 + y) v)), (TG, .inr (1, [.ref TGB, .ref TGW, .ref TGR])), (TGB, zArr cI 64 u8.1), (TGW, zArr cI 64 u8.2.1), (TGR, zArr cI 6 u8.2.2)]) := by
  refine zWi_of (cc := cX2_roomTried) (maxL := 4) (rt := .int) (by decide) rfl (Nat.le_of_ble_eq_true rfl) ?_
  intro p e s m args below meth c ls A hF hr hlocks hP hK hD hS hl
  have hF : zFix p m c cX2_roomTried 4 s args wsX2_roomTried RX2 := hF
  obtain ⟨hx, hb, hml, hown, hts⟩ := id hF
  have hP : va_P D vwCl [(h, .inr (2, [.ref B, .ref G, .ref TB, .ref TG, .ref FR, .ref CH, .int (iI (rc)), .int (iI (sh)), .int (iI (po))])), (TB, .inr (0, [.ref TC, .int (iI ((n : Nat) : Int))])), (TC, zArr cI 36 tb), (TG, .inr (1, [.ref TGB, .ref TGW, .ref TGR])), (TGB, zArr cI 64 tbo), (TGW, zArr cI 64 two), (TGR, zArr cI 6 tro)] s.heap := hP
  have hD : va_D A [(h, .inr (2, [.ref B, .ref G, .ref TB, .ref TG, .ref FR, .ref CH, .int (iI (rc)), .int (iI (sh)), .int (iI (po))])), (TB, .inr (0, [.ref TC, .int (iI ((n : Nat) : Int))])), (TC, zArr cI 36 tb), (TG, .inr (1, [.ref TGB, .ref TGW, .ref TGR])), (TGB, zArr cI 64 tbo), (TGW, zArr cI 64 two), (TGR, zArr cI 6 tro)] := hD
  skip
  have hl : lv_has ls 4 [(0, .ref h), (1, .int (iI ((x : Nat) : Int))), (2, .int (iI ((y : Nat) : Int))), (3, .int (iI (v)))] := hl
  refine lv_aload_n hx hb dX2_roomTried_0 rfl (lv_at hl 0 rfl) ?_
  refine va_get (D := D) (ci := 2) (v := .ref TB) (C := RX2) (T := TX2) (N := 9) hx hb hts (by decide +kernel) hown hK hP 0 rfl rfl 2 (by decide) (hts (.fieldLink RX2 23 "RentHarmony" "triedBids" "LRentHarmony$Bids;") (by decide +kernel)) (fun _ h9 => h9) rfl dX2_roomTried_1 ?_
  refine lv_iload_n hx hb dX2_roomTried_4 rfl (lv_at hl 1 rfl) ?_
  refine lv_iload_n hx hb dX2_roomTried_5 rfl (lv_at hl 2 rfl) ?_
  refine lv_iload_n hx hb dX2_roomTried_6 rfl (lv_at hl 3 rfl) ?_
  refine zc_wv (As := [.int (iI ((x : Nat) : Int)), .int (iI ((y : Nat) : Int)), .int (iI (v))]) (rest := []) hF (c_X0_set l D cI TB TC n tb x y v (by omega) (by omega) (by omega)) (cwV 3 hts gX2_roomTried_X0_set rfl rfl rfl (by decide +kernel) ⟨Nat.le_of_ble_eq_true rfl, Nat.le_of_ble_eq_true rfl⟩) hK hP hD hS [1, 2] rfl rfl (fun _ => rfl) 0 rfl 0 rfl rfl rfl rfl hl.1 rfl (Nat.le_of_ble_eq_true rfl) dX2_roomTried_7 ⟨Nat.zero_le _, Nat.zero_le _⟩ (fun u1 H locs hw hP hD hS => ?_)
  have hP : va_P D vwCl [(h, .inr (2, [.ref B, .ref G, .ref TB, .ref TG, .ref FR, .ref CH, .int (iI (rc)), .int (iI (sh)), .int (iI (po))])), (TB, .inr (0, [.ref TC, .int (iI ((n : Nat) : Int))])), (TC, zArr cI 36 (uZ tb (x * 6 + y) v)), (TG, .inr (1, [.ref TGB, .ref TGW, .ref TGR])), (TGB, zArr cI 64 tbo), (TGW, zArr cI 64 two), (TGR, zArr cI 6 tro)] H := hP
  have hD : va_D A [(h, .inr (2, [.ref B, .ref G, .ref TB, .ref TG, .ref FR, .ref CH, .int (iI (rc)), .int (iI (sh)), .int (iI (po))])), (TB, .inr (0, [.ref TC, .int (iI ((n : Nat) : Int))])), (TC, zArr cI 36 (uZ tb (x * 6 + y) v)), (TG, .inr (1, [.ref TGB, .ref TGW, .ref TGR])), (TGB, zArr cI 64 tbo), (TGW, zArr cI 64 two), (TGR, zArr cI 6 tro)] := hD
  have hb0 : ∀ k, 0 ≤ (uZ tb (x * 6 + y) v) k ∧ (uZ tb (x * 6 + y) v) k ≤ 999 := uZ_b hb0 _ hv0
  refine lv_aload_n hx hb dX2_roomTried_10 rfl (lv_at hl 0 rfl) ?_
  refine va_get (D := D) (ci := 2) (v := .ref TG) (C := RX2) (T := TX2) (N := 9) hx hb hts (by decide +kernel) hown hK hP 0 rfl rfl 3 (by decide) (hts (.fieldLink RX2 26 "RentHarmony" "triedGiving" "LRentHarmony$Giving;") (by decide +kernel)) (fun _ h9 => h9) rfl dX2_roomTried_11 ?_
  refine lv_aload_n hx hb dX2_roomTried_14 rfl (lv_at hl 0 rfl) ?_
  refine va_get (D := D) (ci := 2) (v := .ref TB) (C := RX2) (T := TX2) (N := 9) hx hb hts (by decide +kernel) hown hK hP 0 rfl rfl 2 (by decide) (hts (.fieldLink RX2 23 "RentHarmony" "triedBids" "LRentHarmony$Bids;") (by decide +kernel)) (fun _ h9 => h9) rfl dX2_roomTried_15 ?_
  refine zc_wv (As := [.ref TB]) (rest := []) hF (c_X1_choose l D cI TG TGB TGW TGR tbo two tro TB TC n (uZ tb (x * 6 + y) v) (by omega) (by assumption)) (cwV 1 hts gX2_roomTried_X1_choose rfl rfl rfl (by decide +kernel) ⟨Nat.le_of_ble_eq_true rfl, Nat.le_of_ble_eq_true rfl⟩) hK hP hD hS [3, 4, 5, 6, 1, 2] rfl rfl (fun _ => rfl) 0 rfl 0 rfl rfl rfl rfl hl.1 rfl (Nat.le_of_ble_eq_true rfl) dX2_roomTried_18 ⟨Nat.zero_le _, Nat.zero_le _⟩ (fun u3 H locs hw hP hD hS => ?_)
  obtain ⟨bo5, wo5, ro5⟩ := u3
  obtain ⟨hgb5, hgw5, hgr5⟩ := hw
  have hP : va_P D vwCl [(h, .inr (2, [.ref B, .ref G, .ref TB, .ref TG, .ref FR, .ref CH, .int (iI (rc)), .int (iI (sh)), .int (iI (po))])), (TB, .inr (0, [.ref TC, .int (iI ((n : Nat) : Int))])), (TC, zArr cI 36 (uZ tb (x * 6 + y) v)), (TG, .inr (1, [.ref TGB, .ref TGW, .ref TGR])), (TGB, zArr cI 64 bo5), (TGW, zArr cI 64 wo5), (TGR, zArr cI 6 ro5)] H := hP
  have hD : va_D A [(h, .inr (2, [.ref B, .ref G, .ref TB, .ref TG, .ref FR, .ref CH, .int (iI (rc)), .int (iI (sh)), .int (iI (po))])), (TB, .inr (0, [.ref TC, .int (iI ((n : Nat) : Int))])), (TC, zArr cI 36 (uZ tb (x * 6 + y) v)), (TG, .inr (1, [.ref TGB, .ref TGW, .ref TGR])), (TGB, zArr cI 64 bo5), (TGW, zArr cI 64 wo5), (TGR, zArr cI 6 ro5)] := hD
  have hgb5 : bo5 0 = zWo n (uZ tb (x * 6 + y) v) := hgb5
  have hgw5 : wo5 0 = zWy n (uZ tb (x * 6 + y) v) := hgw5
  have hgr5 : ∀ j, j < n → ro5 j = ((zRo n (uZ tb (x * 6 + y) v) j : Nat) : Int) := hgr5
  have hro : ∀ j, j < n → ro5 j = ((zRo n (uZ tb (x * 6 + y) v) j : Nat) : Int) := hgr5
  have hgn : ∀ j, j < n → zRo n (uZ tb (x * 6 + y) v) j < n := zRo_lt hn
  refine lv_aload_n hx hb dX2_roomTried_21 rfl (lv_at hl 0 rfl) ?_
  refine va_get (D := D) (ci := 2) (v := .ref TG) (C := RX2) (T := TX2) (N := 9) hx hb hts (by decide +kernel) hown hK hP 0 rfl rfl 3 (by decide) (hts (.fieldLink RX2 26 "RentHarmony" "triedGiving" "LRentHarmony$Giving;") (by decide +kernel)) (fun _ h9 => h9) rfl dX2_roomTried_22 ?_
  refine lv_iload_n hx hb dX2_roomTried_25 rfl (lv_at hl 1 rfl) ?_
  refine zc_ri (As := [.int (iI ((x : Nat) : Int))]) (rest := []) hF (c_X1_roomOfN l D cI TG TGB TGW TGR bo5 wo5 ro5 (zRo n (uZ tb (x * 6 + y) v)) x (by omega) (hro _ (by omega))) (cwV 1 hts gX2_roomTried_X1_roomOf rfl rfl rfl (by decide +kernel) ⟨Nat.le_of_ble_eq_true rfl, Nat.le_of_ble_eq_true rfl⟩) hK hP [3, 4, 5, 6] rfl 0 rfl 0 rfl rfl rfl rfl hl.1 rfl (Nat.le_of_ble_eq_true rfl) dX2_roomTried_26 ⟨Nat.zero_le _, Nat.zero_le _⟩ ?_
  have hf6 := hgn x (by omega)
  exact zWi_ret hx hb hr hlocks hS dX2_roomTried_29 (bo5, wo5, ro5) ⟨rfl, hgb5, hgw5, hgr5⟩ hP
set_option maxHeartbeats 4000000 in
set_option maxRecDepth 100000 in
/-- X2_chain -/
theorem c_X2_chain (l : Launch) (D : va_G) (cI : ClassId) (h B C G GB GW GR TB TG FR CH n : Nat) (b bo wo ro fr : Nat → Int) (rc sh po : Int) (g : Nat → Nat) (ch L : Nat → Int) (hn : n ≤ 6) (hb0 : ∀ k, 0 ≤ b k ∧ b k ≤ 999) (hro : ∀ j, j < n → ro j = ((g j : Nat) : Int)) (hgn : ∀ j, j < n → g j < n) (hL : zIsL n b g L) : zWi (S := (Nat → Int)) l yX2_chain wsX2_chain 5 109 D cI [.ref h] [(h, .inr (2, [.ref B, .ref G, .ref TB, .ref TG, .ref FR, .ref CH, .int (iI (rc)), .int (iI (sh)), .int (iI (po))])), (B, .inr (0, [.ref C, .int (iI ((n : Nat) : Int))])), (C, zArr cI 36 b), (G, .inr (1, [.ref GB, .ref GW, .ref GR])), (GB, zArr cI 64 bo), (GW, zArr cI 64 wo), (GR, zArr cI 6 ro), (FR, zArr cI 6 fr), (CH, zArr cI 6 ch)] (fun r u8 => r = iI (zMx L n)) (fun u8 => [(h, .inr (2, [.ref B, .ref G, .ref TB, .ref TG, .ref FR, .ref CH, .int (iI (rc)), .int (iI (sh)), .int (iI (po))])), (B, .inr (0, [.ref C, .int (iI ((n : Nat) : Int))])), (C, zArr cI 36 b), (G, .inr (1, [.ref GB, .ref GW, .ref GR])), (GB, zArr cI 64 bo), (GW, zArr cI 64 wo), (GR, zArr cI 6 ro), (FR, zArr cI 6 fr), (CH, zArr cI 6 u8)]) := by
  refine zWi_of (cc := cX2_chain) (maxL := 4) (rt := .int) (by decide) rfl (Nat.le_of_ble_eq_true rfl) ?_
  intro p e s m args below meth c ls A hF hr hlocks hP hK hD hS hl
  have hF : zFix p m c cX2_chain 4 s args wsX2_chain RX2 := hF
  obtain ⟨hx, hb, hml, hown, hts⟩ := id hF
  have hP : va_P D vwCl [(h, .inr (2, [.ref B, .ref G, .ref TB, .ref TG, .ref FR, .ref CH, .int (iI (rc)), .int (iI (sh)), .int (iI (po))])), (B, .inr (0, [.ref C, .int (iI ((n : Nat) : Int))])), (C, zArr cI 36 b), (G, .inr (1, [.ref GB, .ref GW, .ref GR])), (GB, zArr cI 64 bo), (GW, zArr cI 64 wo), (GR, zArr cI 6 ro), (FR, zArr cI 6 fr), (CH, zArr cI 6 ch)] s.heap := hP
  have hD : va_D A [(h, .inr (2, [.ref B, .ref G, .ref TB, .ref TG, .ref FR, .ref CH, .int (iI (rc)), .int (iI (sh)), .int (iI (po))])), (B, .inr (0, [.ref C, .int (iI ((n : Nat) : Int))])), (C, zArr cI 36 b), (G, .inr (1, [.ref GB, .ref GW, .ref GR])), (GB, zArr cI 64 bo), (GW, zArr cI 64 wo), (GR, zArr cI 6 ro), (FR, zArr cI 6 fr), (CH, zArr cI 6 ch)] := hD
  skip
  have hl : lv_has ls 4 [(0, .ref h)] := hl
  refine lv_aload_n hx hb dX2_chain_0 rfl (lv_at hl 0 rfl) ?_
  refine va_get (D := D) (ci := 2) (v := .ref B) (C := RX2) (T := TX2) (N := 9) hx hb hts (by decide +kernel) hown hK hP 0 rfl rfl 0 (by decide) (hts (.fieldLink RX2 10 "RentHarmony" "bids" "LRentHarmony$Bids;") (by decide +kernel)) (fun _ h9 => h9) rfl dX2_chain_1 ?_
  refine zc_ri (As := []) (rest := []) hF (c_X0_size l D cI B C n b ) (cwV 0 hts gX2_chain_X0_size rfl rfl rfl (by decide +kernel) ⟨Nat.le_of_ble_eq_true rfl, Nat.le_of_ble_eq_true rfl⟩) hK hP [1, 2] rfl 0 rfl 0 rfl rfl rfl rfl hl.1 rfl (Nat.le_of_ble_eq_true rfl) dX2_chain_4 ⟨Nat.zero_le _, Nat.zero_le _⟩ ?_
  refine lv_istore_n (lv' := [(1, .int (iI ((n : Nat) : Int))), (0, .ref h)]) hx hb dX2_chain_7 rfl hl (by decide) rfl (fun ls hl => ?_)
  refine zr_ic (n := ((0 : Nat) : Int)) hx hb dX2_chain_8 ?_
  refine lv_istore_n (lv' := [(2, .int (iI ((0 : Nat) : Int))), (1, .int (iI ((n : Nat) : Int))), (0, .ref h)]) hx hb dX2_chain_9 rfl hl (by decide) rfl (fun ls hl => ?_)
  have LZ : ∀ (k0 : Nat) (i : Nat) (ch1 : Nat → Int), n - i < k0 → (hi : i ≤ n) → (hz : ∀ a, a < i → ch1 a = 1) → ∀ (H : Heap) (locs : List Loc), va_P D vwCl [(h, .inr (2, [.ref B, .ref G, .ref TB, .ref TG, .ref FR, .ref CH, .int (iI (rc)), .int (iI (sh)), .int (iI (po))])), (B, .inr (0, [.ref C, .int (iI ((n : Nat) : Int))])), (C, zArr cI 36 b), (G, .inr (1, [.ref GB, .ref GW, .ref GR])), (GB, zArr cI 64 bo), (GW, zArr cI 64 wo), (GR, zArr cI 6 ro), (FR, zArr cI 6 fr), (CH, zArr cI 6 ch1)] H → va_D A [(h, .inr (2, [.ref B, .ref G, .ref TB, .ref TG, .ref FR, .ref CH, .int (iI (rc)), .int (iI (sh)), .int (iI (po))])), (B, .inr (0, [.ref C, .int (iI ((n : Nat) : Int))])), (C, zArr cI 36 b), (G, .inr (1, [.ref GB, .ref GW, .ref GR])), (GB, zArr cI 64 bo), (GW, zArr cI 64 wo), (GR, zArr cI 6 ro), (FR, zArr cI 6 fr), (CH, zArr cI 6 ch1)] → va_S A s.heap H locs → ∀ (ls : Array Slot), lv_has ls 4 [(0, .ref h), (1, .int (iI ((n : Nat) : Int))), (2, .int (iI ((i : Nat) : Int)))] → W p l e (zRm 5 109) s m args below meth c H locs 0 0 (MQ below (va_Qi (S := (Nat → Int)) (fun r u8 => r = iI (zMx L n)) (fun u9 t9 => va_P D vwCl ((fun u8 => [(h, .inr (2, [.ref B, .ref G, .ref TB, .ref TG, .ref FR, .ref CH, .int (iI (rc)), .int (iI (sh)), .int (iI (po))])), (B, .inr (0, [.ref C, .int (iI ((n : Nat) : Int))])), (C, zArr cI 36 b), (G, .inr (1, [.ref GB, .ref GW, .ref GR])), (GB, zArr cI 64 bo), (GW, zArr cI 64 wo), (GR, zArr cI 6 ro), (FR, zArr cI 6 fr), (CH, zArr cI 6 u8)]) u9) t9.heap) A) args s 0 0 A) (F0 m 10 ls []) := by
    intro k0
    induction k0 with
    | zero => intro i ch1 hk; exact absurd hk (Nat.not_lt_zero _)
    | succ k0 ih_LZ =>
      intro i ch1 hk hi hz H locs hP hD hS ls hl
      refine lv_iload_n hx hb dX2_chain_10 rfl (lv_at hl 2 rfl) ?_
      refine lv_iload_n hx hb dX2_chain_11 rfl (lv_at hl 1 rfl) ?_
      refine zr_icmp_ge (tgt := 28) hx hb dX2_chain_12 (by decide) (zB_of (by omega) (by omega)) (zB_of (by omega) (by omega)) (fun c1 => ?_) (fun c1 => ?_)
      · refine zr_ic (n := ((1 : Nat) : Int)) hx hb dX2_chain_28 ?_
        refine lv_istore_n (lv' := [(2, .int (iI ((1 : Nat) : Int))), (0, .ref h), (1, .int (iI ((n : Nat) : Int)))]) hx hb dX2_chain_29 rfl hl (by decide) rfl (fun ls hl => ?_)
        have LK : ∀ (k0 : Nat) (k : Nat) (ch2 : Nat → Int), n - k < k0 → (hk1 : 1 ≤ k) → (hk7 : k ≤ 7) → (hI : zChI n L k 0 ch2) → ∀ (H : Heap) (locs : List Loc), va_P D vwCl [(h, .inr (2, [.ref B, .ref G, .ref TB, .ref TG, .ref FR, .ref CH, .int (iI (rc)), .int (iI (sh)), .int (iI (po))])), (B, .inr (0, [.ref C, .int (iI ((n : Nat) : Int))])), (C, zArr cI 36 b), (G, .inr (1, [.ref GB, .ref GW, .ref GR])), (GB, zArr cI 64 bo), (GW, zArr cI 64 wo), (GR, zArr cI 6 ro), (FR, zArr cI 6 fr), (CH, zArr cI 6 ch2)] H → va_D A [(h, .inr (2, [.ref B, .ref G, .ref TB, .ref TG, .ref FR, .ref CH, .int (iI (rc)), .int (iI (sh)), .int (iI (po))])), (B, .inr (0, [.ref C, .int (iI ((n : Nat) : Int))])), (C, zArr cI 36 b), (G, .inr (1, [.ref GB, .ref GW, .ref GR])), (GB, zArr cI 64 bo), (GW, zArr cI 64 wo), (GR, zArr cI 6 ro), (FR, zArr cI 6 fr), (CH, zArr cI 6 ch2)] → va_S A s.heap H locs → ∀ (ls : Array Slot), lv_has ls 4 [(0, .ref h), (1, .int (iI ((n : Nat) : Int))), (2, .int (iI ((k : Nat) : Int)))] → W p l e (zRm 5 109) s m args below meth c H locs 0 0 (MQ below (va_Qi (S := (Nat → Int)) (fun r u8 => r = iI (zMx L n)) (fun u9 t9 => va_P D vwCl ((fun u8 => [(h, .inr (2, [.ref B, .ref G, .ref TB, .ref TG, .ref FR, .ref CH, .int (iI (rc)), .int (iI (sh)), .int (iI (po))])), (B, .inr (0, [.ref C, .int (iI ((n : Nat) : Int))])), (C, zArr cI 36 b), (G, .inr (1, [.ref GB, .ref GW, .ref GR])), (GB, zArr cI 64 bo), (GW, zArr cI 64 wo), (GR, zArr cI 6 ro), (FR, zArr cI 6 fr), (CH, zArr cI 6 u8)]) u9) t9.heap) A) args s 0 0 A) (F0 m 30 ls []) := by
          intro k0
          induction k0 with
          | zero => intro k ch2 hk; exact absurd hk (Nat.not_lt_zero _)
          | succ k0 ih_LK =>
            intro k ch2 hk hk1 hk7 hI H locs hP hD hS ls hl
            refine lv_iload_n hx hb dX2_chain_30 rfl (lv_at hl 2 rfl) ?_
            refine lv_iload_n hx hb dX2_chain_31 rfl (lv_at hl 1 rfl) ?_
            refine zr_icmp_ge (tgt := 65) hx hb dX2_chain_32 (by decide) (zB_of (by omega) (by omega)) (zB_of (by omega) (by omega)) (fun c2 => ?_) (fun c2 => ?_)
            · have hce := zChI_end hL (by omega) hI
              refine zr_ic (n := ((0 : Nat) : Int)) hx hb dX2_chain_65 ?_
              refine lv_istore_n (lv' := [(2, .int (iI ((0 : Nat) : Int))), (0, .ref h), (1, .int (iI ((n : Nat) : Int)))]) hx hb dX2_chain_66 rfl hl (by decide) rfl (fun ls hl => ?_)
              refine zr_ic (n := ((0 : Nat) : Int)) hx hb dX2_chain_67 ?_
              refine lv_istore_n (lv' := [(3, .int (iI ((0 : Nat) : Int))), (2, .int (iI ((0 : Nat) : Int))), (0, .ref h), (1, .int (iI ((n : Nat) : Int)))]) hx hb dX2_chain_68 rfl hl (by decide) rfl (fun ls hl => ?_)
              have LX : ∀ (k0 : Nat) (i2 : Nat), n - i2 < k0 → (hi2 : i2 ≤ n) → ∀ (H : Heap) (locs : List Loc), va_P D vwCl [(h, .inr (2, [.ref B, .ref G, .ref TB, .ref TG, .ref FR, .ref CH, .int (iI (rc)), .int (iI (sh)), .int (iI (po))])), (B, .inr (0, [.ref C, .int (iI ((n : Nat) : Int))])), (C, zArr cI 36 b), (G, .inr (1, [.ref GB, .ref GW, .ref GR])), (GB, zArr cI 64 bo), (GW, zArr cI 64 wo), (GR, zArr cI 6 ro), (FR, zArr cI 6 fr), (CH, zArr cI 6 ch2)] H → va_D A [(h, .inr (2, [.ref B, .ref G, .ref TB, .ref TG, .ref FR, .ref CH, .int (iI (rc)), .int (iI (sh)), .int (iI (po))])), (B, .inr (0, [.ref C, .int (iI ((n : Nat) : Int))])), (C, zArr cI 36 b), (G, .inr (1, [.ref GB, .ref GW, .ref GR])), (GB, zArr cI 64 bo), (GW, zArr cI 64 wo), (GR, zArr cI 6 ro), (FR, zArr cI 6 fr), (CH, zArr cI 6 ch2)] → va_S A s.heap H locs → ∀ (ls : Array Slot), lv_has ls 4 [(0, .ref h), (1, .int (iI ((n : Nat) : Int))), (2, .int (iI (zMx ch2 i2))), (3, .int (iI ((i2 : Nat) : Int)))] → W p l e (zRm 5 109) s m args below meth c H locs 0 0 (MQ below (va_Qi (S := (Nat → Int)) (fun r u8 => r = iI (zMx L n)) (fun u9 t9 => va_P D vwCl ((fun u8 => [(h, .inr (2, [.ref B, .ref G, .ref TB, .ref TG, .ref FR, .ref CH, .int (iI (rc)), .int (iI (sh)), .int (iI (po))])), (B, .inr (0, [.ref C, .int (iI ((n : Nat) : Int))])), (C, zArr cI 36 b), (G, .inr (1, [.ref GB, .ref GW, .ref GR])), (GB, zArr cI 64 bo), (GW, zArr cI 64 wo), (GR, zArr cI 6 ro), (FR, zArr cI 6 fr), (CH, zArr cI 6 u8)]) u9) t9.heap) A) args s 0 0 A) (F0 m 69 ls []) := by
                intro k0
                induction k0 with
                | zero => intro i2 hk; exact absurd hk (Nat.not_lt_zero _)
                | succ k0 ih_LX =>
                  intro i2 hk hi2 H locs hP hD hS ls hl
                  refine lv_iload_n hx hb dX2_chain_69 rfl (lv_at hl 3 rfl) ?_
                  refine lv_iload_n hx hb dX2_chain_70 rfl (lv_at hl 1 rfl) ?_
                  refine zr_icmp_ge (tgt := 91) hx hb dX2_chain_71 (by decide) (zB_of (by omega) (by omega)) (zB_of (by omega) (by omega)) (fun c3 => ?_) (fun c3 => ?_)
                  · refine lv_iload_n hx hb dX2_chain_91 rfl (lv_at hl 2 rfl) ?_
                    exact zWi_ret hx hb hr hlocks hS dX2_chain_92 ch2 (by rw [show i2 = n by omega]; exact congrArg iI (zMx_congr n hce)) hP
                  · refine lv_iload_n hx hb dX2_chain_74 rfl (lv_at hl 2 rfl) ?_
                    refine lv_aload_n hx hb dX2_chain_75 rfl (lv_at hl 0 rfl) ?_
                    refine va_get (D := D) (ci := 2) (v := .ref CH) (C := RX2) (T := TX2) (N := 9) hx hb hts (by decide +kernel) hown hK hP 0 rfl rfl 5 (by decide) (hts (.fieldLink RX2 33 "RentHarmony" "chains" "[I") (by decide +kernel)) (fun _ h9 => h9) rfl dX2_chain_76 ?_
                    refine lv_iload_n hx hb dX2_chain_79 rfl (lv_at hl 3 rfl) ?_
                    refine zr_iald hx hb hK hP 8 0 rfl rfl (i2) (by omega) (by omega) (by omega) dX2_chain_80 ?_
                    have q1 := zMx_b (f := ch2) (M := 6) (by decide) i2 (fun a ha => by have q3 := hce a (by omega); have q4 := (hL.1 a (by omega)).2; omega)
                    have q3 := hce i2 (by omega)
                    have q4 := hL.1 i2 (by omega)
                    refine zr_max (rest := []) hx hb (hml.trans hl.1.symm) hown (hts (.methodLink RX2 123 Lib.Math.max.name) (by decide +kernel)) (hts (.static Lib.Math.max.name) (by decide +kernel)) (hts (.initialized "java/lang/Math") (by decide +kernel)) (hts (.code Lib.Math.max.name Lib.Math.max.code 2 (some .int)) (by decide +kernel)) (Nat.le_of_ble_eq_true rfl) (Nat.le_of_ble_eq_true rfl) (Nat.zero_le _) (Nat.zero_le _) (zB_of (by omega) (by omega)) (zB_of (by omega) (by omega)) dX2_chain_81 ?_
                    refine lv_istore_n (lv' := [(2, .int (iI (max (zMx ch2 i2) (ch2 (i2))))), (0, .ref h), (1, .int (iI ((n : Nat) : Int))), (3, .int (iI ((i2 : Nat) : Int)))]) hx hb dX2_chain_84 rfl hl (by decide) rfl (fun ls hl => ?_)
                    refine zr_iinc (lv2 := [(3, .int (iI (((i2 : Nat) : Int) + 1))), (2, .int (iI (max (zMx ch2 i2) (ch2 (i2))))), (0, .ref h), (1, .int (iI ((n : Nat) : Int)))]) hx hb dX2_chain_85 hl (k0 := 3) rfl (by decide) rfl (fun ls hl => ?_)
                    have hl : lv_has ls 4 [(3, .int (iI ((i2 + 1 : Nat) : Int))), (2, .int (iI (max (zMx ch2 i2) (ch2 (i2))))), (0, .ref h), (1, .int (iI ((n : Nat) : Int)))] := hl
                    refine lv_goto (tgt := 69) hx hb dX2_chain_88 (by decide) ?_
                    have hl : lv_has ls 4 [(3, .int (iI ((i2 + 1 : Nat) : Int))), (2, .int (iI (zMx ch2 (i2 + 1)))), (0, .ref h), (1, .int (iI ((n : Nat) : Int)))] := by rw [show (zMx ch2 (i2 + 1)) = (max (zMx ch2 i2) (ch2 (i2))) from rfl]; exact hl
                    exact ih_LX (i2 + 1) (by omega) (by omega) _ _ hP hD hS _ (lv_sub hl [2, 3, 1, 0] rfl)
              have hl : lv_has ls 4 [(3, .int (iI ((0 : Nat) : Int))), (2, .int (iI (zMx ch2 0))), (0, .ref h), (1, .int (iI ((n : Nat) : Int)))] := by rw [show (zMx ch2 0) = ((0 : Nat) : Int) from rfl]; exact hl
              exact LX ((n - (0)) + 1) (0) (Nat.lt_succ_self _) (by omega) _ _ hP hD hS _ (lv_sub hl [2, 3, 1, 0] rfl)
            · refine zr_ic (n := ((0 : Nat) : Int)) hx hb dX2_chain_35 ?_
              refine lv_istore_n (lv' := [(3, .int (iI ((0 : Nat) : Int))), (0, .ref h), (1, .int (iI ((n : Nat) : Int))), (2, .int (iI ((k : Nat) : Int)))]) hx hb dX2_chain_36 rfl hl (by decide) rfl (fun ls hl => ?_)
              have LM : ∀ (k0 : Nat) (m1 : Nat) (ch3 : Nat → Int), n - m1 < k0 → (hm : m1 ≤ n) → (hI3 : zChI n L k m1 ch3) → ∀ (H : Heap) (locs : List Loc), va_P D vwCl [(h, .inr (2, [.ref B, .ref G, .ref TB, .ref TG, .ref FR, .ref CH, .int (iI (rc)), .int (iI (sh)), .int (iI (po))])), (B, .inr (0, [.ref C, .int (iI ((n : Nat) : Int))])), (C, zArr cI 36 b), (G, .inr (1, [.ref GB, .ref GW, .ref GR])), (GB, zArr cI 64 bo), (GW, zArr cI 64 wo), (GR, zArr cI 6 ro), (FR, zArr cI 6 fr), (CH, zArr cI 6 ch3)] H → va_D A [(h, .inr (2, [.ref B, .ref G, .ref TB, .ref TG, .ref FR, .ref CH, .int (iI (rc)), .int (iI (sh)), .int (iI (po))])), (B, .inr (0, [.ref C, .int (iI ((n : Nat) : Int))])), (C, zArr cI 36 b), (G, .inr (1, [.ref GB, .ref GW, .ref GR])), (GB, zArr cI 64 bo), (GW, zArr cI 64 wo), (GR, zArr cI 6 ro), (FR, zArr cI 6 fr), (CH, zArr cI 6 ch3)] → va_S A s.heap H locs → ∀ (ls : Array Slot), lv_has ls 4 [(0, .ref h), (1, .int (iI ((n : Nat) : Int))), (2, .int (iI ((k : Nat) : Int))), (3, .int (iI ((m1 : Nat) : Int)))] → W p l e (zRm 5 109) s m args below meth c H locs 0 0 (MQ below (va_Qi (S := (Nat → Int)) (fun r u8 => r = iI (zMx L n)) (fun u9 t9 => va_P D vwCl ((fun u8 => [(h, .inr (2, [.ref B, .ref G, .ref TB, .ref TG, .ref FR, .ref CH, .int (iI (rc)), .int (iI (sh)), .int (iI (po))])), (B, .inr (0, [.ref C, .int (iI ((n : Nat) : Int))])), (C, zArr cI 36 b), (G, .inr (1, [.ref GB, .ref GW, .ref GR])), (GB, zArr cI 64 bo), (GW, zArr cI 64 wo), (GR, zArr cI 6 ro), (FR, zArr cI 6 fr), (CH, zArr cI 6 u8)]) u9) t9.heap) A) args s 0 0 A) (F0 m 37 ls []) := by
                intro k0
                induction k0 with
                | zero => intro m1 ch3 hk; exact absurd hk (Nat.not_lt_zero _)
                | succ k0 ih_LM =>
                  intro m1 ch3 hk hm hI3 H locs hP hD hS ls hl
                  refine lv_iload_n hx hb dX2_chain_37 rfl (lv_at hl 3 rfl) ?_
                  refine lv_iload_n hx hb dX2_chain_38 rfl (lv_at hl 1 rfl) ?_
                  refine zr_icmp_ge (tgt := 59) hx hb dX2_chain_39 (by decide) (zB_of (by omega) (by omega)) (zB_of (by omega) (by omega)) (fun c4 => ?_) (fun c4 => ?_)
                  · refine zr_iinc (lv2 := [(2, .int (iI (((k : Nat) : Int) + 1))), (0, .ref h), (1, .int (iI ((n : Nat) : Int))), (3, .int (iI ((m1 : Nat) : Int)))]) hx hb dX2_chain_59 hl (k0 := 2) rfl (by decide) rfl (fun ls hl => ?_)
                    have hl : lv_has ls 4 [(2, .int (iI ((k + 1 : Nat) : Int))), (0, .ref h), (1, .int (iI ((n : Nat) : Int))), (3, .int (iI ((m1 : Nat) : Int)))] := hl
                    refine lv_goto (tgt := 30) hx hb dX2_chain_62 (by decide) ?_
                    exact ih_LK (k + 1) (ch3) (by omega) (by omega) (by omega) (zChI_round (by omega) hI3) _ _ hP hD hS _ (lv_sub hl [1, 2, 0] rfl)
                  · refine lv_aload_n hx hb dX2_chain_42 rfl (lv_at hl 0 rfl) ?_
                    refine va_get (D := D) (ci := 2) (v := .ref CH) (C := RX2) (T := TX2) (N := 9) hx hb hts (by decide +kernel) hown hK hP 0 rfl rfl 5 (by decide) (hts (.fieldLink RX2 33 "RentHarmony" "chains" "[I") (by decide +kernel)) (fun _ h9 => h9) rfl dX2_chain_43 ?_
                    refine lv_iload_n hx hb dX2_chain_46 rfl (lv_at hl 3 rfl) ?_
                    have hch : ∀ j, j < n → 1 ≤ ch3 j ∧ ch3 j ≤ 6 := fun j hj => by have q1 := hI3 j hj; have q2 := (hL.1 j hj).2; omega
                    refine lv_aload_n hx hb dX2_chain_47 rfl (lv_at hl 0 rfl) ?_
                    refine lv_iload_n hx hb dX2_chain_48 rfl (lv_at hl 3 rfl) ?_
                    refine zc_ri (As := [.int (iI ((m1 : Nat) : Int))]) (rest := [.int (iI ((m1 : Nat) : Int)), .ref CH]) hF (c_X2_longestChainFrom l D cI h B C G GB GW GR TB TG FR CH n b bo wo ro fr rc sh po g ch3 m1 (by omega) (by assumption) (by assumption) (by assumption) (by omega) (by assumption)) (cwV 1 hts gX2_chain_X2_longestChainFrom rfl rfl rfl (by decide +kernel) ⟨Nat.le_of_ble_eq_true rfl, Nat.le_of_ble_eq_true rfl⟩) hK hP [0, 1, 2, 3, 4, 5, 6, 7, 8] rfl 0 rfl 0 rfl rfl rfl rfl hl.1 rfl (Nat.le_of_ble_eq_true rfl) dX2_chain_49 ⟨Nat.zero_le _, Nat.zero_le _⟩ ?_
                    refine zr_iast hx hb hK hP hD hS 8 0 rfl rfl (m1) (by omega) (by omega) (by omega) dX2_chain_52 (fun H locs hP hD hS => ?_)
                    have hP : va_P D vwCl [(h, .inr (2, [.ref B, .ref G, .ref TB, .ref TG, .ref FR, .ref CH, .int (iI (rc)), .int (iI (sh)), .int (iI (po))])), (B, .inr (0, [.ref C, .int (iI ((n : Nat) : Int))])), (C, zArr cI 36 b), (G, .inr (1, [.ref GB, .ref GW, .ref GR])), (GB, zArr cI 64 bo), (GW, zArr cI 64 wo), (GR, zArr cI 6 ro), (FR, zArr cI 6 fr), (CH, zArr cI 6 (uZ ch3 (m1) (zLc b g ch3 m1 n)))] H := hP
                    have hD : va_D A [(h, .inr (2, [.ref B, .ref G, .ref TB, .ref TG, .ref FR, .ref CH, .int (iI (rc)), .int (iI (sh)), .int (iI (po))])), (B, .inr (0, [.ref C, .int (iI ((n : Nat) : Int))])), (C, zArr cI 36 b), (G, .inr (1, [.ref GB, .ref GW, .ref GR])), (GB, zArr cI 64 bo), (GW, zArr cI 64 wo), (GR, zArr cI 6 ro), (FR, zArr cI 6 fr), (CH, zArr cI 6 (uZ ch3 (m1) (zLc b g ch3 m1 n)))] := hD
                    refine zr_iinc (lv2 := [(3, .int (iI (((m1 : Nat) : Int) + 1))), (0, .ref h), (1, .int (iI ((n : Nat) : Int))), (2, .int (iI ((k : Nat) : Int)))]) hx hb dX2_chain_53 hl (k0 := 3) rfl (by decide) rfl (fun ls hl => ?_)
                    have hl : lv_has ls 4 [(3, .int (iI ((m1 + 1 : Nat) : Int))), (0, .ref h), (1, .int (iI ((n : Nat) : Int))), (2, .int (iI ((k : Nat) : Int)))] := hl
                    refine lv_goto (tgt := 37) hx hb dX2_chain_56 (by decide) ?_
                    exact ih_LM (m1 + 1) ((uZ ch3 (m1) (zLc b g ch3 m1 n))) (by omega) (by omega) (zChI_step hL (by omega) hI3) _ _ hP hD hS _ (lv_sub hl [1, 2, 3, 0] rfl)
              exact LM ((n - (0)) + 1) (0) (ch2) (Nat.lt_succ_self _) (Nat.zero_le _) hI _ _ hP hD hS _ (lv_sub hl [1, 2, 3, 0] rfl)
        exact LK ((n - (1)) + 1) (1) (ch1) (Nat.lt_succ_self _) (Nat.le_refl _) (by decide) (zChI_start hL (fun a ha => hz a (by omega))) _ _ hP hD hS _ (lv_sub hl [1, 2, 0] rfl)
      · refine lv_aload_n hx hb dX2_chain_15 rfl (lv_at hl 0 rfl) ?_
        refine va_get (D := D) (ci := 2) (v := .ref CH) (C := RX2) (T := TX2) (N := 9) hx hb hts (by decide +kernel) hown hK hP 0 rfl rfl 5 (by decide) (hts (.fieldLink RX2 33 "RentHarmony" "chains" "[I") (by decide +kernel)) (fun _ h9 => h9) rfl dX2_chain_16 ?_
        refine lv_iload_n hx hb dX2_chain_19 rfl (lv_at hl 2 rfl) ?_
        refine zr_ic (n := ((1 : Nat) : Int)) hx hb dX2_chain_20 ?_
        refine zr_iast hx hb hK hP hD hS 8 0 rfl rfl (i) (by omega) (by omega) (by omega) dX2_chain_21 (fun H locs hP hD hS => ?_)
        have hP : va_P D vwCl [(h, .inr (2, [.ref B, .ref G, .ref TB, .ref TG, .ref FR, .ref CH, .int (iI (rc)), .int (iI (sh)), .int (iI (po))])), (B, .inr (0, [.ref C, .int (iI ((n : Nat) : Int))])), (C, zArr cI 36 b), (G, .inr (1, [.ref GB, .ref GW, .ref GR])), (GB, zArr cI 64 bo), (GW, zArr cI 64 wo), (GR, zArr cI 6 ro), (FR, zArr cI 6 fr), (CH, zArr cI 6 (uZ ch1 (i) ((1 : Nat) : Int)))] H := hP
        have hD : va_D A [(h, .inr (2, [.ref B, .ref G, .ref TB, .ref TG, .ref FR, .ref CH, .int (iI (rc)), .int (iI (sh)), .int (iI (po))])), (B, .inr (0, [.ref C, .int (iI ((n : Nat) : Int))])), (C, zArr cI 36 b), (G, .inr (1, [.ref GB, .ref GW, .ref GR])), (GB, zArr cI 64 bo), (GW, zArr cI 64 wo), (GR, zArr cI 6 ro), (FR, zArr cI 6 fr), (CH, zArr cI 6 (uZ ch1 (i) ((1 : Nat) : Int)))] := hD
        refine zr_iinc (lv2 := [(2, .int (iI (((i : Nat) : Int) + 1))), (0, .ref h), (1, .int (iI ((n : Nat) : Int)))]) hx hb dX2_chain_22 hl (k0 := 2) rfl (by decide) rfl (fun ls hl => ?_)
        have hl : lv_has ls 4 [(2, .int (iI ((i + 1 : Nat) : Int))), (0, .ref h), (1, .int (iI ((n : Nat) : Int)))] := hl
        refine lv_goto (tgt := 10) hx hb dX2_chain_25 (by decide) ?_
        exact ih_LZ (i + 1) ((uZ ch1 (i) ((1 : Nat) : Int))) (by omega) (by omega) (fun a ha => by by_cases e8 : a = i; rw [e8, uZ_s]; rfl; rw [uZ_n _ _ e8]; exact hz a (by omega)) _ _ hP hD hS _ (lv_sub hl [1, 2, 0] rfl)
  exact LZ ((n - (0)) + 1) (0) (ch) (Nat.lt_succ_self _) (Nat.zero_le _) (fun a ha => absurd ha (Nat.not_lt_zero _)) _ _ hP hD hS _ (lv_sub hl [2, 1, 0] rfl)
