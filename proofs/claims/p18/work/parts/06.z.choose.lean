theorem zD_full {n : Nat} {b : Nat → Int} (hn : n ≤ 6) : zD n b (2 ^ n - 1) = some (0, 1, []) := by
  unfold zD
  rw [(zT_full hn).1, Nat.sub_self]
  rfl
theorem zPop_le {n u : Nat} (hn : n ≤ 6) (hu : u < 2 ^ n) : zPop u ≤ n := by have := zT_cnt hn hu; omega
theorem zGetD_app {p q : List Nat} {j : Nat} (h : j < p.length) : (p ++ q).getD j 0 = p.getD j 0 := by
  rw [List.getD_eq_getElem?_getD, List.getD_eq_getElem?_getD, List.getElem?_append_left h]
theorem zGetD_snoc {p : List Nat} {r : Nat} : (p ++ [r]).getD p.length 0 = r := by
  rw [List.getD_eq_getElem?_getD, List.getElem?_append_right (Nat.le_refl _), Nat.sub_self]
  rfl
theorem zSnoc {p : List Nat} {r k : Nat} {ro : Nat → Int} (hl : p.length = k) (h : ∀ j, j < k → ro j = ((p.getD j 0 : Nat) : Int)) : ∀ j, j < k + 1 → uZ ro k (r : Int) j = (((p ++ [r]).getD j 0 : Nat) : Int) := by
  intro j hj
  by_cases e : j = k
  · subst e; rw [uZ_s, ← hl, zGetD_snoc]
  · rw [uZ_n _ _ e, h j (by omega), zGetD_app (by omega)]
theorem zRooms_step {n u : Nat} {b : Nat → Int} {l pre : List Nat} (hn : n ≤ 6) (hu : u < 2 ^ n) (hf : u ≠ 2 ^ n - 1) (h : l = pre ++ zRooms (zD n b u)) : l = (pre ++ [zHd n b u]) ++ zRooms (zD n b (u ||| 1 <<< zHd n b u)) := by
  obtain ⟨y, -, -, h3, -, h5, -⟩ := zHd_spec (b := b) hn hu hf
  rw [h, h5, h3, List.append_assoc]
  rfl
/-- the cells behind a giving: worth, ways, rooms -/
def zGiven (n : Nat) (b : Nat → Int) (u : (Nat → Int) × (Nat → Int) × (Nat → Int)) : Prop := u.1 0 = zWo n b ∧ u.2.1 0 = zWy n b ∧ ∀ j, j < n → u.2.2 j = ((zRo n b j : Nat) : Int)
theorem c_X1_roomOfN (l : Launch) (D : va_G) (cI : ClassId) (G GB GW GR : Nat) (bo wo ro : Nat → Int) (g : Nat → Nat) (j : Nat) (hj : j < 6) (hg : ro j = ((g j : Nat) : Int)) : zRi l yX1_roomOf wsX1_roomOf 0 0 D cI [.ref G, .int (iI ((j : Nat) : Int))] [(G, .inr (1, [.ref GB, .ref GW, .ref GR])), (GB, zArr cI 64 bo), (GW, zArr cI 64 wo), (GR, zArr cI 6 ro)] (iI ((g j : Nat) : Int)) := by
  rw [← hg]
  exact c_X1_roomOf l D cI G GB GW GR bo wo ro j hj

set_option maxHeartbeats 4000000 in
set_option maxRecDepth 100000 in
/-- X1_choose -/
theorem c_X1_choose (l : Launch) (D : va_G) (cI : ClassId) (G GB GW GR : Nat) (bo wo ro : Nat → Int) (B C n : Nat) (b : Nat → Int) (hn : n ≤ 6) (hb0 : ∀ k, 0 ≤ b k ∧ b k ≤ 999) : zWv (S := (Nat → Int) × (Nat → Int) × (Nat → Int)) l yX1_choose wsX1_choose 3 71 D cI [.ref G, .ref B] [(G, .inr (1, [.ref GB, .ref GW, .ref GR])), (GB, zArr cI 64 bo), (GW, zArr cI 64 wo), (GR, zArr cI 6 ro), (B, .inr (0, [.ref C, .int (iI ((n : Nat) : Int))])), (C, zArr cI 36 b)] (zGiven n b) (fun u8 => [(G, .inr (1, [.ref GB, .ref GW, .ref GR])), (GB, zArr cI 64 u8.1), (GW, zArr cI 64 u8.2.1), (GR, zArr cI 6 u8.2.2), (B, .inr (0, [.ref C, .int (iI ((n : Nat) : Int))])), (C, zArr cI 36 b)]) := by
  refine zWv_of (cc := cX1_choose) (maxL := 5) (by decide) rfl (Nat.le_of_ble_eq_true rfl) ?_
  intro p e s m args below meth c ls A hF hr hlocks hP hK hD hS hl
  have hF : zFix p m c cX1_choose 5 s args wsX1_choose RX1 := hF
  obtain ⟨hx, hb, hml, hown, hts⟩ := id hF
  have hP : va_P D vwCl [(G, .inr (1, [.ref GB, .ref GW, .ref GR])), (GB, zArr cI 64 bo), (GW, zArr cI 64 wo), (GR, zArr cI 6 ro), (B, .inr (0, [.ref C, .int (iI ((n : Nat) : Int))])), (C, zArr cI 36 b)] s.heap := hP
  have hD : va_D A [(G, .inr (1, [.ref GB, .ref GW, .ref GR])), (GB, zArr cI 64 bo), (GW, zArr cI 64 wo), (GR, zArr cI 6 ro), (B, .inr (0, [.ref C, .int (iI ((n : Nat) : Int))])), (C, zArr cI 36 b)] := hD
  skip
  have hl : lv_has ls 5 [(0, .ref G), (1, .ref B)] := hl
  have hpw := (zT_full hn).2
  refine zr_ic (n := ((1 : Nat) : Int)) hx hb dX1_choose_0 ?_
  refine lv_aload_n hx hb dX1_choose_1 rfl (lv_at hl 1 rfl) ?_
  refine zc_ri (As := []) (rest := [.int (iI ((1 : Nat) : Int))]) hF (c_X0_size l D cI B C n b ) (cwV 0 hts gX1_choose_X0_size rfl rfl rfl (by decide +kernel) ⟨Nat.le_of_ble_eq_true rfl, Nat.le_of_ble_eq_true rfl⟩) hK hP [4, 5] rfl 0 rfl 0 rfl rfl rfl rfl hl.1 rfl (Nat.le_of_ble_eq_true rfl) dX1_choose_2 ⟨Nat.zero_le _, Nat.zero_le _⟩ ?_
  refine lv_ishl hx hb dX1_choose_5 ?_
  refine zr_top (w := .int (iI ((2 ^ n : Nat) : Int))) (congrArg Value.int (zb_shl hn)) ?_
  refine zr_ic (n := ((1 : Nat) : Int)) hx hb dX1_choose_6 ?_
  refine zr_sub hx hb dX1_choose_7 ?_
  refine zr_topi (show (((2 ^ n : Nat) : Int) - ((1 : Nat) : Int)) = ((2 ^ n - 1 : Nat) : Int) from (by omega)) ?_
  refine lv_istore_n (lv' := [(2, .int (iI ((2 ^ n - 1 : Nat) : Int))), (0, .ref G), (1, .ref B)]) hx hb dX1_choose_8 rfl hl (by decide) rfl (fun ls hl => ?_)
  refine lv_aload_n hx hb dX1_choose_9 rfl (lv_at hl 1 rfl) ?_
  refine va_get (D := D) (ci := 1) (v := .ref GB) (C := RX1) (T := TX1) (N := 3) hx hb hts (by decide +kernel) hown hK hP 0 rfl rfl 0 (by decide) (hts (.fieldLink RX1 9 "RentHarmony$Giving" "bestOfRest" "[I") (by decide +kernel)) (fun _ h9 => h9) rfl dX1_choose_10 ?_
  refine lv_iload_n hx hb dX1_choose_13 rfl (lv_at hl 0 rfl) ?_
  refine zr_ic (n := ((0 : Nat) : Int)) hx hb dX1_choose_14 ?_
  refine zr_iast hx hb hK hP hD hS 1 0 rfl rfl (2 ^ n - 1) (by omega) (by omega) (by omega) dX1_choose_15 (fun H locs hP hD hS => ?_)
  have hP : va_P D vwCl [(G, .inr (1, [.ref GB, .ref GW, .ref GR])), (GB, zArr cI 64 (uZ bo (2 ^ n - 1) ((0 : Nat) : Int))), (GW, zArr cI 64 wo), (GR, zArr cI 6 ro), (B, .inr (0, [.ref C, .int (iI ((n : Nat) : Int))])), (C, zArr cI 36 b)] H := hP
  have hD : va_D A [(G, .inr (1, [.ref GB, .ref GW, .ref GR])), (GB, zArr cI 64 (uZ bo (2 ^ n - 1) ((0 : Nat) : Int))), (GW, zArr cI 64 wo), (GR, zArr cI 6 ro), (B, .inr (0, [.ref C, .int (iI ((n : Nat) : Int))])), (C, zArr cI 36 b)] := hD
  refine lv_aload_n hx hb dX1_choose_16 rfl (lv_at hl 1 rfl) ?_
  refine va_get (D := D) (ci := 1) (v := .ref GW) (C := RX1) (T := TX1) (N := 3) hx hb hts (by decide +kernel) hown hK hP 0 rfl rfl 1 (by decide) (hts (.fieldLink RX1 15 "RentHarmony$Giving" "waysOfRest" "[I") (by decide +kernel)) (fun _ h9 => h9) rfl dX1_choose_17 ?_
  refine lv_iload_n hx hb dX1_choose_20 rfl (lv_at hl 0 rfl) ?_
  refine zr_ic (n := ((1 : Nat) : Int)) hx hb dX1_choose_21 ?_
  refine zr_iast hx hb hK hP hD hS 2 0 rfl rfl (2 ^ n - 1) (by omega) (by omega) (by omega) dX1_choose_22 (fun H locs hP hD hS => ?_)
  have hP : va_P D vwCl [(G, .inr (1, [.ref GB, .ref GW, .ref GR])), (GB, zArr cI 64 (uZ bo (2 ^ n - 1) ((0 : Nat) : Int))), (GW, zArr cI 64 (uZ wo (2 ^ n - 1) ((1 : Nat) : Int))), (GR, zArr cI 6 ro), (B, .inr (0, [.ref C, .int (iI ((n : Nat) : Int))])), (C, zArr cI 36 b)] H := hP
  have hD : va_D A [(G, .inr (1, [.ref GB, .ref GW, .ref GR])), (GB, zArr cI 64 (uZ bo (2 ^ n - 1) ((0 : Nat) : Int))), (GW, zArr cI 64 (uZ wo (2 ^ n - 1) ((1 : Nat) : Int))), (GR, zArr cI 6 ro), (B, .inr (0, [.ref C, .int (iI ((n : Nat) : Int))])), (C, zArr cI 36 b)] := hD
  refine lv_iload_n hx hb dX1_choose_23 rfl (lv_at hl 0 rfl) ?_
  refine zr_ic (n := ((1 : Nat) : Int)) hx hb dX1_choose_24 ?_
  refine zr_sub hx hb dX1_choose_25 ?_
  refine lv_istore_n (lv' := [(3, .int (iI (((2 ^ n - 1 : Nat) : Int) - ((1 : Nat) : Int)))), (2, .int (iI ((2 ^ n - 1 : Nat) : Int))), (0, .ref G), (1, .ref B)]) hx hb dX1_choose_26 rfl hl (by decide) rfl (fun ls hl => ?_)
  have L1 : ∀ (k0 : Nat) (j : Nat) (bo1 : Nat → Int) (wo1 : Nat → Int), j < k0 → (hj : j ≤ 2 ^ n - 1) → (hDP : ∀ u, j ≤ u → u < 2 ^ n → bo1 u = zBest (zD n b u) ∧ wo1 u = zWays (zD n b u)) → ∀ (H : Heap) (locs : List Loc), va_P D vwCl [(G, .inr (1, [.ref GB, .ref GW, .ref GR])), (GB, zArr cI 64 bo1), (GW, zArr cI 64 wo1), (GR, zArr cI 6 ro), (B, .inr (0, [.ref C, .int (iI ((n : Nat) : Int))])), (C, zArr cI 36 b)] H → va_D A [(G, .inr (1, [.ref GB, .ref GW, .ref GR])), (GB, zArr cI 64 bo1), (GW, zArr cI 64 wo1), (GR, zArr cI 6 ro), (B, .inr (0, [.ref C, .int (iI ((n : Nat) : Int))])), (C, zArr cI 36 b)] → va_S A s.heap H locs → ∀ (ls : Array Slot), lv_has ls 5 [(0, .ref G), (1, .ref B), (2, .int (iI ((2 ^ n - 1 : Nat) : Int))), (3, .int (iI ((j : Int) - 1)))] → W p l e (zRm 3 71) s m args below meth c H locs 0 0 (MQ below (va_Qv (S := (Nat → Int) × (Nat → Int) × (Nat → Int)) (zGiven n b) (fun u9 t9 => va_P D vwCl ((fun u8 => [(G, .inr (1, [.ref GB, .ref GW, .ref GR])), (GB, zArr cI 64 u8.1), (GW, zArr cI 64 u8.2.1), (GR, zArr cI 6 u8.2.2), (B, .inr (0, [.ref C, .int (iI ((n : Nat) : Int))])), (C, zArr cI 36 b)]) u9) t9.heap) A) args s 0 0 A) (F0 m 27 ls []) := by
    intro k0
    induction k0 with
    | zero => intro j bo1 wo1 hk; exact absurd hk (Nat.not_lt_zero _)
    | succ k0 ih_L1 =>
      intro j bo1 wo1 hk hj hDP H locs hP hD hS ls hl
      refine lv_iload_n hx hb dX1_choose_27 rfl (lv_at hl 3 rfl) ?_
      refine zr_if_lt (tgt := 43) hx hb dX1_choose_28 (by decide) (zB_of (by omega) (by omega)) (fun c1 => ?_) (fun c1 => ?_)
      · have hj0 : j = 0 := by omega
        have hDP : ∀ u, u < 2 ^ n → bo1 u = zBest (zD n b u) ∧ wo1 u = zWays (zD n b u) := fun u hu => hDP u (by omega) hu
        refine zr_ic (n := ((0 : Nat) : Int)) hx hb dX1_choose_43 ?_
        refine lv_istore_n (lv' := [(3, .int (iI ((0 : Nat) : Int))), (0, .ref G), (1, .ref B), (2, .int (iI ((2 ^ n - 1 : Nat) : Int)))]) hx hb dX1_choose_44 rfl hl (by decide) rfl (fun ls hl => ?_)
        refine zr_ic (n := ((0 : Nat) : Int)) hx hb dX1_choose_45 ?_
        refine lv_istore (lv' := [(4, .int (iI ((0 : Nat) : Int))), (3, .int (iI ((0 : Nat) : Int))), (0, .ref G), (1, .ref B), (2, .int (iI ((2 ^ n - 1 : Nat) : Int)))]) hx hb dX1_choose_46 hl (by decide) rfl (fun ls hl => ?_)
        have L2 : ∀ (k0 : Nat) (u : Nat) (pre : List Nat) (ro1 : Nat → Int), n - zPop u < k0 → (hu : u < 2 ^ n) → (hple : zPop u ≤ n) → (hpre : zRooms (zD n b 0) = pre ++ zRooms (zD n b u)) → (hlen : pre.length = zPop u) → (hro : ∀ j, j < zPop u → ro1 j = ((pre.getD j 0 : Nat) : Int)) → ∀ (H : Heap) (locs : List Loc), va_P D vwCl [(G, .inr (1, [.ref GB, .ref GW, .ref GR])), (GB, zArr cI 64 bo1), (GW, zArr cI 64 wo1), (GR, zArr cI 6 ro1), (B, .inr (0, [.ref C, .int (iI ((n : Nat) : Int))])), (C, zArr cI 36 b)] H → va_D A [(G, .inr (1, [.ref GB, .ref GW, .ref GR])), (GB, zArr cI 64 bo1), (GW, zArr cI 64 wo1), (GR, zArr cI 6 ro1), (B, .inr (0, [.ref C, .int (iI ((n : Nat) : Int))])), (C, zArr cI 36 b)] → va_S A s.heap H locs → ∀ (ls : Array Slot), lv_has ls 5 [(0, .ref G), (1, .ref B), (2, .int (iI ((2 ^ n - 1 : Nat) : Int))), (3, .int (iI ((u : Nat) : Int))), (4, .int (iI ((zPop u : Nat) : Int)))] → W p l e (zRm 3 71) s m args below meth c H locs 0 0 (MQ below (va_Qv (S := (Nat → Int) × (Nat → Int) × (Nat → Int)) (zGiven n b) (fun u9 t9 => va_P D vwCl ((fun u8 => [(G, .inr (1, [.ref GB, .ref GW, .ref GR])), (GB, zArr cI 64 u8.1), (GW, zArr cI 64 u8.2.1), (GR, zArr cI 6 u8.2.2), (B, .inr (0, [.ref C, .int (iI ((n : Nat) : Int))])), (C, zArr cI 36 b)]) u9) t9.heap) A) args s 0 0 A) (F0 m 48 ls []) := by
          intro k0
          induction k0 with
          | zero => intro u pre ro1 hk; exact absurd hk (Nat.not_lt_zero _)
          | succ k0 ih_L2 =>
            intro u pre ro1 hk hu hple hpre hlen hro H locs hP hD hS ls hl
            refine lv_iload hx hb dX1_choose_48 (lv_at hl 4 rfl) ?_
            refine lv_aload_n hx hb dX1_choose_50 rfl (lv_at hl 1 rfl) ?_
            refine zc_ri (As := []) (rest := [.int (iI ((zPop u : Nat) : Int))]) hF (c_X0_size l D cI B C n b ) (cwV 0 hts gX1_choose_X0_size rfl rfl rfl (by decide +kernel) ⟨Nat.le_of_ble_eq_true rfl, Nat.le_of_ble_eq_true rfl⟩) hK hP [4, 5] rfl 0 rfl 0 rfl rfl rfl rfl hl.1 rfl (Nat.le_of_ble_eq_true rfl) dX1_choose_51 ⟨Nat.zero_le _, Nat.zero_le _⟩ ?_
            refine zr_icmp_ge (tgt := 90) hx hb dX1_choose_54 (by decide) (zB_of (by omega) (by omega)) (zB_of (by omega) (by omega)) (fun c2 => ?_) (fun c2 => ?_)
            · have hle := zPop_le hn hu
              have e9 : zPop u = n := by omega
              exact zWv_ret hx hb hr hlocks hS dX1_choose_90 (bo1, wo1, ro1) ⟨(hDP 0 (zT_full hn).2.1).1, (hDP 0 (zT_full hn).2.1).2, fun j hj => by show ro1 j = (((zRooms (zD n b 0)).getD j 0 : Nat) : Int); rw [hpre, zGetD_app (by omega)]; exact hro j (by omega)⟩ hP
            · have hf : u ≠ 2 ^ n - 1 := fun e8 => by have h8 := (zT_full hn).1; rw [← e8] at h8; omega
              obtain ⟨y9, hs1, hs2, -⟩ := zHd_spec (b := b) hn hu hf
              obtain ⟨ho1, ho2, ho3⟩ := zT_or hn hu hs1 hs2
              have h64 : u < 64 := by omega
              refine lv_aload_n hx hb dX1_choose_57 rfl (lv_at hl 0 rfl) ?_
              refine va_get (D := D) (ci := 1) (v := .ref GR) (C := RX1) (T := TX1) (N := 3) hx hb hts (by decide +kernel) hown hK hP 0 rfl rfl 2 (by decide) (hts (.fieldLink RX1 18 "RentHarmony$Giving" "rooms" "[I") (by decide +kernel)) (fun _ h9 => h9) rfl dX1_choose_58 ?_
              refine lv_iload hx hb dX1_choose_61 (lv_at hl 4 rfl) ?_
              refine lv_aload_n hx hb dX1_choose_63 rfl (lv_at hl 0 rfl) ?_
              refine lv_aload_n hx hb dX1_choose_64 rfl (lv_at hl 1 rfl) ?_
              refine lv_iload hx hb dX1_choose_65 (lv_at hl 4 rfl) ?_
              refine lv_iload_n hx hb dX1_choose_67 rfl (lv_at hl 3 rfl) ?_
              refine zc_ri (As := [.ref B, .int (iI ((zPop u : Nat) : Int)), .int (iI ((u : Nat) : Int))]) (rest := [.int (iI ((zPop u : Nat) : Int)), .ref GR]) hF (c_X1_firstBestRoom l D cI G GB GW GR bo1 wo1 ro1 B C n b u (by omega) (by assumption) (by omega) (by omega) (fun u h2 => (hDP u h2).1)) (cwV 3 hts gX1_choose_X1_firstBestRoom rfl rfl rfl (by decide +kernel) ⟨Nat.le_of_ble_eq_true rfl, Nat.le_of_ble_eq_true rfl⟩) hK hP [0, 1, 2, 3, 4, 5] rfl 0 rfl 0 rfl rfl rfl rfl hl.1 rfl (Nat.le_of_ble_eq_true rfl) dX1_choose_68 ⟨Nat.zero_le _, Nat.zero_le _⟩ ?_
              refine zr_iast hx hb hK hP hD hS 3 0 rfl rfl (zPop u) (by omega) (by omega) (by omega) dX1_choose_71 (fun H locs hP hD hS => ?_)
              have hP : va_P D vwCl [(G, .inr (1, [.ref GB, .ref GW, .ref GR])), (GB, zArr cI 64 bo1), (GW, zArr cI 64 wo1), (GR, zArr cI 6 (uZ ro1 (zPop u) ((zHd n b u : Nat) : Int))), (B, .inr (0, [.ref C, .int (iI ((n : Nat) : Int))])), (C, zArr cI 36 b)] H := hP
              have hD : va_D A [(G, .inr (1, [.ref GB, .ref GW, .ref GR])), (GB, zArr cI 64 bo1), (GW, zArr cI 64 wo1), (GR, zArr cI 6 (uZ ro1 (zPop u) ((zHd n b u : Nat) : Int))), (B, .inr (0, [.ref C, .int (iI ((n : Nat) : Int))])), (C, zArr cI 36 b)] := hD
              refine lv_iload_n hx hb dX1_choose_72 rfl (lv_at hl 3 rfl) ?_
              refine zr_ic (n := ((1 : Nat) : Int)) hx hb dX1_choose_73 ?_
              refine lv_aload_n hx hb dX1_choose_74 rfl (lv_at hl 0 rfl) ?_
              refine va_get (D := D) (ci := 1) (v := .ref GR) (C := RX1) (T := TX1) (N := 3) hx hb hts (by decide +kernel) hown hK hP 0 rfl rfl 2 (by decide) (hts (.fieldLink RX1 18 "RentHarmony$Giving" "rooms" "[I") (by decide +kernel)) (fun _ h9 => h9) rfl dX1_choose_75 ?_
              refine lv_iload hx hb dX1_choose_78 (lv_at hl 4 rfl) ?_
              refine zr_iald hx hb hK hP 3 0 rfl rfl (zPop u) (by omega) (by omega) (by omega) dX1_choose_80 ?_
              refine zr_topi (show ((uZ ro1 (zPop u) ((zHd n b u : Nat) : Int)) (zPop u)) = ((zHd n b u : Nat) : Int) from (uZ_s _ _ _)) ?_
              refine lv_ishl hx hb dX1_choose_81 ?_
              refine lv_ior hx hb dX1_choose_82 ?_
              refine zr_top (w := .int (iI ((u ||| 1 <<< zHd n b u : Nat) : Int))) (congrArg Value.int (zb_or h64 (by omega))) ?_
              refine lv_istore_n (lv' := [(3, .int (iI ((u ||| 1 <<< zHd n b u : Nat) : Int))), (0, .ref G), (1, .ref B), (2, .int (iI ((2 ^ n - 1 : Nat) : Int))), (4, .int (iI ((zPop u : Nat) : Int)))]) hx hb dX1_choose_83 rfl hl (by decide) rfl (fun ls hl => ?_)
              refine zr_iinc (lv2 := [(4, .int (iI (((zPop u : Nat) : Int) + 1))), (3, .int (iI ((u ||| 1 <<< zHd n b u : Nat) : Int))), (0, .ref G), (1, .ref B), (2, .int (iI ((2 ^ n - 1 : Nat) : Int)))]) hx hb dX1_choose_84 hl (k0 := 4) rfl (by decide) rfl (fun ls hl => ?_)
              have hl : lv_has ls 5 [(4, .int (iI ((zPop u + 1 : Nat) : Int))), (3, .int (iI ((u ||| 1 <<< zHd n b u : Nat) : Int))), (0, .ref G), (1, .ref B), (2, .int (iI ((2 ^ n - 1 : Nat) : Int)))] := hl
              refine lv_goto (tgt := 48) hx hb dX1_choose_87 (by decide) ?_
              have hl : lv_has ls 5 [(4, .int (iI ((zPop (u ||| 1 <<< zHd n b u) : Nat) : Int))), (3, .int (iI ((u ||| 1 <<< zHd n b u : Nat) : Int))), (0, .ref G), (1, .ref B), (2, .int (iI ((2 ^ n - 1 : Nat) : Int)))] := by rw [show ((zPop (u ||| 1 <<< zHd n b u) : Nat) : Int) = ((zPop u + 1 : Nat) : Int) from by rw [ho3]]; exact hl
              exact ih_L2 (u ||| 1 <<< zHd n b u) (pre ++ [zHd n b u]) ((uZ ro1 (zPop u) ((zHd n b u : Nat) : Int))) (by omega) ho2 (zPop_le hn ho2) (zRooms_step hn hu hf hpre) (by rw [List.length_append, hlen, ho3]; rfl) (by rw [ho3]; exact zSnoc hlen hro) _ _ hP hD hS _ (lv_sub hl [2, 3, 4, 1, 0] rfl)
        have hl : lv_has ls 5 [(4, .int (iI ((zPop 0 : Nat) : Int))), (3, .int (iI ((0 : Nat) : Int))), (0, .ref G), (1, .ref B), (2, .int (iI ((2 ^ n - 1 : Nat) : Int)))] := by rw [show ((zPop 0 : Nat) : Int) = ((0 : Nat) : Int) from rfl]; exact hl
        exact L2 ((n - zPop (0)) + 1) (0) ([]) (ro) (Nat.lt_succ_self _) (zT_full hn).2.1 (by rw [zPop_0]; exact Nat.zero_le _) rfl rfl (fun j hj => absurd hj (Nat.not_lt_zero _)) _ _ hP hD hS _ (lv_sub hl [2, 3, 4, 1, 0] rfl)
      · refine lv_aload_n hx hb dX1_choose_31 rfl (lv_at hl 0 rfl) ?_
        refine lv_aload_n hx hb dX1_choose_32 rfl (lv_at hl 1 rfl) ?_
        refine lv_iload_n hx hb dX1_choose_33 rfl (lv_at hl 3 rfl) ?_
        refine zr_topi (show ((j : Int) - 1) = ((j - 1 : Nat) : Int) from (by omega)) ?_
        refine zc_wv (As := [.ref B, .int (iI ((j - 1 : Nat) : Int))]) (rest := []) hF (c_X1_weigh l D cI G GB GW GR bo1 wo1 ro B C n b (j - 1) (by omega) (by assumption) (by omega) (by omega) (fun u h1 h2 => hDP u (by omega) h2)) (cwV 2 hts gX1_choose_X1_weigh rfl rfl rfl (by decide +kernel) ⟨Nat.le_of_ble_eq_true rfl, Nat.le_of_ble_eq_true rfl⟩) hK hP hD hS [0, 1, 2, 3, 4, 5] rfl rfl (fun _ => rfl) 0 rfl 0 rfl rfl rfl rfl hl.1 rfl (Nat.le_of_ble_eq_true rfl) dX1_choose_34 ⟨Nat.zero_le _, Nat.zero_le _⟩ (fun u3 H locs hw hP hD hS => ?_)
        have hP : va_P D vwCl [(G, .inr (1, [.ref GB, .ref GW, .ref GR])), (GB, zArr cI 64 (uZ bo1 (j - 1) (zBest (zD n b (j - 1))))), (GW, zArr cI 64 (uZ wo1 (j - 1) (zWays (zD n b (j - 1))))), (GR, zArr cI 6 ro), (B, .inr (0, [.ref C, .int (iI ((n : Nat) : Int))])), (C, zArr cI 36 b)] H := hP
        have hD : va_D A [(G, .inr (1, [.ref GB, .ref GW, .ref GR])), (GB, zArr cI 64 (uZ bo1 (j - 1) (zBest (zD n b (j - 1))))), (GW, zArr cI 64 (uZ wo1 (j - 1) (zWays (zD n b (j - 1))))), (GR, zArr cI 6 ro), (B, .inr (0, [.ref C, .int (iI ((n : Nat) : Int))])), (C, zArr cI 36 b)] := hD
        refine zr_iinc (lv2 := [(3, .int (iI (((j : Int) - 1) + (-1)))), (0, .ref G), (1, .ref B), (2, .int (iI ((2 ^ n - 1 : Nat) : Int)))]) hx hb dX1_choose_37 hl (k0 := 3) rfl (by decide) rfl (fun ls hl => ?_)
        refine lv_goto (tgt := 27) hx hb dX1_choose_40 (by decide) ?_
        have hl : lv_has ls 5 [(3, .int (iI (((j - 1 : Nat) : Int) - 1))), (0, .ref G), (1, .ref B), (2, .int (iI ((2 ^ n - 1 : Nat) : Int)))] := by rw [show (((j - 1 : Nat) : Int) - 1) = (((j : Int) - 1) + (-1)) from by omega]; exact hl
        exact ih_L1 (j - 1) ((uZ bo1 (j - 1) (zBest (zD n b (j - 1))))) ((uZ wo1 (j - 1) (zWays (zD n b (j - 1))))) (by omega) (by omega) (fun u h1 h2 => by by_cases q : j - 1 < u; exact ⟨(uZ_n _ _ (by omega)).trans (hDP u (by omega) h2).1, (uZ_n _ _ (by omega)).trans (hDP u (by omega) h2).2⟩; have e8 : u = j - 1 := (by omega); rw [e8, uZ_s, uZ_s]; exact ⟨rfl, rfl⟩) _ _ hP hD hS _ (lv_sub hl [1, 2, 3, 0] rfl)
  have hl : lv_has ls 5 [(3, .int (iI (((2 ^ n - 1 : Nat) : Int) - 1))), (2, .int (iI ((2 ^ n - 1 : Nat) : Int))), (0, .ref G), (1, .ref B)] := by rw [show (((2 ^ n - 1 : Nat) : Int) - 1) = (((2 ^ n - 1 : Nat) : Int) - ((1 : Nat) : Int)) from by omega]; exact hl
  exact L1 (((2 ^ n - 1)) + 1) (2 ^ n - 1) ((uZ bo (2 ^ n - 1) ((0 : Nat) : Int))) ((uZ wo (2 ^ n - 1) ((1 : Nat) : Int))) (Nat.lt_succ_self _) (Nat.le_refl _) (fun u h1 h2 => by have e8 : u = 2 ^ n - 1 := (by omega); rw [e8, uZ_s, uZ_s, zD_full hn]; exact ⟨rfl, rfl⟩) _ _ hP hD hS _ (lv_sub hl [2, 3, 1, 0] rfl)
