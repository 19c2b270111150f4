abbrev zEn (b : Nat → Int) (g : Nat → Nat) (a c : Nat) : Prop := b (a * 6 + g a) < b (a * 6 + g c)
def zOwn (b : Nat → Int) (g : Nat → Nat) (j : Nat) : Int := b (j * 6 + g j)
def zPay (b : Nat → Int) (g : Nat → Nat) (fr : Nat → Int) (sh : Int) (j : Nat) : Int := b (j * 6 + g j) - (fr j + sh)
/-- by how much more the room of another brings, its early rebate left out -/
def zWt (b : Nat → Int) (g : Nat → Nat) (a c : Nat) : Int := b (a * 6 + g c) - b (c * 6 + g c)
def zEnvd (b : Nat → Int) (g : Nat → Nat) (a : Nat) : Nat → Int
  | 0 => 0
  | m + 1 => zEnvd b g a m + bZ (zEn b g a m)
def zLc (b : Nat → Int) (g : Nat → Nat) (ch : Nat → Int) (a : Nat) : Nat → Int
  | 0 => 1
  | m + 1 => if zEn b g a m then max (zLc b g ch a m) (ch m + 1) else zLc b g ch a m
def zBor (w : Nat → Nat → Int) (e : Nat → Int) (a : Nat) : Nat → Int
  | 0 => e a
  | m + 1 => max (zBor w e a m) (w a m + e m)
def zFact (n : Nat) (b : Nat → Int) (g : Nat → Nat) (fr : Nat → Int) (sh : Int) (j : Nat) : Nat → Int
  | 0 => ((g j : Nat) : Int)
  | 1 => b (j * 6 + g j)
  | 2 => fr j + sh
  | 3 => zPay b g fr sh j
  | 4 => fr j
  | _ => zEnvd b g j n
def zTot (n : Nat) (b : Nat → Int) (g : Nat → Nat) (fr : Nat → Int) (rc sh po wo wy : Int) : Nat → Int
  | 0 => (n : Int)
  | 1 => rc
  | 2 => wo
  | 3 => zSum fr n + sh * (n : Int)
  | 4 => po
  | 5 => wy
  | _ => zSum (zPay b g fr sh) n
theorem zEnvd_b (b : Nat → Int) (g : Nat → Nat) (a : Nat) : ∀ m : Nat, 0 ≤ zEnvd b g a m ∧ zEnvd b g a m ≤ m
  | 0 => by show (0 : Int) ≤ 0 ∧ (0 : Int) ≤ 0; omega
  | m + 1 => by
    have h := zEnvd_b b g a m
    show 0 ≤ zEnvd b g a m + bZ _ ∧ zEnvd b g a m + bZ _ ≤ ((m + 1 : Nat) : Int)
    rcases bZ_01 (zEn b g a m) with q | q <;> rw [q] <;> omega
theorem zBor_b {w : Nat → Nat → Int} {e : Nat → Int} {a : Nat} {M : Int} (h0 : 0 ≤ e a ∧ e a ≤ M) : ∀ m, (∀ c, c < m → w a c + e c ≤ M) → 0 ≤ zBor w e a m ∧ zBor w e a m ≤ M
  | 0, _ => h0
  | m + 1, h => by
    have h1 := zBor_b h0 m (fun c hc => h c (by omega))
    have h2 := h m (by omega)
    show 0 ≤ max (zBor w e a m) (w a m + e m) ∧ max (zBor w e a m) (w a m + e m) ≤ M
    omega
theorem zLc_b {b : Nat → Int} {g : Nat → Nat} {ch : Nat → Int} {a : Nat} {M : Int} (hM : 1 ≤ M) : ∀ m, (∀ c, c < m → ch c + 1 ≤ M) → 1 ≤ zLc b g ch a m ∧ zLc b g ch a m ≤ M
  | 0, _ => ⟨Int.le_refl _, hM⟩
  | m + 1, h => by
    have h1 := zLc_b (b := b) (g := g) (ch := ch) (a := a) hM m (fun c hc => h c (by omega))
    have h2 := h m (by omega)
    show 1 ≤ (if zEn b g a m then max (zLc b g ch a m) (ch m + 1) else zLc b g ch a m) ∧ (if zEn b g a m then max (zLc b g ch a m) (ch m + 1) else zLc b g ch a m) ≤ M
    split <;> omega

set_option maxHeartbeats 4000000 in
set_option maxRecDepth 100000 in
/-- X2_ownBidOf -/
theorem c_X2_ownBidOf (l : Launch) (D : va_G) (cI : ClassId) (h B C G GB GW GR TB TG FR CH n : Nat) (b bo wo ro fr : Nat → Int) (rc sh po : Int) (g : Nat → Nat) (j : Nat) (hn : n ≤ 6) (hb0 : ∀ k, 0 ≤ b k ∧ b k ≤ 999) (hro : ∀ j, j < n → ro j = ((g j : Nat) : Int)) (hgn : ∀ j, j < n → g j < n) (hj : j < n) : zRi l yX2_ownBidOf wsX2_ownBidOf 2 43 D cI [.ref h, .int (iI ((j : Nat) : Int))] [(h, .inr (2, [.ref B, .ref G, .ref TB, .ref TG, .ref FR, .ref CH, .int (iI (rc)), .int (iI (sh)), .int (iI (po))])), (B, .inr (0, [.ref C, .int (iI ((n : Nat) : Int))])), (C, zArr cI 36 b), (G, .inr (1, [.ref GB, .ref GW, .ref GR])), (GB, zArr cI 64 bo), (GW, zArr cI 64 wo), (GR, zArr cI 6 ro), (FR, zArr cI 6 fr)] (iI (b (j * 6 + g j))) := by
  refine zRi_of (cc := cX2_ownBidOf) (maxL := 2) (rt := .int) (by decide) rfl (Nat.le_of_ble_eq_true rfl) ?_
  intro p e s m args below meth c ls hF hr hlocks hP hK hl
  have hF : zFix p m c cX2_ownBidOf 2 s args wsX2_ownBidOf RX2 := hF
  obtain ⟨hx, hb, hml, hown, hts⟩ := id hF
  have hP : va_P D vwCl [(h, .inr (2, [.ref B, .ref G, .ref TB, .ref TG, .ref FR, .ref CH, .int (iI (rc)), .int (iI (sh)), .int (iI (po))])), (B, .inr (0, [.ref C, .int (iI ((n : Nat) : Int))])), (C, zArr cI 36 b), (G, .inr (1, [.ref GB, .ref GW, .ref GR])), (GB, zArr cI 64 bo), (GW, zArr cI 64 wo), (GR, zArr cI 6 ro), (FR, zArr cI 6 fr)] s.heap := hP
  have hl : lv_has ls 2 [(0, .ref h), (1, .int (iI ((j : Nat) : Int)))] := hl
  refine lv_aload_n hx hb dX2_ownBidOf_0 rfl (lv_at hl 0 rfl) ?_
  refine va_get (D := D) (ci := 2) (v := .ref B) (C := RX2) (T := TX2) (N := 9) hx hb hts (by decide +kernel) hown hK hP 0 rfl rfl 0 (by decide) (hts (.fieldLink RX2 10 "RentHarmony" "bids" "LRentHarmony$Bids;") (by decide +kernel)) (fun _ h9 => h9) rfl dX2_ownBidOf_1 ?_
  refine lv_iload_n hx hb dX2_ownBidOf_4 rfl (lv_at hl 1 rfl) ?_
  refine lv_aload_n hx hb dX2_ownBidOf_5 rfl (lv_at hl 0 rfl) ?_
  refine va_get (D := D) (ci := 2) (v := .ref G) (C := RX2) (T := TX2) (N := 9) hx hb hts (by decide +kernel) hown hK hP 0 rfl rfl 1 (by decide) (hts (.fieldLink RX2 19 "RentHarmony" "giving" "LRentHarmony$Giving;") (by decide +kernel)) (fun _ h9 => h9) rfl dX2_ownBidOf_6 ?_
  refine lv_iload_n hx hb dX2_ownBidOf_9 rfl (lv_at hl 1 rfl) ?_
  refine zc_ri (As := [.int (iI ((j : Nat) : Int))]) (rest := [.int (iI ((j : Nat) : Int)), .ref B]) hF (c_X1_roomOfN l D cI G GB GW GR bo wo ro g j (by omega) (hro _ (by omega))) (cwV 1 hts gX2_ownBidOf_X1_roomOf rfl rfl rfl (by decide +kernel) ⟨Nat.le_of_ble_eq_true rfl, Nat.le_of_ble_eq_true rfl⟩) hK hP [3, 4, 5, 6] rfl 0 rfl 0 rfl rfl rfl rfl hl.1 rfl (Nat.le_of_ble_eq_true rfl) dX2_ownBidOf_10 ⟨Nat.zero_le _, Nat.zero_le _⟩ ?_
  have hf1 := hgn j (by omega)
  refine zc_ri (As := [.int (iI ((j : Nat) : Int)), .int (iI ((g j : Nat) : Int))]) (rest := []) hF (c_X0_of l D cI B C n b j (g j) (by omega) (by omega) (by omega)) (cwV 2 hts gX2_ownBidOf_X0_of rfl rfl rfl (by decide +kernel) ⟨Nat.le_of_ble_eq_true rfl, Nat.le_of_ble_eq_true rfl⟩) hK hP [1, 2] rfl 0 rfl 0 rfl rfl rfl rfl hl.1 rfl (Nat.le_of_ble_eq_true rfl) dX2_ownBidOf_13 ⟨Nat.zero_le _, Nat.zero_le _⟩ ?_
  exact zRi_ret hx hb hr hlocks dX2_ownBidOf_16 rfl
set_option maxHeartbeats 4000000 in
set_option maxRecDepth 100000 in
/-- X2_firstRebateOf -/
theorem c_X2_firstRebateOf (l : Launch) (D : va_G) (cI : ClassId) (h B C G GB GW GR TB TG FR CH n : Nat) (b bo wo ro fr : Nat → Int) (rc sh po : Int) (g : Nat → Nat) (j : Nat) (hn : n ≤ 6) (hb0 : ∀ k, 0 ≤ b k ∧ b k ≤ 999) (hro : ∀ j, j < n → ro j = ((g j : Nat) : Int)) (hgn : ∀ j, j < n → g j < n) (hj : j < n) : zRi l yX2_firstRebateOf wsX2_firstRebateOf 1 21 D cI [.ref h, .int (iI ((j : Nat) : Int))] [(h, .inr (2, [.ref B, .ref G, .ref TB, .ref TG, .ref FR, .ref CH, .int (iI (rc)), .int (iI (sh)), .int (iI (po))])), (B, .inr (0, [.ref C, .int (iI ((n : Nat) : Int))])), (C, zArr cI 36 b), (G, .inr (1, [.ref GB, .ref GW, .ref GR])), (GB, zArr cI 64 bo), (GW, zArr cI 64 wo), (GR, zArr cI 6 ro), (FR, zArr cI 6 fr)] (iI (fr j)) := by
  refine zRi_of (cc := cX2_firstRebateOf) (maxL := 2) (rt := .int) (by decide) rfl (Nat.le_of_ble_eq_true rfl) ?_
  intro p e s m args below meth c ls hF hr hlocks hP hK hl
  have hF : zFix p m c cX2_firstRebateOf 2 s args wsX2_firstRebateOf RX2 := hF
  obtain ⟨hx, hb, hml, hown, hts⟩ := id hF
  have hP : va_P D vwCl [(h, .inr (2, [.ref B, .ref G, .ref TB, .ref TG, .ref FR, .ref CH, .int (iI (rc)), .int (iI (sh)), .int (iI (po))])), (B, .inr (0, [.ref C, .int (iI ((n : Nat) : Int))])), (C, zArr cI 36 b), (G, .inr (1, [.ref GB, .ref GW, .ref GR])), (GB, zArr cI 64 bo), (GW, zArr cI 64 wo), (GR, zArr cI 6 ro), (FR, zArr cI 6 fr)] s.heap := hP
  have hl : lv_has ls 2 [(0, .ref h), (1, .int (iI ((j : Nat) : Int)))] := hl
  refine lv_aload_n hx hb dX2_firstRebateOf_0 rfl (lv_at hl 0 rfl) ?_
  refine va_get (D := D) (ci := 2) (v := .ref B) (C := RX2) (T := TX2) (N := 9) hx hb hts (by decide +kernel) hown hK hP 0 rfl rfl 0 (by decide) (hts (.fieldLink RX2 10 "RentHarmony" "bids" "LRentHarmony$Bids;") (by decide +kernel)) (fun _ h9 => h9) rfl dX2_firstRebateOf_1 ?_
  refine lv_iload_n hx hb dX2_firstRebateOf_4 rfl (lv_at hl 1 rfl) ?_
  refine zc_ri (As := [.int (iI ((j : Nat) : Int))]) (rest := []) hF (c_X0_has l D cI B C n b ((j : Nat) : Int) (by omega) (zB_of (by omega) (by omega))) (cwV 1 hts gX2_firstRebateOf_X0_has rfl rfl rfl (by decide +kernel) ⟨Nat.le_of_ble_eq_true rfl, Nat.le_of_ble_eq_true rfl⟩) hK hP [1, 2] rfl 0 rfl 0 rfl rfl rfl rfl hl.1 rfl (Nat.le_of_ble_eq_true rfl) dX2_firstRebateOf_5 ⟨Nat.zero_le _, Nat.zero_le _⟩ ?_
  refine zr_ifB_eq (tgt := 20) hx hb dX2_firstRebateOf_8 (by decide)  (fun c1 => ?_) (fun c1 => ?_)
  · exact absurd (by omega) c1
  · refine lv_aload_n hx hb dX2_firstRebateOf_11 rfl (lv_at hl 0 rfl) ?_
    refine va_get (D := D) (ci := 2) (v := .ref FR) (C := RX2) (T := TX2) (N := 9) hx hb hts (by decide +kernel) hown hK hP 0 rfl rfl 4 (by decide) (hts (.fieldLink RX2 29 "RentHarmony" "firstRebates" "[I") (by decide +kernel)) (fun _ h9 => h9) rfl dX2_firstRebateOf_12 ?_
    refine lv_iload_n hx hb dX2_firstRebateOf_15 rfl (lv_at hl 1 rfl) ?_
    refine zr_iald hx hb hK hP 7 0 rfl rfl (j) (by omega) (by omega) (by omega) dX2_firstRebateOf_16 ?_
    refine lv_goto (tgt := 21) hx hb dX2_firstRebateOf_17 (by decide) ?_
    exact zRi_ret hx hb hr hlocks dX2_firstRebateOf_21 rfl
set_option maxHeartbeats 4000000 in
set_option maxRecDepth 100000 in
/-- X2_rebateOf -/
theorem c_X2_rebateOf (l : Launch) (D : va_G) (cI : ClassId) (h B C G GB GW GR TB TG FR CH n : Nat) (b bo wo ro fr : Nat → Int) (rc sh po : Int) (g : Nat → Nat) (j : Nat) (hn : n ≤ 6) (hb0 : ∀ k, 0 ≤ b k ∧ b k ≤ 999) (hro : ∀ j, j < n → ro j = ((g j : Nat) : Int)) (hgn : ∀ j, j < n → g j < n) (hj : j < n) : zRi l yX2_rebateOf wsX2_rebateOf 2 42 D cI [.ref h, .int (iI ((j : Nat) : Int))] [(h, .inr (2, [.ref B, .ref G, .ref TB, .ref TG, .ref FR, .ref CH, .int (iI (rc)), .int (iI (sh)), .int (iI (po))])), (B, .inr (0, [.ref C, .int (iI ((n : Nat) : Int))])), (C, zArr cI 36 b), (G, .inr (1, [.ref GB, .ref GW, .ref GR])), (GB, zArr cI 64 bo), (GW, zArr cI 64 wo), (GR, zArr cI 6 ro), (FR, zArr cI 6 fr)] (iI (fr j + sh)) := by
  refine zRi_of (cc := cX2_rebateOf) (maxL := 2) (rt := .int) (by decide) rfl (Nat.le_of_ble_eq_true rfl) ?_
  intro p e s m args below meth c ls hF hr hlocks hP hK hl
  have hF : zFix p m c cX2_rebateOf 2 s args wsX2_rebateOf RX2 := hF
  obtain ⟨hx, hb, hml, hown, hts⟩ := id hF
  have hP : va_P D vwCl [(h, .inr (2, [.ref B, .ref G, .ref TB, .ref TG, .ref FR, .ref CH, .int (iI (rc)), .int (iI (sh)), .int (iI (po))])), (B, .inr (0, [.ref C, .int (iI ((n : Nat) : Int))])), (C, zArr cI 36 b), (G, .inr (1, [.ref GB, .ref GW, .ref GR])), (GB, zArr cI 64 bo), (GW, zArr cI 64 wo), (GR, zArr cI 6 ro), (FR, zArr cI 6 fr)] s.heap := hP
  have hl : lv_has ls 2 [(0, .ref h), (1, .int (iI ((j : Nat) : Int)))] := hl
  refine lv_aload_n hx hb dX2_rebateOf_0 rfl (lv_at hl 0 rfl) ?_
  refine lv_iload_n hx hb dX2_rebateOf_1 rfl (lv_at hl 1 rfl) ?_
  refine zc_ri (As := [.int (iI ((j : Nat) : Int))]) (rest := []) hF (c_X2_firstRebateOf l D cI h B C G GB GW GR TB TG FR CH n b bo wo ro fr rc sh po g j (by omega) (by assumption) (by assumption) (by assumption) (by omega)) (cwV 1 hts gX2_rebateOf_X2_firstRebateOf rfl rfl rfl (by decide +kernel) ⟨Nat.le_of_ble_eq_true rfl, Nat.le_of_ble_eq_true rfl⟩) hK hP [0, 1, 2, 3, 4, 5, 6, 7] rfl 0 rfl 0 rfl rfl rfl rfl hl.1 rfl (Nat.le_of_ble_eq_true rfl) dX2_rebateOf_2 ⟨Nat.zero_le _, Nat.zero_le _⟩ ?_
  refine lv_aload_n hx hb dX2_rebateOf_5 rfl (lv_at hl 0 rfl) ?_
  refine va_get (D := D) (ci := 2) (v := .int (iI (sh))) (C := RX2) (T := TX2) (N := 9) hx hb hts (by decide +kernel) hown hK hP 0 rfl rfl 7 (by decide) (hts (.fieldLink RX2 40 "RentHarmony" "share" "I") (by decide +kernel)) (fun _ h9 => h9) rfl dX2_rebateOf_6 ?_
  refine zr_add hx hb dX2_rebateOf_9 ?_
  exact zRi_ret hx hb hr hlocks dX2_rebateOf_10 rfl
set_option maxHeartbeats 4000000 in
set_option maxRecDepth 100000 in
/-- X2_payOf -/
theorem c_X2_payOf (l : Launch) (D : va_G) (cI : ClassId) (h B C G GB GW GR TB TG FR CH n : Nat) (b bo wo ro fr : Nat → Int) (rc sh po : Int) (g : Nat → Nat) (j : Nat) (hn : n ≤ 6) (hb0 : ∀ k, 0 ≤ b k ∧ b k ≤ 999) (hro : ∀ j, j < n → ro j = ((g j : Nat) : Int)) (hgn : ∀ j, j < n → g j < n) (hj : j < n) : zRi l yX2_payOf wsX2_payOf 3 64 D cI [.ref h, .int (iI ((j : Nat) : Int))] [(h, .inr (2, [.ref B, .ref G, .ref TB, .ref TG, .ref FR, .ref CH, .int (iI (rc)), .int (iI (sh)), .int (iI (po))])), (B, .inr (0, [.ref C, .int (iI ((n : Nat) : Int))])), (C, zArr cI 36 b), (G, .inr (1, [.ref GB, .ref GW, .ref GR])), (GB, zArr cI 64 bo), (GW, zArr cI 64 wo), (GR, zArr cI 6 ro), (FR, zArr cI 6 fr)] (iI (zPay b g fr sh j)) := by
  refine zRi_of (cc := cX2_payOf) (maxL := 2) (rt := .int) (by decide) rfl (Nat.le_of_ble_eq_true rfl) ?_
  intro p e s m args below meth c ls hF hr hlocks hP hK hl
  have hF : zFix p m c cX2_payOf 2 s args wsX2_payOf RX2 := hF
  obtain ⟨hx, hb, hml, hown, hts⟩ := id hF
  have hP : va_P D vwCl [(h, .inr (2, [.ref B, .ref G, .ref TB, .ref TG, .ref FR, .ref CH, .int (iI (rc)), .int (iI (sh)), .int (iI (po))])), (B, .inr (0, [.ref C, .int (iI ((n : Nat) : Int))])), (C, zArr cI 36 b), (G, .inr (1, [.ref GB, .ref GW, .ref GR])), (GB, zArr cI 64 bo), (GW, zArr cI 64 wo), (GR, zArr cI 6 ro), (FR, zArr cI 6 fr)] s.heap := hP
  have hl : lv_has ls 2 [(0, .ref h), (1, .int (iI ((j : Nat) : Int)))] := hl
  refine lv_aload_n hx hb dX2_payOf_0 rfl (lv_at hl 0 rfl) ?_
  refine lv_iload_n hx hb dX2_payOf_1 rfl (lv_at hl 1 rfl) ?_
  refine zc_ri (As := [.int (iI ((j : Nat) : Int))]) (rest := []) hF (c_X2_ownBidOf l D cI h B C G GB GW GR TB TG FR CH n b bo wo ro fr rc sh po g j (by omega) (by assumption) (by assumption) (by assumption) (by omega)) (cwV 1 hts gX2_payOf_X2_ownBidOf rfl rfl rfl (by decide +kernel) ⟨Nat.le_of_ble_eq_true rfl, Nat.le_of_ble_eq_true rfl⟩) hK hP [0, 1, 2, 3, 4, 5, 6, 7] rfl 0 rfl 0 rfl rfl rfl rfl hl.1 rfl (Nat.le_of_ble_eq_true rfl) dX2_payOf_2 ⟨Nat.zero_le _, Nat.zero_le _⟩ ?_
  have hf1 := hb0 (j * 6 + g j)
  refine lv_aload_n hx hb dX2_payOf_5 rfl (lv_at hl 0 rfl) ?_
  refine lv_iload_n hx hb dX2_payOf_6 rfl (lv_at hl 1 rfl) ?_
  refine zc_ri (As := [.int (iI ((j : Nat) : Int))]) (rest := [.int (iI (b (j * 6 + g j)))]) hF (c_X2_rebateOf l D cI h B C G GB GW GR TB TG FR CH n b bo wo ro fr rc sh po g j (by omega) (by assumption) (by assumption) (by assumption) (by omega)) (cwV 1 hts gX2_payOf_X2_rebateOf rfl rfl rfl (by decide +kernel) ⟨Nat.le_of_ble_eq_true rfl, Nat.le_of_ble_eq_true rfl⟩) hK hP [0, 1, 2, 3, 4, 5, 6, 7] rfl 0 rfl 0 rfl rfl rfl rfl hl.1 rfl (Nat.le_of_ble_eq_true rfl) dX2_payOf_7 ⟨Nat.zero_le _, Nat.zero_le _⟩ ?_
  refine zr_sub hx hb dX2_payOf_10 ?_
  exact zRi_ret hx hb hr hlocks dX2_payOf_11 rfl
set_option maxHeartbeats 4000000 in
set_option maxRecDepth 100000 in
/-- X2_allFirstRebates -/
theorem c_X2_allFirstRebates (l : Launch) (D : va_G) (cI : ClassId) (h B C G GB GW GR TB TG FR CH n : Nat) (b bo wo ro fr : Nat → Int) (rc sh po : Int) (g : Nat → Nat) (hn : n ≤ 6) (hb0 : ∀ k, 0 ≤ b k ∧ b k ≤ 999) (hro : ∀ j, j < n → ro j = ((g j : Nat) : Int)) (hgn : ∀ j, j < n → g j < n) : zRi l yX2_allFirstRebates wsX2_allFirstRebates 1 20 D cI [.ref h] [(h, .inr (2, [.ref B, .ref G, .ref TB, .ref TG, .ref FR, .ref CH, .int (iI (rc)), .int (iI (sh)), .int (iI (po))])), (B, .inr (0, [.ref C, .int (iI ((n : Nat) : Int))])), (C, zArr cI 36 b), (G, .inr (1, [.ref GB, .ref GW, .ref GR])), (GB, zArr cI 64 bo), (GW, zArr cI 64 wo), (GR, zArr cI 6 ro), (FR, zArr cI 6 fr)] (iI (zSum fr n)) := by
  refine zRi_of (cc := cX2_allFirstRebates) (maxL := 3) (rt := .int) (by decide) rfl (Nat.le_of_ble_eq_true rfl) ?_
  intro p e s m args below meth c ls hF hr hlocks hP hK hl
  have hF : zFix p m c cX2_allFirstRebates 3 s args wsX2_allFirstRebates RX2 := hF
  obtain ⟨hx, hb, hml, hown, hts⟩ := id hF
  have hP : va_P D vwCl [(h, .inr (2, [.ref B, .ref G, .ref TB, .ref TG, .ref FR, .ref CH, .int (iI (rc)), .int (iI (sh)), .int (iI (po))])), (B, .inr (0, [.ref C, .int (iI ((n : Nat) : Int))])), (C, zArr cI 36 b), (G, .inr (1, [.ref GB, .ref GW, .ref GR])), (GB, zArr cI 64 bo), (GW, zArr cI 64 wo), (GR, zArr cI 6 ro), (FR, zArr cI 6 fr)] s.heap := hP
  have hl : lv_has ls 3 [(0, .ref h)] := hl
  refine zr_ic (n := ((0 : Nat) : Int)) hx hb dX2_allFirstRebates_0 ?_
  refine lv_istore_n (lv' := [(1, .int (iI ((0 : Nat) : Int))), (0, .ref h)]) hx hb dX2_allFirstRebates_1 rfl hl (by decide) rfl (fun ls hl => ?_)
  refine zr_ic (n := ((0 : Nat) : Int)) hx hb dX2_allFirstRebates_2 ?_
  refine lv_istore_n (lv' := [(2, .int (iI ((0 : Nat) : Int))), (1, .int (iI ((0 : Nat) : Int))), (0, .ref h)]) hx hb dX2_allFirstRebates_3 rfl hl (by decide) rfl (fun ls hl => ?_)
  have LS : ∀ (k0 : Nat) (i : Nat), n - i < k0 → (hi : i ≤ n) → ∀ (ls : Array Slot), lv_has ls 3 [(0, .ref h), (1, .int (iI (zSum fr i))), (2, .int (iI ((i : Nat) : Int)))] → W p l e (zRm 1 20) s m args below meth c s.heap [] 0 0 (MQ below (vp_Si (fun x => x = (iI (zSum fr n)))) args s 0 0 (fun _ => False)) (F0 m 4 ls []) := by
    intro k0
    induction k0 with
    | zero => intro i hk; exact absurd hk (Nat.not_lt_zero _)
    | succ k0 ih_LS =>
      intro i hk hi ls hl
      refine lv_iload_n hx hb dX2_allFirstRebates_4 rfl (lv_at hl 2 rfl) ?_
      refine lv_aload_n hx hb dX2_allFirstRebates_5 rfl (lv_at hl 0 rfl) ?_
      refine va_get (D := D) (ci := 2) (v := .ref B) (C := RX2) (T := TX2) (N := 9) hx hb hts (by decide +kernel) hown hK hP 0 rfl rfl 0 (by decide) (hts (.fieldLink RX2 10 "RentHarmony" "bids" "LRentHarmony$Bids;") (by decide +kernel)) (fun _ h9 => h9) rfl dX2_allFirstRebates_6 ?_
      refine zc_ri (As := []) (rest := [.int (iI ((i : Nat) : Int))]) hF (c_X0_size l D cI B C n b ) (cwV 0 hts gX2_allFirstRebates_X0_size rfl rfl rfl (by decide +kernel) ⟨Nat.le_of_ble_eq_true rfl, Nat.le_of_ble_eq_true rfl⟩) hK hP [1, 2] rfl 0 rfl 0 rfl rfl rfl rfl hl.1 rfl (Nat.le_of_ble_eq_true rfl) dX2_allFirstRebates_9 ⟨Nat.zero_le _, Nat.zero_le _⟩ ?_
      refine zr_icmp_ge (tgt := 30) hx hb dX2_allFirstRebates_12 (by decide) (zB_of (by omega) (by omega)) (zB_of (by omega) (by omega)) (fun c1 => ?_) (fun c1 => ?_)
      · refine lv_iload_n hx hb dX2_allFirstRebates_30 rfl (lv_at hl 1 rfl) ?_
        exact zRi_ret hx hb hr hlocks dX2_allFirstRebates_31 (by rw [show i = n by omega])
      · refine lv_iload_n hx hb dX2_allFirstRebates_15 rfl (lv_at hl 1 rfl) ?_
        refine lv_aload_n hx hb dX2_allFirstRebates_16 rfl (lv_at hl 0 rfl) ?_
        refine va_get (D := D) (ci := 2) (v := .ref FR) (C := RX2) (T := TX2) (N := 9) hx hb hts (by decide +kernel) hown hK hP 0 rfl rfl 4 (by decide) (hts (.fieldLink RX2 29 "RentHarmony" "firstRebates" "[I") (by decide +kernel)) (fun _ h9 => h9) rfl dX2_allFirstRebates_17 ?_
        refine lv_iload_n hx hb dX2_allFirstRebates_20 rfl (lv_at hl 2 rfl) ?_
        refine zr_iald hx hb hK hP 7 0 rfl rfl (i) (by omega) (by omega) (by omega) dX2_allFirstRebates_21 ?_
        refine zr_add hx hb dX2_allFirstRebates_22 ?_
        refine lv_istore_n (lv' := [(1, .int (iI ((zSum fr i) + (fr (i))))), (0, .ref h), (2, .int (iI ((i : Nat) : Int)))]) hx hb dX2_allFirstRebates_23 rfl hl (by decide) rfl (fun ls hl => ?_)
        refine zr_iinc (lv2 := [(2, .int (iI (((i : Nat) : Int) + 1))), (1, .int (iI ((zSum fr i) + (fr (i))))), (0, .ref h)]) hx hb dX2_allFirstRebates_24 hl (k0 := 2) rfl (by decide) rfl (fun ls hl => ?_)
        have hl : lv_has ls 3 [(2, .int (iI ((i + 1 : Nat) : Int))), (1, .int (iI ((zSum fr i) + (fr (i))))), (0, .ref h)] := hl
        refine lv_goto (tgt := 4) hx hb dX2_allFirstRebates_27 (by decide) ?_
        have hl : lv_has ls 3 [(2, .int (iI ((i + 1 : Nat) : Int))), (1, .int (iI (zSum fr (i + 1)))), (0, .ref h)] := by rw [show (zSum fr (i + 1)) = ((zSum fr i) + (fr (i))) from rfl]; exact hl
        exact ih_LS (i + 1) (by omega) (by omega) _ (lv_sub hl [2, 1, 0] rfl)
  have hl : lv_has ls 3 [(2, .int (iI ((0 : Nat) : Int))), (1, .int (iI (zSum fr 0))), (0, .ref h)] := by rw [show (zSum fr 0) = ((0 : Nat) : Int) from rfl]; exact hl
  exact LS ((n - (0)) + 1) (0) (Nat.lt_succ_self _) (by omega) _ (lv_sub hl [2, 1, 0] rfl)
set_option maxHeartbeats 4000000 in
set_option maxRecDepth 100000 in
/-- X2_allPays -/
theorem c_X2_allPays (l : Launch) (D : va_G) (cI : ClassId) (h B C G GB GW GR TB TG FR CH n : Nat) (b bo wo ro fr : Nat → Int) (rc sh po : Int) (g : Nat → Nat) (hn : n ≤ 6) (hb0 : ∀ k, 0 ≤ b k ∧ b k ≤ 999) (hro : ∀ j, j < n → ro j = ((g j : Nat) : Int)) (hgn : ∀ j, j < n → g j < n) : zRi l yX2_allPays wsX2_allPays 4 85 D cI [.ref h] [(h, .inr (2, [.ref B, .ref G, .ref TB, .ref TG, .ref FR, .ref CH, .int (iI (rc)), .int (iI (sh)), .int (iI (po))])), (B, .inr (0, [.ref C, .int (iI ((n : Nat) : Int))])), (C, zArr cI 36 b), (G, .inr (1, [.ref GB, .ref GW, .ref GR])), (GB, zArr cI 64 bo), (GW, zArr cI 64 wo), (GR, zArr cI 6 ro), (FR, zArr cI 6 fr)] (iI (zSum (zPay b g fr sh) n)) := by
  refine zRi_of (cc := cX2_allPays) (maxL := 3) (rt := .int) (by decide) rfl (Nat.le_of_ble_eq_true rfl) ?_
  intro p e s m args below meth c ls hF hr hlocks hP hK hl
  have hF : zFix p m c cX2_allPays 3 s args wsX2_allPays RX2 := hF
  obtain ⟨hx, hb, hml, hown, hts⟩ := id hF
  have hP : va_P D vwCl [(h, .inr (2, [.ref B, .ref G, .ref TB, .ref TG, .ref FR, .ref CH, .int (iI (rc)), .int (iI (sh)), .int (iI (po))])), (B, .inr (0, [.ref C, .int (iI ((n : Nat) : Int))])), (C, zArr cI 36 b), (G, .inr (1, [.ref GB, .ref GW, .ref GR])), (GB, zArr cI 64 bo), (GW, zArr cI 64 wo), (GR, zArr cI 6 ro), (FR, zArr cI 6 fr)] s.heap := hP
  have hl : lv_has ls 3 [(0, .ref h)] := hl
  refine zr_ic (n := ((0 : Nat) : Int)) hx hb dX2_allPays_0 ?_
  refine lv_istore_n (lv' := [(1, .int (iI ((0 : Nat) : Int))), (0, .ref h)]) hx hb dX2_allPays_1 rfl hl (by decide) rfl (fun ls hl => ?_)
  refine zr_ic (n := ((0 : Nat) : Int)) hx hb dX2_allPays_2 ?_
  refine lv_istore_n (lv' := [(2, .int (iI ((0 : Nat) : Int))), (1, .int (iI ((0 : Nat) : Int))), (0, .ref h)]) hx hb dX2_allPays_3 rfl hl (by decide) rfl (fun ls hl => ?_)
  have LS : ∀ (k0 : Nat) (i : Nat), n - i < k0 → (hi : i ≤ n) → ∀ (ls : Array Slot), lv_has ls 3 [(0, .ref h), (1, .int (iI (zSum (zPay b g fr sh) i))), (2, .int (iI ((i : Nat) : Int)))] → W p l e (zRm 4 85) s m args below meth c s.heap [] 0 0 (MQ below (vp_Si (fun x => x = (iI (zSum (zPay b g fr sh) n)))) args s 0 0 (fun _ => False)) (F0 m 4 ls []) := by
    intro k0
    induction k0 with
    | zero => intro i hk; exact absurd hk (Nat.not_lt_zero _)
    | succ k0 ih_LS =>
      intro i hk hi ls hl
      refine lv_iload_n hx hb dX2_allPays_4 rfl (lv_at hl 2 rfl) ?_
      refine lv_aload_n hx hb dX2_allPays_5 rfl (lv_at hl 0 rfl) ?_
      refine va_get (D := D) (ci := 2) (v := .ref B) (C := RX2) (T := TX2) (N := 9) hx hb hts (by decide +kernel) hown hK hP 0 rfl rfl 0 (by decide) (hts (.fieldLink RX2 10 "RentHarmony" "bids" "LRentHarmony$Bids;") (by decide +kernel)) (fun _ h9 => h9) rfl dX2_allPays_6 ?_
      refine zc_ri (As := []) (rest := [.int (iI ((i : Nat) : Int))]) hF (c_X0_size l D cI B C n b ) (cwV 0 hts gX2_allPays_X0_size rfl rfl rfl (by decide +kernel) ⟨Nat.le_of_ble_eq_true rfl, Nat.le_of_ble_eq_true rfl⟩) hK hP [1, 2] rfl 0 rfl 0 rfl rfl rfl rfl hl.1 rfl (Nat.le_of_ble_eq_true rfl) dX2_allPays_9 ⟨Nat.zero_le _, Nat.zero_le _⟩ ?_
      refine zr_icmp_ge (tgt := 29) hx hb dX2_allPays_12 (by decide) (zB_of (by omega) (by omega)) (zB_of (by omega) (by omega)) (fun c1 => ?_) (fun c1 => ?_)
      · refine lv_iload_n hx hb dX2_allPays_29 rfl (lv_at hl 1 rfl) ?_
        exact zRi_ret hx hb hr hlocks dX2_allPays_30 (by rw [show i = n by omega])
      · refine lv_iload_n hx hb dX2_allPays_15 rfl (lv_at hl 1 rfl) ?_
        refine lv_aload_n hx hb dX2_allPays_16 rfl (lv_at hl 0 rfl) ?_
        refine lv_iload_n hx hb dX2_allPays_17 rfl (lv_at hl 2 rfl) ?_
        refine zc_ri (As := [.int (iI ((i : Nat) : Int))]) (rest := [.int (iI (zSum (zPay b g fr sh) i))]) hF (c_X2_payOf l D cI h B C G GB GW GR TB TG FR CH n b bo wo ro fr rc sh po g i (by omega) (by assumption) (by assumption) (by assumption) (by omega)) (cwV 1 hts gX2_allPays_X2_payOf rfl rfl rfl (by decide +kernel) ⟨Nat.le_of_ble_eq_true rfl, Nat.le_of_ble_eq_true rfl⟩) hK hP [0, 1, 2, 3, 4, 5, 6, 7] rfl 0 rfl 0 rfl rfl rfl rfl hl.1 rfl (Nat.le_of_ble_eq_true rfl) dX2_allPays_18 ⟨Nat.zero_le _, Nat.zero_le _⟩ ?_
        refine zr_add hx hb dX2_allPays_21 ?_
        refine lv_istore_n (lv' := [(1, .int (iI ((zSum (zPay b g fr sh) i) + (zPay b g fr sh i)))), (0, .ref h), (2, .int (iI ((i : Nat) : Int)))]) hx hb dX2_allPays_22 rfl hl (by decide) rfl (fun ls hl => ?_)
        refine zr_iinc (lv2 := [(2, .int (iI (((i : Nat) : Int) + 1))), (1, .int (iI ((zSum (zPay b g fr sh) i) + (zPay b g fr sh i)))), (0, .ref h)]) hx hb dX2_allPays_23 hl (k0 := 2) rfl (by decide) rfl (fun ls hl => ?_)
        have hl : lv_has ls 3 [(2, .int (iI ((i + 1 : Nat) : Int))), (1, .int (iI ((zSum (zPay b g fr sh) i) + (zPay b g fr sh i)))), (0, .ref h)] := hl
        refine lv_goto (tgt := 4) hx hb dX2_allPays_26 (by decide) ?_
        have hl : lv_has ls 3 [(2, .int (iI ((i + 1 : Nat) : Int))), (1, .int (iI (zSum (zPay b g fr sh) (i + 1)))), (0, .ref h)] := by rw [show (zSum (zPay b g fr sh) (i + 1)) = ((zSum (zPay b g fr sh) i) + (zPay b g fr sh i)) from rfl]; exact hl
        exact ih_LS (i + 1) (by omega) (by omega) _ (lv_sub hl [2, 1, 0] rfl)
  have hl : lv_has ls 3 [(2, .int (iI ((0 : Nat) : Int))), (1, .int (iI (zSum (zPay b g fr sh) 0))), (0, .ref h)] := by rw [show (zSum (zPay b g fr sh) 0) = ((0 : Nat) : Int) from rfl]; exact hl
  exact LS ((n - (0)) + 1) (0) (Nat.lt_succ_self _) (by omega) _ (lv_sub hl [2, 1, 0] rfl)
set_option maxHeartbeats 4000000 in
set_option maxRecDepth 100000 in
/-- X2_wouldEnvy -/
theorem c_X2_wouldEnvy (l : Launch) (D : va_G) (cI : ClassId) (h B C G GB GW GR TB TG FR CH n : Nat) (b bo wo ro fr : Nat → Int) (rc sh po : Int) (g : Nat → Nat) (j k : Nat) (hn : n ≤ 6) (hb0 : ∀ k, 0 ≤ b k ∧ b k ≤ 999) (hro : ∀ j, j < n → ro j = ((g j : Nat) : Int)) (hgn : ∀ j, j < n → g j < n) (hj : j < n) (hk : k < n) : zRi l yX2_wouldEnvy wsX2_wouldEnvy 3 64 D cI [.ref h, .int (iI ((j : Nat) : Int)), .int (iI ((k : Nat) : Int))] [(h, .inr (2, [.ref B, .ref G, .ref TB, .ref TG, .ref FR, .ref CH, .int (iI (rc)), .int (iI (sh)), .int (iI (po))])), (B, .inr (0, [.ref C, .int (iI ((n : Nat) : Int))])), (C, zArr cI 36 b), (G, .inr (1, [.ref GB, .ref GW, .ref GR])), (GB, zArr cI 64 bo), (GW, zArr cI 64 wo), (GR, zArr cI 6 ro), (FR, zArr cI 6 fr)] (iI (bZ (zEn b g j k))) := by
  refine zRi_of (cc := cX2_wouldEnvy) (maxL := 3) (rt := .boolean) (by decide) rfl (Nat.le_of_ble_eq_true rfl) ?_
  intro p e s m args below meth c ls hF hr hlocks hP hK hl
  have hF : zFix p m c cX2_wouldEnvy 3 s args wsX2_wouldEnvy RX2 := hF
  obtain ⟨hx, hb, hml, hown, hts⟩ := id hF
  have hP : va_P D vwCl [(h, .inr (2, [.ref B, .ref G, .ref TB, .ref TG, .ref FR, .ref CH, .int (iI (rc)), .int (iI (sh)), .int (iI (po))])), (B, .inr (0, [.ref C, .int (iI ((n : Nat) : Int))])), (C, zArr cI 36 b), (G, .inr (1, [.ref GB, .ref GW, .ref GR])), (GB, zArr cI 64 bo), (GW, zArr cI 64 wo), (GR, zArr cI 6 ro), (FR, zArr cI 6 fr)] s.heap := hP
  have hl : lv_has ls 3 [(0, .ref h), (1, .int (iI ((j : Nat) : Int))), (2, .int (iI ((k : Nat) : Int)))] := hl
  refine lv_aload_n hx hb dX2_wouldEnvy_0 rfl (lv_at hl 0 rfl) ?_
  refine va_get (D := D) (ci := 2) (v := .ref B) (C := RX2) (T := TX2) (N := 9) hx hb hts (by decide +kernel) hown hK hP 0 rfl rfl 0 (by decide) (hts (.fieldLink RX2 10 "RentHarmony" "bids" "LRentHarmony$Bids;") (by decide +kernel)) (fun _ h9 => h9) rfl dX2_wouldEnvy_1 ?_
  refine lv_iload_n hx hb dX2_wouldEnvy_4 rfl (lv_at hl 1 rfl) ?_
  refine lv_aload_n hx hb dX2_wouldEnvy_5 rfl (lv_at hl 0 rfl) ?_
  refine va_get (D := D) (ci := 2) (v := .ref G) (C := RX2) (T := TX2) (N := 9) hx hb hts (by decide +kernel) hown hK hP 0 rfl rfl 1 (by decide) (hts (.fieldLink RX2 19 "RentHarmony" "giving" "LRentHarmony$Giving;") (by decide +kernel)) (fun _ h9 => h9) rfl dX2_wouldEnvy_6 ?_
  refine lv_iload_n hx hb dX2_wouldEnvy_9 rfl (lv_at hl 2 rfl) ?_
  refine zc_ri (As := [.int (iI ((k : Nat) : Int))]) (rest := [.int (iI ((j : Nat) : Int)), .ref B]) hF (c_X1_roomOfN l D cI G GB GW GR bo wo ro g k (by omega) (hro _ (by omega))) (cwV 1 hts gX2_wouldEnvy_X1_roomOf rfl rfl rfl (by decide +kernel) ⟨Nat.le_of_ble_eq_true rfl, Nat.le_of_ble_eq_true rfl⟩) hK hP [3, 4, 5, 6] rfl 0 rfl 0 rfl rfl rfl rfl hl.1 rfl (Nat.le_of_ble_eq_true rfl) dX2_wouldEnvy_10 ⟨Nat.zero_le _, Nat.zero_le _⟩ ?_
  have hf1 := hgn k (by omega)
  refine zc_ri (As := [.int (iI ((j : Nat) : Int)), .int (iI ((g k : Nat) : Int))]) (rest := []) hF (c_X0_of l D cI B C n b j (g k) (by omega) (by omega) (by omega)) (cwV 2 hts gX2_wouldEnvy_X0_of rfl rfl rfl (by decide +kernel) ⟨Nat.le_of_ble_eq_true rfl, Nat.le_of_ble_eq_true rfl⟩) hK hP [1, 2] rfl 0 rfl 0 rfl rfl rfl rfl hl.1 rfl (Nat.le_of_ble_eq_true rfl) dX2_wouldEnvy_13 ⟨Nat.zero_le _, Nat.zero_le _⟩ ?_
  have hbx := hb0 (j * 6 + g k)
  refine lv_aload_n hx hb dX2_wouldEnvy_16 rfl (lv_at hl 0 rfl) ?_
  refine lv_iload_n hx hb dX2_wouldEnvy_17 rfl (lv_at hl 1 rfl) ?_
  refine zc_ri (As := [.int (iI ((j : Nat) : Int))]) (rest := [.int (iI (b (j * 6 + (g k))))]) hF (c_X2_ownBidOf l D cI h B C G GB GW GR TB TG FR CH n b bo wo ro fr rc sh po g j (by omega) (by assumption) (by assumption) (by assumption) (by omega)) (cwV 1 hts gX2_wouldEnvy_X2_ownBidOf rfl rfl rfl (by decide +kernel) ⟨Nat.le_of_ble_eq_true rfl, Nat.le_of_ble_eq_true rfl⟩) hK hP [0, 1, 2, 3, 4, 5, 6, 7] rfl 0 rfl 0 rfl rfl rfl rfl hl.1 rfl (Nat.le_of_ble_eq_true rfl) dX2_wouldEnvy_18 ⟨Nat.zero_le _, Nat.zero_le _⟩ ?_
  have hf2 := hb0 (j * 6 + g j)
  refine zr_icmp_le (tgt := 28) hx hb dX2_wouldEnvy_21 (by decide) (zB_of (by omega) (by omega)) (zB_of (by omega) (by omega)) (fun c3 => ?_) (fun c3 => ?_)
  · refine zr_ic (n := ((0 : Nat) : Int)) hx hb dX2_wouldEnvy_28 ?_
    exact zRi_retz hx hb hr rfl hlocks dX2_wouldEnvy_29 (congrArg iI (bZ_f (by omega)).symm)
  · refine zr_ic (n := ((1 : Nat) : Int)) hx hb dX2_wouldEnvy_24 ?_
    refine lv_goto (tgt := 29) hx hb dX2_wouldEnvy_25 (by decide) ?_
    exact zRi_retz hx hb hr rfl hlocks dX2_wouldEnvy_29 (congrArg iI (bZ_t (by omega)).symm)
set_option maxHeartbeats 4000000 in
set_option maxRecDepth 100000 in
/-- X2_enviedBy -/
theorem c_X2_enviedBy (l : Launch) (D : va_G) (cI : ClassId) (h B C G GB GW GR TB TG FR CH n : Nat) (b bo wo ro fr : Nat → Int) (rc sh po : Int) (g : Nat → Nat) (j : Nat) (hn : n ≤ 6) (hb0 : ∀ k, 0 ≤ b k ∧ b k ≤ 999) (hro : ∀ j, j < n → ro j = ((g j : Nat) : Int)) (hgn : ∀ j, j < n → g j < n) (hj : j < n) : zRi l yX2_enviedBy wsX2_enviedBy 4 86 D cI [.ref h, .int (iI ((j : Nat) : Int))] [(h, .inr (2, [.ref B, .ref G, .ref TB, .ref TG, .ref FR, .ref CH, .int (iI (rc)), .int (iI (sh)), .int (iI (po))])), (B, .inr (0, [.ref C, .int (iI ((n : Nat) : Int))])), (C, zArr cI 36 b), (G, .inr (1, [.ref GB, .ref GW, .ref GR])), (GB, zArr cI 64 bo), (GW, zArr cI 64 wo), (GR, zArr cI 6 ro), (FR, zArr cI 6 fr)] (iI (zEnvd b g j n)) := by
  refine zRi_of (cc := cX2_enviedBy) (maxL := 4) (rt := .int) (by decide) rfl (Nat.le_of_ble_eq_true rfl) ?_
  intro p e s m args below meth c ls hF hr hlocks hP hK hl
  have hF : zFix p m c cX2_enviedBy 4 s args wsX2_enviedBy RX2 := hF
  obtain ⟨hx, hb, hml, hown, hts⟩ := id hF
  have hP : va_P D vwCl [(h, .inr (2, [.ref B, .ref G, .ref TB, .ref TG, .ref FR, .ref CH, .int (iI (rc)), .int (iI (sh)), .int (iI (po))])), (B, .inr (0, [.ref C, .int (iI ((n : Nat) : Int))])), (C, zArr cI 36 b), (G, .inr (1, [.ref GB, .ref GW, .ref GR])), (GB, zArr cI 64 bo), (GW, zArr cI 64 wo), (GR, zArr cI 6 ro), (FR, zArr cI 6 fr)] s.heap := hP
  have hl : lv_has ls 4 [(0, .ref h), (1, .int (iI ((j : Nat) : Int)))] := hl
  refine zr_ic (n := ((0 : Nat) : Int)) hx hb dX2_enviedBy_0 ?_
  refine lv_istore_n (lv' := [(2, .int (iI ((0 : Nat) : Int))), (0, .ref h), (1, .int (iI ((j : Nat) : Int)))]) hx hb dX2_enviedBy_1 rfl hl (by decide) rfl (fun ls hl => ?_)
  refine zr_ic (n := ((0 : Nat) : Int)) hx hb dX2_enviedBy_2 ?_
  refine lv_istore_n (lv' := [(3, .int (iI ((0 : Nat) : Int))), (2, .int (iI ((0 : Nat) : Int))), (0, .ref h), (1, .int (iI ((j : Nat) : Int)))]) hx hb dX2_enviedBy_3 rfl hl (by decide) rfl (fun ls hl => ?_)
  have LE : ∀ (k0 : Nat) (i : Nat), n - i < k0 → (hi : i ≤ n) → ∀ (ls : Array Slot), lv_has ls 4 [(0, .ref h), (1, .int (iI ((j : Nat) : Int))), (2, .int (iI (zEnvd b g j i))), (3, .int (iI ((i : Nat) : Int)))] → W p l e (zRm 4 86) s m args below meth c s.heap [] 0 0 (MQ below (vp_Si (fun x => x = (iI (zEnvd b g j n)))) args s 0 0 (fun _ => False)) (F0 m 4 ls []) := by
    intro k0
    induction k0 with
    | zero => intro i hk; exact absurd hk (Nat.not_lt_zero _)
    | succ k0 ih_LE =>
      intro i hk hi ls hl
      refine lv_iload_n hx hb dX2_enviedBy_4 rfl (lv_at hl 3 rfl) ?_
      refine lv_aload_n hx hb dX2_enviedBy_5 rfl (lv_at hl 0 rfl) ?_
      refine va_get (D := D) (ci := 2) (v := .ref B) (C := RX2) (T := TX2) (N := 9) hx hb hts (by decide +kernel) hown hK hP 0 rfl rfl 0 (by decide) (hts (.fieldLink RX2 10 "RentHarmony" "bids" "LRentHarmony$Bids;") (by decide +kernel)) (fun _ h9 => h9) rfl dX2_enviedBy_6 ?_
      refine zc_ri (As := []) (rest := [.int (iI ((i : Nat) : Int))]) hF (c_X0_size l D cI B C n b ) (cwV 0 hts gX2_enviedBy_X0_size rfl rfl rfl (by decide +kernel) ⟨Nat.le_of_ble_eq_true rfl, Nat.le_of_ble_eq_true rfl⟩) hK hP [1, 2] rfl 0 rfl 0 rfl rfl rfl rfl hl.1 rfl (Nat.le_of_ble_eq_true rfl) dX2_enviedBy_9 ⟨Nat.zero_le _, Nat.zero_le _⟩ ?_
      refine zr_icmp_ge (tgt := 33) hx hb dX2_enviedBy_12 (by decide) (zB_of (by omega) (by omega)) (zB_of (by omega) (by omega)) (fun c1 => ?_) (fun c1 => ?_)
      · refine lv_iload_n hx hb dX2_enviedBy_33 rfl (lv_at hl 2 rfl) ?_
        exact zRi_ret hx hb hr hlocks dX2_enviedBy_34 (by rw [show i = n by omega])
      · refine lv_aload_n hx hb dX2_enviedBy_15 rfl (lv_at hl 0 rfl) ?_
        refine lv_iload_n hx hb dX2_enviedBy_16 rfl (lv_at hl 1 rfl) ?_
        refine lv_iload_n hx hb dX2_enviedBy_17 rfl (lv_at hl 3 rfl) ?_
        refine zc_ri (As := [.int (iI ((j : Nat) : Int)), .int (iI ((i : Nat) : Int))]) (rest := []) hF (c_X2_wouldEnvy l D cI h B C G GB GW GR TB TG FR CH n b bo wo ro fr rc sh po g j i (by omega) (by assumption) (by assumption) (by assumption) (by omega) (by omega)) (cwV 2 hts gX2_enviedBy_X2_wouldEnvy rfl rfl rfl (by decide +kernel) ⟨Nat.le_of_ble_eq_true rfl, Nat.le_of_ble_eq_true rfl⟩) hK hP [0, 1, 2, 3, 4, 5, 6, 7] rfl 0 rfl 0 rfl rfl rfl rfl hl.1 rfl (Nat.le_of_ble_eq_true rfl) dX2_enviedBy_18 ⟨Nat.zero_le _, Nat.zero_le _⟩ ?_
        refine zr_ifB_eq (tgt := 27) hx hb dX2_enviedBy_21 (by decide)  (fun c2 => ?_) (fun c2 => ?_)
        · refine zr_iinc (lv2 := [(3, .int (iI (((i : Nat) : Int) + 1))), (0, .ref h), (1, .int (iI ((j : Nat) : Int))), (2, .int (iI (zEnvd b g j i)))]) hx hb dX2_enviedBy_27 hl (k0 := 3) rfl (by decide) rfl (fun ls hl => ?_)
          have hl : lv_has ls 4 [(3, .int (iI ((i + 1 : Nat) : Int))), (0, .ref h), (1, .int (iI ((j : Nat) : Int))), (2, .int (iI (zEnvd b g j i)))] := hl
          refine lv_goto (tgt := 4) hx hb dX2_enviedBy_30 (by decide) ?_
          have hl : lv_has ls 4 [(3, .int (iI ((i + 1 : Nat) : Int))), (0, .ref h), (1, .int (iI ((j : Nat) : Int))), (2, .int (iI (zEnvd b g j (i + 1))))] := by rw [show (zEnvd b g j (i + 1)) = (zEnvd b g j i) from by show zEnvd b g j i + bZ (zEn b g j i) = _; rw [bZ_f c2]; omega]; exact hl
          exact ih_LE (i + 1) (by omega) (by omega) _ (lv_sub hl [1, 2, 3, 0] rfl)
        · refine zr_iinc (lv2 := [(2, .int (iI ((zEnvd b g j i) + 1))), (0, .ref h), (1, .int (iI ((j : Nat) : Int))), (3, .int (iI ((i : Nat) : Int)))]) hx hb dX2_enviedBy_24 hl (k0 := 2) rfl (by decide) rfl (fun ls hl => ?_)
          refine zr_iinc (lv2 := [(3, .int (iI (((i : Nat) : Int) + 1))), (2, .int (iI ((zEnvd b g j i) + 1))), (0, .ref h), (1, .int (iI ((j : Nat) : Int)))]) hx hb dX2_enviedBy_27 hl (k0 := 3) rfl (by decide) rfl (fun ls hl => ?_)
          have hl : lv_has ls 4 [(3, .int (iI ((i + 1 : Nat) : Int))), (2, .int (iI ((zEnvd b g j i) + 1))), (0, .ref h), (1, .int (iI ((j : Nat) : Int)))] := hl
          refine lv_goto (tgt := 4) hx hb dX2_enviedBy_30 (by decide) ?_
          have hl : lv_has ls 4 [(3, .int (iI ((i + 1 : Nat) : Int))), (2, .int (iI (zEnvd b g j (i + 1)))), (0, .ref h), (1, .int (iI ((j : Nat) : Int)))] := by rw [show (zEnvd b g j (i + 1)) = ((zEnvd b g j i) + 1) from by show zEnvd b g j i + bZ (zEn b g j i) = _; rw [bZ_t c2]]; exact hl
          exact ih_LE (i + 1) (by omega) (by omega) _ (lv_sub hl [2, 3, 1, 0] rfl)
  have hl : lv_has ls 4 [(3, .int (iI ((0 : Nat) : Int))), (2, .int (iI (zEnvd b g j 0))), (0, .ref h), (1, .int (iI ((j : Nat) : Int)))] := by rw [show (zEnvd b g j 0) = ((0 : Nat) : Int) from rfl]; exact hl
  exact LE ((n - (0)) + 1) (0) (Nat.lt_succ_self _) (by omega) _ (lv_sub hl [2, 3, 1, 0] rfl)
set_option maxHeartbeats 4000000 in
set_option maxRecDepth 100000 in
/-- X2_fact -/
theorem c_X2_fact (l : Launch) (D : va_G) (cI : ClassId) (h B C G GB GW GR TB TG FR CH n : Nat) (b bo wo ro fr : Nat → Int) (rc sh po : Int) (g : Nat → Nat) (j w : Nat) (hn : n ≤ 6) (hb0 : ∀ k, 0 ≤ b k ∧ b k ≤ 999) (hro : ∀ j, j < n → ro j = ((g j : Nat) : Int)) (hgn : ∀ j, j < n → g j < n) (hj : j < n) (hw : w < 6) : zRi l yX2_fact wsX2_fact 5 109 D cI [.ref h, .int (iI ((j : Nat) : Int)), .int (iI ((w : Nat) : Int))] [(h, .inr (2, [.ref B, .ref G, .ref TB, .ref TG, .ref FR, .ref CH, .int (iI (rc)), .int (iI (sh)), .int (iI (po))])), (B, .inr (0, [.ref C, .int (iI ((n : Nat) : Int))])), (C, zArr cI 36 b), (G, .inr (1, [.ref GB, .ref GW, .ref GR])), (GB, zArr cI 64 bo), (GW, zArr cI 64 wo), (GR, zArr cI 6 ro), (FR, zArr cI 6 fr)] (iI (zFact n b g fr sh j w)) := by
  refine zRi_of (cc := cX2_fact) (maxL := 3) (rt := .int) (by decide) rfl (Nat.le_of_ble_eq_true rfl) ?_
  intro p e s m args below meth c ls hF hr hlocks hP hK hl
  have hF : zFix p m c cX2_fact 3 s args wsX2_fact RX2 := hF
  obtain ⟨hx, hb, hml, hown, hts⟩ := id hF
  have hP : va_P D vwCl [(h, .inr (2, [.ref B, .ref G, .ref TB, .ref TG, .ref FR, .ref CH, .int (iI (rc)), .int (iI (sh)), .int (iI (po))])), (B, .inr (0, [.ref C, .int (iI ((n : Nat) : Int))])), (C, zArr cI 36 b), (G, .inr (1, [.ref GB, .ref GW, .ref GR])), (GB, zArr cI 64 bo), (GW, zArr cI 64 wo), (GR, zArr cI 6 ro), (FR, zArr cI 6 fr)] s.heap := hP
  rcases (show w = 0 ∨ w = 1 ∨ w = 2 ∨ w = 3 ∨ w = 4 ∨ w = 5 by omega) with rfl | rfl | rfl | rfl | rfl | rfl
  · have hl : lv_has ls 3 [(0, .ref h), (1, .int (iI ((j : Nat) : Int))), (2, .int (iI ((0 : Nat) : Int)))] := hl
    refine lv_iload_n hx hb dX2_fact_0 rfl (lv_at hl 2 rfl) ?_
    refine lv_tableIn (off := 35) (tgt := 36) hx hb dX2_fact_1 (by decide) (by decide) (by decide) (by decide) ?_
    refine lv_aload_n hx hb dX2_fact_36 rfl (lv_at hl 0 rfl) ?_
    refine va_get (D := D) (ci := 2) (v := .ref G) (C := RX2) (T := TX2) (N := 9) hx hb hts (by decide +kernel) hown hK hP 0 rfl rfl 1 (by decide) (hts (.fieldLink RX2 19 "RentHarmony" "giving" "LRentHarmony$Giving;") (by decide +kernel)) (fun _ h9 => h9) rfl dX2_fact_37 ?_
    refine lv_iload_n hx hb dX2_fact_40 rfl (lv_at hl 1 rfl) ?_
    refine zc_ri (As := [.int (iI ((j : Nat) : Int))]) (rest := []) hF (c_X1_roomOfN l D cI G GB GW GR bo wo ro g j (by omega) (hro _ (by omega))) (cwV 1 hts gX2_fact_X1_roomOf rfl rfl rfl (by decide +kernel) ⟨Nat.le_of_ble_eq_true rfl, Nat.le_of_ble_eq_true rfl⟩) hK hP [3, 4, 5, 6] rfl 0 rfl 0 rfl rfl rfl rfl hl.1 rfl (Nat.le_of_ble_eq_true rfl) dX2_fact_41 ⟨Nat.zero_le _, Nat.zero_le _⟩ ?_
    have hf1 := hgn j (by omega)
    exact zRi_ret hx hb hr hlocks dX2_fact_44 rfl
  · have hl : lv_has ls 3 [(0, .ref h), (1, .int (iI ((j : Nat) : Int))), (2, .int (iI ((1 : Nat) : Int)))] := hl
    refine lv_iload_n hx hb dX2_fact_0 rfl (lv_at hl 2 rfl) ?_
    refine lv_tableIn (off := 44) (tgt := 45) hx hb dX2_fact_1 (by decide) (by decide) (by decide) (by decide) ?_
    refine lv_aload_n hx hb dX2_fact_45 rfl (lv_at hl 0 rfl) ?_
    refine lv_iload_n hx hb dX2_fact_46 rfl (lv_at hl 1 rfl) ?_
    refine zc_ri (As := [.int (iI ((j : Nat) : Int))]) (rest := []) hF (c_X2_ownBidOf l D cI h B C G GB GW GR TB TG FR CH n b bo wo ro fr rc sh po g j (by omega) (by assumption) (by assumption) (by assumption) (by omega)) (cwV 1 hts gX2_fact_X2_ownBidOf rfl rfl rfl (by decide +kernel) ⟨Nat.le_of_ble_eq_true rfl, Nat.le_of_ble_eq_true rfl⟩) hK hP [0, 1, 2, 3, 4, 5, 6, 7] rfl 0 rfl 0 rfl rfl rfl rfl hl.1 rfl (Nat.le_of_ble_eq_true rfl) dX2_fact_47 ⟨Nat.zero_le _, Nat.zero_le _⟩ ?_
    have hf2 := hb0 (j * 6 + g j)
    exact zRi_ret hx hb hr hlocks dX2_fact_50 rfl
  · have hl : lv_has ls 3 [(0, .ref h), (1, .int (iI ((j : Nat) : Int))), (2, .int (iI ((2 : Nat) : Int)))] := hl
    refine lv_iload_n hx hb dX2_fact_0 rfl (lv_at hl 2 rfl) ?_
    refine lv_tableIn (off := 50) (tgt := 51) hx hb dX2_fact_1 (by decide) (by decide) (by decide) (by decide) ?_
    refine lv_aload_n hx hb dX2_fact_51 rfl (lv_at hl 0 rfl) ?_
    refine lv_iload_n hx hb dX2_fact_52 rfl (lv_at hl 1 rfl) ?_
    refine zc_ri (As := [.int (iI ((j : Nat) : Int))]) (rest := []) hF (c_X2_rebateOf l D cI h B C G GB GW GR TB TG FR CH n b bo wo ro fr rc sh po g j (by omega) (by assumption) (by assumption) (by assumption) (by omega)) (cwV 1 hts gX2_fact_X2_rebateOf rfl rfl rfl (by decide +kernel) ⟨Nat.le_of_ble_eq_true rfl, Nat.le_of_ble_eq_true rfl⟩) hK hP [0, 1, 2, 3, 4, 5, 6, 7] rfl 0 rfl 0 rfl rfl rfl rfl hl.1 rfl (Nat.le_of_ble_eq_true rfl) dX2_fact_53 ⟨Nat.zero_le _, Nat.zero_le _⟩ ?_
    exact zRi_ret hx hb hr hlocks dX2_fact_56 rfl
  · have hl : lv_has ls 3 [(0, .ref h), (1, .int (iI ((j : Nat) : Int))), (2, .int (iI ((3 : Nat) : Int)))] := hl
    refine lv_iload_n hx hb dX2_fact_0 rfl (lv_at hl 2 rfl) ?_
    refine lv_tableIn (off := 56) (tgt := 57) hx hb dX2_fact_1 (by decide) (by decide) (by decide) (by decide) ?_
    refine lv_aload_n hx hb dX2_fact_57 rfl (lv_at hl 0 rfl) ?_
    refine lv_iload_n hx hb dX2_fact_58 rfl (lv_at hl 1 rfl) ?_
    refine zc_ri (As := [.int (iI ((j : Nat) : Int))]) (rest := []) hF (c_X2_payOf l D cI h B C G GB GW GR TB TG FR CH n b bo wo ro fr rc sh po g j (by omega) (by assumption) (by assumption) (by assumption) (by omega)) (cwV 1 hts gX2_fact_X2_payOf rfl rfl rfl (by decide +kernel) ⟨Nat.le_of_ble_eq_true rfl, Nat.le_of_ble_eq_true rfl⟩) hK hP [0, 1, 2, 3, 4, 5, 6, 7] rfl 0 rfl 0 rfl rfl rfl rfl hl.1 rfl (Nat.le_of_ble_eq_true rfl) dX2_fact_59 ⟨Nat.zero_le _, Nat.zero_le _⟩ ?_
    exact zRi_ret hx hb hr hlocks dX2_fact_62 rfl
  · have hl : lv_has ls 3 [(0, .ref h), (1, .int (iI ((j : Nat) : Int))), (2, .int (iI ((4 : Nat) : Int)))] := hl
    refine lv_iload_n hx hb dX2_fact_0 rfl (lv_at hl 2 rfl) ?_
    refine lv_tableIn (off := 62) (tgt := 63) hx hb dX2_fact_1 (by decide) (by decide) (by decide) (by decide) ?_
    refine lv_aload_n hx hb dX2_fact_63 rfl (lv_at hl 0 rfl) ?_
    refine lv_iload_n hx hb dX2_fact_64 rfl (lv_at hl 1 rfl) ?_
    refine zc_ri (As := [.int (iI ((j : Nat) : Int))]) (rest := []) hF (c_X2_firstRebateOf l D cI h B C G GB GW GR TB TG FR CH n b bo wo ro fr rc sh po g j (by omega) (by assumption) (by assumption) (by assumption) (by omega)) (cwV 1 hts gX2_fact_X2_firstRebateOf rfl rfl rfl (by decide +kernel) ⟨Nat.le_of_ble_eq_true rfl, Nat.le_of_ble_eq_true rfl⟩) hK hP [0, 1, 2, 3, 4, 5, 6, 7] rfl 0 rfl 0 rfl rfl rfl rfl hl.1 rfl (Nat.le_of_ble_eq_true rfl) dX2_fact_65 ⟨Nat.zero_le _, Nat.zero_le _⟩ ?_
    exact zRi_ret hx hb hr hlocks dX2_fact_68 rfl
  · have hl : lv_has ls 3 [(0, .ref h), (1, .int (iI ((j : Nat) : Int))), (2, .int (iI ((5 : Nat) : Int)))] := hl
    refine lv_iload_n hx hb dX2_fact_0 rfl (lv_at hl 2 rfl) ?_
    refine lv_tableOut (tgt := 69) hx hb dX2_fact_1 (by decide) (by decide) ?_
    refine lv_aload_n hx hb dX2_fact_69 rfl (lv_at hl 0 rfl) ?_
    refine lv_iload_n hx hb dX2_fact_70 rfl (lv_at hl 1 rfl) ?_
    refine zc_ri (As := [.int (iI ((j : Nat) : Int))]) (rest := []) hF (c_X2_enviedBy l D cI h B C G GB GW GR TB TG FR CH n b bo wo ro fr rc sh po g j (by omega) (by assumption) (by assumption) (by assumption) (by omega)) (cwV 1 hts gX2_fact_X2_enviedBy rfl rfl rfl (by decide +kernel) ⟨Nat.le_of_ble_eq_true rfl, Nat.le_of_ble_eq_true rfl⟩) hK hP [0, 1, 2, 3, 4, 5, 6, 7] rfl 0 rfl 0 rfl rfl rfl rfl hl.1 rfl (Nat.le_of_ble_eq_true rfl) dX2_fact_71 ⟨Nat.zero_le _, Nat.zero_le _⟩ ?_
    exact zRi_ret hx hb hr hlocks dX2_fact_74 rfl
set_option maxHeartbeats 4000000 in
set_option maxRecDepth 100000 in
/-- X2_total -/
theorem c_X2_total (l : Launch) (D : va_G) (cI : ClassId) (h B C G GB GW GR TB TG FR CH n : Nat) (b bo wo ro fr : Nat → Int) (rc sh po : Int) (g : Nat → Nat) (w : Nat) (hn : n ≤ 6) (hb0 : ∀ k, 0 ≤ b k ∧ b k ≤ 999) (hro : ∀ j, j < n → ro j = ((g j : Nat) : Int)) (hgn : ∀ j, j < n → g j < n) (hw : w < 7) : zRi l yX2_total wsX2_total 5 107 D cI [.ref h, .int (iI ((w : Nat) : Int))] [(h, .inr (2, [.ref B, .ref G, .ref TB, .ref TG, .ref FR, .ref CH, .int (iI (rc)), .int (iI (sh)), .int (iI (po))])), (B, .inr (0, [.ref C, .int (iI ((n : Nat) : Int))])), (C, zArr cI 36 b), (G, .inr (1, [.ref GB, .ref GW, .ref GR])), (GB, zArr cI 64 bo), (GW, zArr cI 64 wo), (GR, zArr cI 6 ro), (FR, zArr cI 6 fr)] (iI (zTot n b g fr rc sh po (bo 0) (wo 0) w)) := by
  refine zRi_of (cc := cX2_total) (maxL := 2) (rt := .int) (by decide) rfl (Nat.le_of_ble_eq_true rfl) ?_
  intro p e s m args below meth c ls hF hr hlocks hP hK hl
  have hF : zFix p m c cX2_total 2 s args wsX2_total RX2 := hF
  obtain ⟨hx, hb, hml, hown, hts⟩ := id hF
  have hP : va_P D vwCl [(h, .inr (2, [.ref B, .ref G, .ref TB, .ref TG, .ref FR, .ref CH, .int (iI (rc)), .int (iI (sh)), .int (iI (po))])), (B, .inr (0, [.ref C, .int (iI ((n : Nat) : Int))])), (C, zArr cI 36 b), (G, .inr (1, [.ref GB, .ref GW, .ref GR])), (GB, zArr cI 64 bo), (GW, zArr cI 64 wo), (GR, zArr cI 6 ro), (FR, zArr cI 6 fr)] s.heap := hP
  rcases (show w = 0 ∨ w = 1 ∨ w = 2 ∨ w = 3 ∨ w = 4 ∨ w = 5 ∨ w = 6 by omega) with rfl | rfl | rfl | rfl | rfl | rfl | rfl
  · have hl : lv_has ls 2 [(0, .ref h), (1, .int (iI ((0 : Nat) : Int)))] := hl
    refine lv_iload_n hx hb dX2_total_0 rfl (lv_at hl 1 rfl) ?_
    refine lv_tableIn (off := 39) (tgt := 40) hx hb dX2_total_1 (by decide) (by decide) (by decide) (by decide) ?_
    refine lv_aload_n hx hb dX2_total_40 rfl (lv_at hl 0 rfl) ?_
    refine va_get (D := D) (ci := 2) (v := .ref B) (C := RX2) (T := TX2) (N := 9) hx hb hts (by decide +kernel) hown hK hP 0 rfl rfl 0 (by decide) (hts (.fieldLink RX2 10 "RentHarmony" "bids" "LRentHarmony$Bids;") (by decide +kernel)) (fun _ h9 => h9) rfl dX2_total_41 ?_
    refine zc_ri (As := []) (rest := []) hF (c_X0_size l D cI B C n b ) (cwV 0 hts gX2_total_X0_size rfl rfl rfl (by decide +kernel) ⟨Nat.le_of_ble_eq_true rfl, Nat.le_of_ble_eq_true rfl⟩) hK hP [1, 2] rfl 0 rfl 0 rfl rfl rfl rfl hl.1 rfl (Nat.le_of_ble_eq_true rfl) dX2_total_44 ⟨Nat.zero_le _, Nat.zero_le _⟩ ?_
    exact zRi_ret hx hb hr hlocks dX2_total_47 rfl
  · have hl : lv_has ls 2 [(0, .ref h), (1, .int (iI ((1 : Nat) : Int)))] := hl
    refine lv_iload_n hx hb dX2_total_0 rfl (lv_at hl 1 rfl) ?_
    refine lv_tableIn (off := 47) (tgt := 48) hx hb dX2_total_1 (by decide) (by decide) (by decide) (by decide) ?_
    refine lv_aload_n hx hb dX2_total_48 rfl (lv_at hl 0 rfl) ?_
    refine va_get (D := D) (ci := 2) (v := .int (iI (rc))) (C := RX2) (T := TX2) (N := 9) hx hb hts (by decide +kernel) hown hK hP 0 rfl rfl 6 (by decide) (hts (.fieldLink RX2 36 "RentHarmony" "rentCoins" "I") (by decide +kernel)) (fun _ h9 => h9) rfl dX2_total_49 ?_
    exact zRi_ret hx hb hr hlocks dX2_total_52 rfl
  · have hl : lv_has ls 2 [(0, .ref h), (1, .int (iI ((2 : Nat) : Int)))] := hl
    refine lv_iload_n hx hb dX2_total_0 rfl (lv_at hl 1 rfl) ?_
    refine lv_tableIn (off := 52) (tgt := 53) hx hb dX2_total_1 (by decide) (by decide) (by decide) (by decide) ?_
    refine lv_aload_n hx hb dX2_total_53 rfl (lv_at hl 0 rfl) ?_
    refine va_get (D := D) (ci := 2) (v := .ref G) (C := RX2) (T := TX2) (N := 9) hx hb hts (by decide +kernel) hown hK hP 0 rfl rfl 1 (by decide) (hts (.fieldLink RX2 19 "RentHarmony" "giving" "LRentHarmony$Giving;") (by decide +kernel)) (fun _ h9 => h9) rfl dX2_total_54 ?_
    refine zc_ri (As := []) (rest := []) hF (c_X1_worth l D cI G GB GW GR bo wo ro ) (cwV 0 hts gX2_total_X1_worth rfl rfl rfl (by decide +kernel) ⟨Nat.le_of_ble_eq_true rfl, Nat.le_of_ble_eq_true rfl⟩) hK hP [3, 4, 5, 6] rfl 0 rfl 0 rfl rfl rfl rfl hl.1 rfl (Nat.le_of_ble_eq_true rfl) dX2_total_57 ⟨Nat.zero_le _, Nat.zero_le _⟩ ?_
    exact zRi_ret hx hb hr hlocks dX2_total_60 rfl
  · have hl : lv_has ls 2 [(0, .ref h), (1, .int (iI ((3 : Nat) : Int)))] := hl
    refine lv_iload_n hx hb dX2_total_0 rfl (lv_at hl 1 rfl) ?_
    refine lv_tableIn (off := 60) (tgt := 61) hx hb dX2_total_1 (by decide) (by decide) (by decide) (by decide) ?_
    refine lv_aload_n hx hb dX2_total_61 rfl (lv_at hl 0 rfl) ?_
    refine zc_ri (As := []) (rest := []) hF (c_X2_allFirstRebates l D cI h B C G GB GW GR TB TG FR CH n b bo wo ro fr rc sh po g (by omega) (by assumption) (by assumption) (by assumption)) (cwV 0 hts gX2_total_X2_allFirstRebates rfl rfl rfl (by decide +kernel) ⟨Nat.le_of_ble_eq_true rfl, Nat.le_of_ble_eq_true rfl⟩) hK hP [0, 1, 2, 3, 4, 5, 6, 7] rfl 0 rfl 0 rfl rfl rfl rfl hl.1 rfl (Nat.le_of_ble_eq_true rfl) dX2_total_62 ⟨Nat.zero_le _, Nat.zero_le _⟩ ?_
    refine lv_aload_n hx hb dX2_total_65 rfl (lv_at hl 0 rfl) ?_
    refine va_get (D := D) (ci := 2) (v := .int (iI (sh))) (C := RX2) (T := TX2) (N := 9) hx hb hts (by decide +kernel) hown hK hP 0 rfl rfl 7 (by decide) (hts (.fieldLink RX2 40 "RentHarmony" "share" "I") (by decide +kernel)) (fun _ h9 => h9) rfl dX2_total_66 ?_
    refine lv_aload_n hx hb dX2_total_69 rfl (lv_at hl 0 rfl) ?_
    refine va_get (D := D) (ci := 2) (v := .ref B) (C := RX2) (T := TX2) (N := 9) hx hb hts (by decide +kernel) hown hK hP 0 rfl rfl 0 (by decide) (hts (.fieldLink RX2 10 "RentHarmony" "bids" "LRentHarmony$Bids;") (by decide +kernel)) (fun _ h9 => h9) rfl dX2_total_70 ?_
    refine zc_ri (As := []) (rest := [.int (iI (sh)), .int (iI (zSum fr n))]) hF (c_X0_size l D cI B C n b ) (cwV 0 hts gX2_total_X0_size rfl rfl rfl (by decide +kernel) ⟨Nat.le_of_ble_eq_true rfl, Nat.le_of_ble_eq_true rfl⟩) hK hP [1, 2] rfl 0 rfl 0 rfl rfl rfl rfl hl.1 rfl (Nat.le_of_ble_eq_true rfl) dX2_total_73 ⟨Nat.zero_le _, Nat.zero_le _⟩ ?_
    refine zr_mul hx hb dX2_total_76 ?_
    refine zr_add hx hb dX2_total_77 ?_
    exact zRi_ret hx hb hr hlocks dX2_total_78 rfl
  · have hl : lv_has ls 2 [(0, .ref h), (1, .int (iI ((4 : Nat) : Int)))] := hl
    refine lv_iload_n hx hb dX2_total_0 rfl (lv_at hl 1 rfl) ?_
    refine lv_tableIn (off := 78) (tgt := 79) hx hb dX2_total_1 (by decide) (by decide) (by decide) (by decide) ?_
    refine lv_aload_n hx hb dX2_total_79 rfl (lv_at hl 0 rfl) ?_
    refine va_get (D := D) (ci := 2) (v := .int (iI (po))) (C := RX2) (T := TX2) (N := 9) hx hb hts (by decide +kernel) hown hK hP 0 rfl rfl 8 (by decide) (hts (.fieldLink RX2 43 "RentHarmony" "pot" "I") (by decide +kernel)) (fun _ h9 => h9) rfl dX2_total_80 ?_
    exact zRi_ret hx hb hr hlocks dX2_total_83 rfl
  · have hl : lv_has ls 2 [(0, .ref h), (1, .int (iI ((5 : Nat) : Int)))] := hl
    refine lv_iload_n hx hb dX2_total_0 rfl (lv_at hl 1 rfl) ?_
    refine lv_tableIn (off := 83) (tgt := 84) hx hb dX2_total_1 (by decide) (by decide) (by decide) (by decide) ?_
    refine lv_aload_n hx hb dX2_total_84 rfl (lv_at hl 0 rfl) ?_
    refine va_get (D := D) (ci := 2) (v := .ref G) (C := RX2) (T := TX2) (N := 9) hx hb hts (by decide +kernel) hown hK hP 0 rfl rfl 1 (by decide) (hts (.fieldLink RX2 19 "RentHarmony" "giving" "LRentHarmony$Giving;") (by decide +kernel)) (fun _ h9 => h9) rfl dX2_total_85 ?_
    refine zc_ri (As := []) (rest := []) hF (c_X1_ways l D cI G GB GW GR bo wo ro ) (cwV 0 hts gX2_total_X1_ways rfl rfl rfl (by decide +kernel) ⟨Nat.le_of_ble_eq_true rfl, Nat.le_of_ble_eq_true rfl⟩) hK hP [3, 4, 5, 6] rfl 0 rfl 0 rfl rfl rfl rfl hl.1 rfl (Nat.le_of_ble_eq_true rfl) dX2_total_88 ⟨Nat.zero_le _, Nat.zero_le _⟩ ?_
    exact zRi_ret hx hb hr hlocks dX2_total_91 rfl
  · have hl : lv_has ls 2 [(0, .ref h), (1, .int (iI ((6 : Nat) : Int)))] := hl
    refine lv_iload_n hx hb dX2_total_0 rfl (lv_at hl 1 rfl) ?_
    refine lv_tableOut (tgt := 92) hx hb dX2_total_1 (by decide) (by decide) ?_
    refine lv_aload_n hx hb dX2_total_92 rfl (lv_at hl 0 rfl) ?_
    refine zc_ri (As := []) (rest := []) hF (c_X2_allPays l D cI h B C G GB GW GR TB TG FR CH n b bo wo ro fr rc sh po g (by omega) (by assumption) (by assumption) (by assumption)) (cwV 0 hts gX2_total_X2_allPays rfl rfl rfl (by decide +kernel) ⟨Nat.le_of_ble_eq_true rfl, Nat.le_of_ble_eq_true rfl⟩) hK hP [0, 1, 2, 3, 4, 5, 6, 7] rfl 0 rfl 0 rfl rfl rfl rfl hl.1 rfl (Nat.le_of_ble_eq_true rfl) dX2_total_93 ⟨Nat.zero_le _, Nat.zero_le _⟩ ?_
    exact zRi_ret hx hb hr hlocks dX2_total_96 rfl
set_option maxHeartbeats 4000000 in
set_option maxRecDepth 100000 in
/-- X2_bestOfAllRooms -/
theorem c_X2_bestOfAllRooms (l : Launch) (D : va_G) (cI : ClassId) (h B C G GB GW GR TB TG FR CH n : Nat) (b bo wo ro fr : Nat → Int) (rc sh po : Int) (g : Nat → Nat) (j : Nat) (hn : n ≤ 6) (hb0 : ∀ k, 0 ≤ b k ∧ b k ≤ 999) (hro : ∀ j, j < n → ro j = ((g j : Nat) : Int)) (hgn : ∀ j, j < n → g j < n) (hj : j < n) (hfr : ∀ j, j < n → 0 ≤ fr j ∧ fr j ≤ 5994) : zRi l yX2_bestOfAllRooms wsX2_bestOfAllRooms 3 64 D cI [.ref h, .int (iI ((j : Nat) : Int))] [(h, .inr (2, [.ref B, .ref G, .ref TB, .ref TG, .ref FR, .ref CH, .int (iI (rc)), .int (iI (sh)), .int (iI (po))])), (B, .inr (0, [.ref C, .int (iI ((n : Nat) : Int))])), (C, zArr cI 36 b), (G, .inr (1, [.ref GB, .ref GW, .ref GR])), (GB, zArr cI 64 bo), (GW, zArr cI 64 wo), (GR, zArr cI 6 ro), (FR, zArr cI 6 fr)] (iI (zBor (zWt b g) fr j n)) := by
  refine zRi_of (cc := cX2_bestOfAllRooms) (maxL := 5) (rt := .int) (by decide) rfl (Nat.le_of_ble_eq_true rfl) ?_
  intro p e s m args below meth c ls hF hr hlocks hP hK hl
  have hF : zFix p m c cX2_bestOfAllRooms 5 s args wsX2_bestOfAllRooms RX2 := hF
  obtain ⟨hx, hb, hml, hown, hts⟩ := id hF
  have hP : va_P D vwCl [(h, .inr (2, [.ref B, .ref G, .ref TB, .ref TG, .ref FR, .ref CH, .int (iI (rc)), .int (iI (sh)), .int (iI (po))])), (B, .inr (0, [.ref C, .int (iI ((n : Nat) : Int))])), (C, zArr cI 36 b), (G, .inr (1, [.ref GB, .ref GW, .ref GR])), (GB, zArr cI 64 bo), (GW, zArr cI 64 wo), (GR, zArr cI 6 ro), (FR, zArr cI 6 fr)] s.heap := hP
  have hl : lv_has ls 5 [(0, .ref h), (1, .int (iI ((j : Nat) : Int)))] := hl
  refine lv_aload_n hx hb dX2_bestOfAllRooms_0 rfl (lv_at hl 0 rfl) ?_
  refine lv_iload_n hx hb dX2_bestOfAllRooms_1 rfl (lv_at hl 1 rfl) ?_
  refine zc_ri (As := [.int (iI ((j : Nat) : Int))]) (rest := []) hF (c_X2_firstRebateOf l D cI h B C G GB GW GR TB TG FR CH n b bo wo ro fr rc sh po g j (by omega) (by assumption) (by assumption) (by assumption) (by omega)) (cwV 1 hts gX2_bestOfAllRooms_X2_firstRebateOf rfl rfl rfl (by decide +kernel) ⟨Nat.le_of_ble_eq_true rfl, Nat.le_of_ble_eq_true rfl⟩) hK hP [0, 1, 2, 3, 4, 5, 6, 7] rfl 0 rfl 0 rfl rfl rfl rfl hl.1 rfl (Nat.le_of_ble_eq_true rfl) dX2_bestOfAllRooms_2 ⟨Nat.zero_le _, Nat.zero_le _⟩ ?_
  refine lv_istore_n (lv' := [(2, .int (iI (fr j))), (0, .ref h), (1, .int (iI ((j : Nat) : Int)))]) hx hb dX2_bestOfAllRooms_5 rfl hl (by decide) rfl (fun ls hl => ?_)
  refine zr_ic (n := ((0 : Nat) : Int)) hx hb dX2_bestOfAllRooms_6 ?_
  refine lv_istore_n (lv' := [(3, .int (iI ((0 : Nat) : Int))), (2, .int (iI (fr j))), (0, .ref h), (1, .int (iI ((j : Nat) : Int)))]) hx hb dX2_bestOfAllRooms_7 rfl hl (by decide) rfl (fun ls hl => ?_)
  have LB : ∀ (k0 : Nat) (i : Nat), n - i < k0 → (hi : i ≤ n) → ∀ (ls : Array Slot), lv_has ls 5 [(0, .ref h), (1, .int (iI ((j : Nat) : Int))), (2, .int (iI (zBor (zWt b g) fr j i))), (3, .int (iI ((i : Nat) : Int)))] → W p l e (zRm 3 64) s m args below meth c s.heap [] 0 0 (MQ below (vp_Si (fun x => x = (iI (zBor (zWt b g) fr j n)))) args s 0 0 (fun _ => False)) (F0 m 8 ls []) := by
    intro k0
    induction k0 with
    | zero => intro i hk; exact absurd hk (Nat.not_lt_zero _)
    | succ k0 ih_LB =>
      intro i hk hi ls hl
      refine lv_iload_n hx hb dX2_bestOfAllRooms_8 rfl (lv_at hl 3 rfl) ?_
      refine lv_aload_n hx hb dX2_bestOfAllRooms_9 rfl (lv_at hl 0 rfl) ?_
      refine va_get (D := D) (ci := 2) (v := .ref B) (C := RX2) (T := TX2) (N := 9) hx hb hts (by decide +kernel) hown hK hP 0 rfl rfl 0 (by decide) (hts (.fieldLink RX2 10 "RentHarmony" "bids" "LRentHarmony$Bids;") (by decide +kernel)) (fun _ h9 => h9) rfl dX2_bestOfAllRooms_10 ?_
      refine zc_ri (As := []) (rest := [.int (iI ((i : Nat) : Int))]) hF (c_X0_size l D cI B C n b ) (cwV 0 hts gX2_bestOfAllRooms_X0_size rfl rfl rfl (by decide +kernel) ⟨Nat.le_of_ble_eq_true rfl, Nat.le_of_ble_eq_true rfl⟩) hK hP [1, 2] rfl 0 rfl 0 rfl rfl rfl rfl hl.1 rfl (Nat.le_of_ble_eq_true rfl) dX2_bestOfAllRooms_13 ⟨Nat.zero_le _, Nat.zero_le _⟩ ?_
      refine zr_icmp_ge (tgt := 62) hx hb dX2_bestOfAllRooms_16 (by decide) (zB_of (by omega) (by omega)) (zB_of (by omega) (by omega)) (fun c1 => ?_) (fun c1 => ?_)
      · refine lv_iload_n hx hb dX2_bestOfAllRooms_62 rfl (lv_at hl 2 rfl) ?_
        exact zRi_ret hx hb hr hlocks dX2_bestOfAllRooms_63 (by rw [show i = n by omega])
      · refine lv_aload_n hx hb dX2_bestOfAllRooms_19 rfl (lv_at hl 0 rfl) ?_
        refine lv_iload_n hx hb dX2_bestOfAllRooms_20 rfl (lv_at hl 3 rfl) ?_
        refine zc_ri (As := [.int (iI ((i : Nat) : Int))]) (rest := []) hF (c_X2_ownBidOf l D cI h B C G GB GW GR TB TG FR CH n b bo wo ro fr rc sh po g i (by omega) (by assumption) (by assumption) (by assumption) (by omega)) (cwV 1 hts gX2_bestOfAllRooms_X2_ownBidOf rfl rfl rfl (by decide +kernel) ⟨Nat.le_of_ble_eq_true rfl, Nat.le_of_ble_eq_true rfl⟩) hK hP [0, 1, 2, 3, 4, 5, 6, 7] rfl 0 rfl 0 rfl rfl rfl rfl hl.1 rfl (Nat.le_of_ble_eq_true rfl) dX2_bestOfAllRooms_21 ⟨Nat.zero_le _, Nat.zero_le _⟩ ?_
        have hf2 := hb0 (i * 6 + g i)
        refine lv_aload_n hx hb dX2_bestOfAllRooms_24 rfl (lv_at hl 0 rfl) ?_
        refine lv_iload_n hx hb dX2_bestOfAllRooms_25 rfl (lv_at hl 3 rfl) ?_
        refine zc_ri (As := [.int (iI ((i : Nat) : Int))]) (rest := [.int (iI (b (i * 6 + g i)))]) hF (c_X2_firstRebateOf l D cI h B C G GB GW GR TB TG FR CH n b bo wo ro fr rc sh po g i (by omega) (by assumption) (by assumption) (by assumption) (by omega)) (cwV 1 hts gX2_bestOfAllRooms_X2_firstRebateOf rfl rfl rfl (by decide +kernel) ⟨Nat.le_of_ble_eq_true rfl, Nat.le_of_ble_eq_true rfl⟩) hK hP [0, 1, 2, 3, 4, 5, 6, 7] rfl 0 rfl 0 rfl rfl rfl rfl hl.1 rfl (Nat.le_of_ble_eq_true rfl) dX2_bestOfAllRooms_26 ⟨Nat.zero_le _, Nat.zero_le _⟩ ?_
        refine zr_sub hx hb dX2_bestOfAllRooms_29 ?_
        refine lv_istore (lv' := [(4, .int (iI ((b (i * 6 + g i)) - (fr i)))), (0, .ref h), (1, .int (iI ((j : Nat) : Int))), (2, .int (iI (zBor (zWt b g) fr j i))), (3, .int (iI ((i : Nat) : Int)))]) hx hb dX2_bestOfAllRooms_30 hl (by decide) rfl (fun ls hl => ?_)
        refine lv_iload_n hx hb dX2_bestOfAllRooms_32 rfl (lv_at hl 3 rfl) ?_
        refine lv_aload_n hx hb dX2_bestOfAllRooms_33 rfl (lv_at hl 1 rfl) ?_
        refine va_get (D := D) (ci := 2) (v := .ref B) (C := RX2) (T := TX2) (N := 9) hx hb hts (by decide +kernel) hown hK hP 0 rfl rfl 0 (by decide) (hts (.fieldLink RX2 10 "RentHarmony" "bids" "LRentHarmony$Bids;") (by decide +kernel)) (fun _ h9 => h9) rfl dX2_bestOfAllRooms_34 ?_
        refine lv_iload_n hx hb dX2_bestOfAllRooms_37 rfl (lv_at hl 2 rfl) ?_
        refine lv_aload_n hx hb dX2_bestOfAllRooms_38 rfl (lv_at hl 1 rfl) ?_
        refine va_get (D := D) (ci := 2) (v := .ref G) (C := RX2) (T := TX2) (N := 9) hx hb hts (by decide +kernel) hown hK hP 0 rfl rfl 1 (by decide) (hts (.fieldLink RX2 19 "RentHarmony" "giving" "LRentHarmony$Giving;") (by decide +kernel)) (fun _ h9 => h9) rfl dX2_bestOfAllRooms_39 ?_
        refine lv_iload_n hx hb dX2_bestOfAllRooms_42 rfl (lv_at hl 4 rfl) ?_
        refine zc_ri (As := [.int (iI ((i : Nat) : Int))]) (rest := [.int (iI ((j : Nat) : Int)), .ref B, .int (iI (zBor (zWt b g) fr j i))]) hF (c_X1_roomOfN l D cI G GB GW GR bo wo ro g i (by omega) (hro _ (by omega))) (cwV 1 hts gX2_bestOfAllRooms_X1_roomOf rfl rfl rfl (by decide +kernel) ⟨Nat.le_of_ble_eq_true rfl, Nat.le_of_ble_eq_true rfl⟩) hK hP [3, 4, 5, 6] rfl 0 rfl 0 rfl rfl rfl rfl hl.1 rfl (Nat.le_of_ble_eq_true rfl) dX2_bestOfAllRooms_43 ⟨Nat.zero_le _, Nat.zero_le _⟩ ?_
        have hf3 := hgn i (by omega)
        refine zc_ri (As := [.int (iI ((j : Nat) : Int)), .int (iI ((g i : Nat) : Int))]) (rest := [.int (iI (zBor (zWt b g) fr j i))]) hF (c_X0_of l D cI B C n b j (g i) (by omega) (by omega) (by omega)) (cwV 2 hts gX2_bestOfAllRooms_X0_of rfl rfl rfl (by decide +kernel) ⟨Nat.le_of_ble_eq_true rfl, Nat.le_of_ble_eq_true rfl⟩) hK hP [1, 2] rfl 0 rfl 0 rfl rfl rfl rfl hl.1 rfl (Nat.le_of_ble_eq_true rfl) dX2_bestOfAllRooms_46 ⟨Nat.zero_le _, Nat.zero_le _⟩ ?_
        refine lv_iload hx hb dX2_bestOfAllRooms_49 (lv_at hl 0 rfl) ?_
        refine zr_sub hx hb dX2_bestOfAllRooms_51 ?_
        refine zr_topi (show ((b (j * 6 + (g i))) - ((b (i * 6 + g i)) - (fr i))) = (zWt b g j i + fr i) from by unfold zWt; omega) ?_
        have hm1 := zBor_b (w := zWt b g) (e := fr) (a := j) (M := 10000) ⟨(hfr j hj).1, by have := (hfr j hj).2; omega⟩ i (fun c hc => by have q1 := hb0 (j * 6 + g c); have q2 := hb0 (c * 6 + g c); have q3 := hfr c (by omega); unfold zWt; omega)
        have hm2 : -1000 ≤ zWt b g j i + fr i ∧ zWt b g j i + fr i ≤ 10000 := by have q1 := hb0 (j * 6 + g i); have q2 := hb0 (i * 6 + g i); have q3 := hfr i (by omega); unfold zWt; omega
        refine zr_max (rest := []) hx hb (hml.trans hl.1.symm) hown (hts (.methodLink RX2 123 Lib.Math.max.name) (by decide +kernel)) (hts (.static Lib.Math.max.name) (by decide +kernel)) (hts (.initialized "java/lang/Math") (by decide +kernel)) (hts (.code Lib.Math.max.name Lib.Math.max.code 2 (some .int)) (by decide +kernel)) (Nat.le_of_ble_eq_true rfl) (Nat.le_of_ble_eq_true rfl) (Nat.zero_le _) (Nat.zero_le _) (zB_of (by omega) (by omega)) (zB_of (by omega) (by omega)) dX2_bestOfAllRooms_52 ?_
        refine lv_istore_n (lv' := [(2, .int (iI (max (zBor (zWt b g) fr j i) (zWt b g j i + fr i)))), (4, .int (iI ((b (i * 6 + g i)) - (fr i)))), (0, .ref h), (1, .int (iI ((j : Nat) : Int))), (3, .int (iI ((i : Nat) : Int)))]) hx hb dX2_bestOfAllRooms_55 rfl hl (by decide) rfl (fun ls hl => ?_)
        refine zr_iinc (lv2 := [(3, .int (iI (((i : Nat) : Int) + 1))), (2, .int (iI (max (zBor (zWt b g) fr j i) (zWt b g j i + fr i)))), (4, .int (iI ((b (i * 6 + g i)) - (fr i)))), (0, .ref h), (1, .int (iI ((j : Nat) : Int)))]) hx hb dX2_bestOfAllRooms_56 hl (k0 := 4) rfl (by decide) rfl (fun ls hl => ?_)
        have hl : lv_has ls 5 [(3, .int (iI ((i + 1 : Nat) : Int))), (2, .int (iI (max (zBor (zWt b g) fr j i) (zWt b g j i + fr i)))), (4, .int (iI ((b (i * 6 + g i)) - (fr i)))), (0, .ref h), (1, .int (iI ((j : Nat) : Int)))] := hl
        refine lv_goto (tgt := 8) hx hb dX2_bestOfAllRooms_59 (by decide) ?_
        have hl : lv_has ls 5 [(3, .int (iI ((i + 1 : Nat) : Int))), (2, .int (iI (zBor (zWt b g) fr j (i + 1)))), (4, .int (iI ((b (i * 6 + g i)) - (fr i)))), (0, .ref h), (1, .int (iI ((j : Nat) : Int)))] := by rw [show (zBor (zWt b g) fr j (i + 1)) = (max (zBor (zWt b g) fr j i) (zWt b g j i + fr i)) from rfl]; exact hl
        exact ih_LB (i + 1) (by omega) (by omega) _ (lv_sub hl [3, 4, 1, 0] rfl)
  have hl : lv_has ls 5 [(3, .int (iI ((0 : Nat) : Int))), (2, .int (iI (zBor (zWt b g) fr j 0))), (0, .ref h), (1, .int (iI ((j : Nat) : Int)))] := by rw [show (zBor (zWt b g) fr j 0) = (fr j) from rfl]; exact hl
  exact LB ((n - (0)) + 1) (0) (Nat.lt_succ_self _) (by omega) _ (lv_sub hl [2, 3, 1, 0] rfl)
set_option maxHeartbeats 4000000 in
set_option maxRecDepth 100000 in
/-- X2_longestChainFrom -/
theorem c_X2_longestChainFrom (l : Launch) (D : va_G) (cI : ClassId) (h B C G GB GW GR TB TG FR CH n : Nat) (b bo wo ro fr : Nat → Int) (rc sh po : Int) (g : Nat → Nat) (ch : Nat → Int) (j : Nat) (hn : n ≤ 6) (hb0 : ∀ k, 0 ≤ b k ∧ b k ≤ 999) (hro : ∀ j, j < n → ro j = ((g j : Nat) : Int)) (hgn : ∀ j, j < n → g j < n) (hj : j < n) (hch : ∀ j, j < n → 1 ≤ ch j ∧ ch j ≤ 6) : zRi l yX2_longestChainFrom wsX2_longestChainFrom 4 86 D cI [.ref h, .int (iI ((j : Nat) : Int))] [(h, .inr (2, [.ref B, .ref G, .ref TB, .ref TG, .ref FR, .ref CH, .int (iI (rc)), .int (iI (sh)), .int (iI (po))])), (B, .inr (0, [.ref C, .int (iI ((n : Nat) : Int))])), (C, zArr cI 36 b), (G, .inr (1, [.ref GB, .ref GW, .ref GR])), (GB, zArr cI 64 bo), (GW, zArr cI 64 wo), (GR, zArr cI 6 ro), (FR, zArr cI 6 fr), (CH, zArr cI 6 ch)] (iI (zLc b g ch j n)) := by
  refine zRi_of (cc := cX2_longestChainFrom) (maxL := 4) (rt := .int) (by decide) rfl (Nat.le_of_ble_eq_true rfl) ?_
  intro p e s m args below meth c ls hF hr hlocks hP hK hl
  have hF : zFix p m c cX2_longestChainFrom 4 s args wsX2_longestChainFrom RX2 := hF
  obtain ⟨hx, hb, hml, hown, hts⟩ := id hF
  have hP : va_P D vwCl [(h, .inr (2, [.ref B, .ref G, .ref TB, .ref TG, .ref FR, .ref CH, .int (iI (rc)), .int (iI (sh)), .int (iI (po))])), (B, .inr (0, [.ref C, .int (iI ((n : Nat) : Int))])), (C, zArr cI 36 b), (G, .inr (1, [.ref GB, .ref GW, .ref GR])), (GB, zArr cI 64 bo), (GW, zArr cI 64 wo), (GR, zArr cI 6 ro), (FR, zArr cI 6 fr), (CH, zArr cI 6 ch)] s.heap := hP
  have hl : lv_has ls 4 [(0, .ref h), (1, .int (iI ((j : Nat) : Int)))] := hl
  refine zr_ic (n := ((1 : Nat) : Int)) hx hb dX2_longestChainFrom_0 ?_
  refine lv_istore_n (lv' := [(2, .int (iI ((1 : Nat) : Int))), (0, .ref h), (1, .int (iI ((j : Nat) : Int)))]) hx hb dX2_longestChainFrom_1 rfl hl (by decide) rfl (fun ls hl => ?_)
  refine zr_ic (n := ((0 : Nat) : Int)) hx hb dX2_longestChainFrom_2 ?_
  refine lv_istore_n (lv' := [(3, .int (iI ((0 : Nat) : Int))), (2, .int (iI ((1 : Nat) : Int))), (0, .ref h), (1, .int (iI ((j : Nat) : Int)))]) hx hb dX2_longestChainFrom_3 rfl hl (by decide) rfl (fun ls hl => ?_)
  have LL : ∀ (k0 : Nat) (i : Nat), n - i < k0 → (hi : i ≤ n) → ∀ (ls : Array Slot), lv_has ls 4 [(0, .ref h), (1, .int (iI ((j : Nat) : Int))), (2, .int (iI (zLc b g ch j i))), (3, .int (iI ((i : Nat) : Int)))] → W p l e (zRm 4 86) s m args below meth c s.heap [] 0 0 (MQ below (vp_Si (fun x => x = (iI (zLc b g ch j n)))) args s 0 0 (fun _ => False)) (F0 m 4 ls []) := by
    intro k0
    induction k0 with
    | zero => intro i hk; exact absurd hk (Nat.not_lt_zero _)
    | succ k0 ih_LL =>
      intro i hk hi ls hl
      refine lv_iload_n hx hb dX2_longestChainFrom_4 rfl (lv_at hl 3 rfl) ?_
      refine lv_aload_n hx hb dX2_longestChainFrom_5 rfl (lv_at hl 0 rfl) ?_
      refine va_get (D := D) (ci := 2) (v := .ref B) (C := RX2) (T := TX2) (N := 9) hx hb hts (by decide +kernel) hown hK hP 0 rfl rfl 0 (by decide) (hts (.fieldLink RX2 10 "RentHarmony" "bids" "LRentHarmony$Bids;") (by decide +kernel)) (fun _ h9 => h9) rfl dX2_longestChainFrom_6 ?_
      refine zc_ri (As := []) (rest := [.int (iI ((i : Nat) : Int))]) hF (c_X0_size l D cI B C n b ) (cwV 0 hts gX2_longestChainFrom_X0_size rfl rfl rfl (by decide +kernel) ⟨Nat.le_of_ble_eq_true rfl, Nat.le_of_ble_eq_true rfl⟩) hK hP [1, 2] rfl 0 rfl 0 rfl rfl rfl rfl hl.1 rfl (Nat.le_of_ble_eq_true rfl) dX2_longestChainFrom_9 ⟨Nat.zero_le _, Nat.zero_le _⟩ ?_
      refine zr_icmp_ge (tgt := 43) hx hb dX2_longestChainFrom_12 (by decide) (zB_of (by omega) (by omega)) (zB_of (by omega) (by omega)) (fun c1 => ?_) (fun c1 => ?_)
      · refine lv_iload_n hx hb dX2_longestChainFrom_43 rfl (lv_at hl 2 rfl) ?_
        exact zRi_ret hx hb hr hlocks dX2_longestChainFrom_44 (by rw [show i = n by omega])
      · refine lv_aload_n hx hb dX2_longestChainFrom_15 rfl (lv_at hl 0 rfl) ?_
        refine lv_iload_n hx hb dX2_longestChainFrom_16 rfl (lv_at hl 1 rfl) ?_
        refine lv_iload_n hx hb dX2_longestChainFrom_17 rfl (lv_at hl 3 rfl) ?_
        refine zc_ri (As := [.int (iI ((j : Nat) : Int)), .int (iI ((i : Nat) : Int))]) (rest := []) hF (c_X2_wouldEnvy l D cI h B C G GB GW GR TB TG FR CH n b bo wo ro fr rc sh po g j i (by omega) (by assumption) (by assumption) (by assumption) (by omega) (by omega)) (cwV 2 hts gX2_longestChainFrom_X2_wouldEnvy rfl rfl rfl (by decide +kernel) ⟨Nat.le_of_ble_eq_true rfl, Nat.le_of_ble_eq_true rfl⟩) hK hP [0, 1, 2, 3, 4, 5, 6, 7] rfl 0 rfl 0 rfl rfl rfl rfl hl.1 rfl (Nat.le_of_ble_eq_true rfl) dX2_longestChainFrom_18 ⟨Nat.zero_le _, Nat.zero_le _⟩ ?_
        refine zr_ifB_eq (tgt := 37) hx hb dX2_longestChainFrom_21 (by decide)  (fun c2 => ?_) (fun c2 => ?_)
        · refine zr_iinc (lv2 := [(3, .int (iI (((i : Nat) : Int) + 1))), (0, .ref h), (1, .int (iI ((j : Nat) : Int))), (2, .int (iI (zLc b g ch j i)))]) hx hb dX2_longestChainFrom_37 hl (k0 := 3) rfl (by decide) rfl (fun ls hl => ?_)
          have hl : lv_has ls 4 [(3, .int (iI ((i + 1 : Nat) : Int))), (0, .ref h), (1, .int (iI ((j : Nat) : Int))), (2, .int (iI (zLc b g ch j i)))] := hl
          refine lv_goto (tgt := 4) hx hb dX2_longestChainFrom_40 (by decide) ?_
          have hl : lv_has ls 4 [(3, .int (iI ((i + 1 : Nat) : Int))), (0, .ref h), (1, .int (iI ((j : Nat) : Int))), (2, .int (iI (zLc b g ch j (i + 1))))] := by rw [show (zLc b g ch j (i + 1)) = (zLc b g ch j i) from by show (if zEn b g j i then max (zLc b g ch j i) (ch i + 1) else zLc b g ch j i) = _; exact if_neg c2]; exact hl
          exact ih_LL (i + 1) (by omega) (by omega) _ (lv_sub hl [1, 2, 3, 0] rfl)
        · refine lv_iload_n hx hb dX2_longestChainFrom_24 rfl (lv_at hl 2 rfl) ?_
          refine lv_aload_n hx hb dX2_longestChainFrom_25 rfl (lv_at hl 0 rfl) ?_
          refine va_get (D := D) (ci := 2) (v := .ref CH) (C := RX2) (T := TX2) (N := 9) hx hb hts (by decide +kernel) hown hK hP 0 rfl rfl 5 (by decide) (hts (.fieldLink RX2 33 "RentHarmony" "chains" "[I") (by decide +kernel)) (fun _ h9 => h9) rfl dX2_longestChainFrom_26 ?_
          refine lv_iload_n hx hb dX2_longestChainFrom_29 rfl (lv_at hl 3 rfl) ?_
          refine zr_iald hx hb hK hP 8 0 rfl rfl (i) (by omega) (by omega) (by omega) dX2_longestChainFrom_30 ?_
          refine zr_ic (n := ((1 : Nat) : Int)) hx hb dX2_longestChainFrom_31 ?_
          refine zr_add hx hb dX2_longestChainFrom_32 ?_
          have hm1 := zLc_b (b := b) (g := g) (ch := ch) (a := j) (M := 10000) (by decide) i (fun c hc => by have q := hch c (by omega); omega)
          have hm2 := hch i (by omega)
          refine zr_max (rest := []) hx hb (hml.trans hl.1.symm) hown (hts (.methodLink RX2 123 Lib.Math.max.name) (by decide +kernel)) (hts (.static Lib.Math.max.name) (by decide +kernel)) (hts (.initialized "java/lang/Math") (by decide +kernel)) (hts (.code Lib.Math.max.name Lib.Math.max.code 2 (some .int)) (by decide +kernel)) (Nat.le_of_ble_eq_true rfl) (Nat.le_of_ble_eq_true rfl) (Nat.zero_le _) (Nat.zero_le _) (zB_of (by omega) (by omega)) (zB_of (by omega) (by omega)) dX2_longestChainFrom_33 ?_
          refine lv_istore_n (lv' := [(2, .int (iI (max (zLc b g ch j i) ((ch (i)) + ((1 : Nat) : Int))))), (0, .ref h), (1, .int (iI ((j : Nat) : Int))), (3, .int (iI ((i : Nat) : Int)))]) hx hb dX2_longestChainFrom_36 rfl hl (by decide) rfl (fun ls hl => ?_)
          refine zr_iinc (lv2 := [(3, .int (iI (((i : Nat) : Int) + 1))), (2, .int (iI (max (zLc b g ch j i) ((ch (i)) + ((1 : Nat) : Int))))), (0, .ref h), (1, .int (iI ((j : Nat) : Int)))]) hx hb dX2_longestChainFrom_37 hl (k0 := 3) rfl (by decide) rfl (fun ls hl => ?_)
          have hl : lv_has ls 4 [(3, .int (iI ((i + 1 : Nat) : Int))), (2, .int (iI (max (zLc b g ch j i) ((ch (i)) + ((1 : Nat) : Int))))), (0, .ref h), (1, .int (iI ((j : Nat) : Int)))] := hl
          refine lv_goto (tgt := 4) hx hb dX2_longestChainFrom_40 (by decide) ?_
          have hl : lv_has ls 4 [(3, .int (iI ((i + 1 : Nat) : Int))), (2, .int (iI (zLc b g ch j (i + 1)))), (0, .ref h), (1, .int (iI ((j : Nat) : Int)))] := by rw [show (zLc b g ch j (i + 1)) = (max (zLc b g ch j i) ((ch (i)) + ((1 : Nat) : Int))) from by show (if zEn b g j i then max (zLc b g ch j i) (ch i + 1) else zLc b g ch j i) = _; exact if_pos c2]; exact hl
          exact ih_LL (i + 1) (by omega) (by omega) _ (lv_sub hl [2, 3, 1, 0] rfl)
  have hl : lv_has ls 4 [(3, .int (iI ((0 : Nat) : Int))), (2, .int (iI (zLc b g ch j 0))), (0, .ref h), (1, .int (iI ((j : Nat) : Int)))] := by rw [show (zLc b g ch j 0) = ((1 : Nat) : Int) from rfl]; exact hl
  exact LL ((n - (0)) + 1) (0) (Nat.lt_succ_self _) (by omega) _ (lv_sub hl [2, 3, 1, 0] rfl)
