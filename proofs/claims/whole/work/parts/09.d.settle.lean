theorem zSum_addc {f g : Nat → Int} {z : Int} : ∀ n, (∀ j, j < n → f j = g j + z) → zSum f n = zSum g n + z * (n : Int)
  | 0, _ => by show (0 : Int) = 0 + z * ((0 : Nat) : Int); simp
  | n + 1, h => by
    show zSum f n + f n = zSum g n + g n + z * ((n + 1 : Nat) : Int)
    rw [zSum_addc n (fun j hj => h j (by omega)), h n (by omega)]
    push_cast
    rw [Int.mul_add, Int.mul_one]
    omega

set_option maxHeartbeats 4000000 in
set_option maxRecDepth 100000 in
/-- X3_give -/
theorem c_X3_give (l : Launch) (D : va_G) (cI : ClassId) (M MB MR ME MZ MT n : Nat) (b mr me mq mt : Nat → Int) (th rc wo wy po fe wh wi mu : Int) (hn : n ≤ 6) (hb0 : ∀ k, 0 ≤ b k ∧ b k ≤ 999) (hfe : zB fe) (hwh : zB wh) (hwi : zB wi) (hmu : 0 ≤ mu ∧ mu ≤ 1) : zWi (S := Int × Int × (Nat → Int) × (Nat → Int)) l yX3_give wsX3_give 8 191 D cI [.ref M] [(M, .inr (3, [.int (iI (th)), .int (iI ((n : Nat) : Int)), .int (iI (rc)), .ref MB, .ref MR, .ref ME, .ref MZ, .int (iI (wo)), .int (iI (wy)), .int (iI (po)), .ref MT, .int (iI (fe)), .int (iI (wh)), .int (iI (wi)), .int (iI (mu))])), (MB, zArr cI 36 b), (MR, zArr cI 6 mr), (ME, zArr cI 6 me), (MZ, zArr cI 6 mq), (MT, zArr cI 6 mt)] (fun r u8 => r = iI (zBest (zX n b fe wh wi mu)) ∧ zGave n (zX n b fe wh wi mu) u8.1 u8.2.1 u8.2.2.1) (fun u8 => [(M, .inr (3, [.int (iI (th)), .int (iI ((n : Nat) : Int)), .int (iI (rc)), .ref MB, .ref MR, .ref ME, .ref MZ, .int (iI (u8.1)), .int (iI (u8.2.1)), .int (iI (po)), .ref MT, .int (iI (fe)), .int (iI (wh)), .int (iI (wi)), .int (iI (mu))])), (MB, zArr cI 36 b), (MR, zArr cI 6 u8.2.2.1), (ME, zArr cI 6 me), (MZ, zArr cI 6 mq), (MT, zArr cI 6 u8.2.2.2)]) := by
  refine zWi_of (cc := cX3_give) (maxL := 1) (rt := .int) (by decide) rfl (Nat.le_of_ble_eq_true rfl) ?_
  intro p e s m args below meth c ls A hF hr hlocks hP hK hD hS hl
  have hF : zFix p m c cX3_give 1 s args wsX3_give RX3 := hF
  obtain ⟨hx, hb, hml, hown, hts⟩ := id hF
  have hP : va_P D vwCl [(M, .inr (3, [.int (iI (th)), .int (iI ((n : Nat) : Int)), .int (iI (rc)), .ref MB, .ref MR, .ref ME, .ref MZ, .int (iI (wo)), .int (iI (wy)), .int (iI (po)), .ref MT, .int (iI (fe)), .int (iI (wh)), .int (iI (wi)), .int (iI (mu))])), (MB, zArr cI 36 b), (MR, zArr cI 6 mr), (ME, zArr cI 6 me), (MZ, zArr cI 6 mq), (MT, zArr cI 6 mt)] s.heap := hP
  have hD : va_D A [(M, .inr (3, [.int (iI (th)), .int (iI ((n : Nat) : Int)), .int (iI (rc)), .ref MB, .ref MR, .ref ME, .ref MZ, .int (iI (wo)), .int (iI (wy)), .int (iI (po)), .ref MT, .int (iI (fe)), .int (iI (wh)), .int (iI (wi)), .int (iI (mu))])), (MB, zArr cI 36 b), (MR, zArr cI 6 mr), (ME, zArr cI 6 me), (MZ, zArr cI 6 mq), (MT, zArr cI 6 mt)] := hD
  skip
  have hl : lv_has ls 1 [(0, .ref M)] := hl
  refine lv_aload_n hx hb dX3_give_0 rfl (lv_at hl 0 rfl) ?_
  refine zr_ic (n := -1) hx hb dX3_give_1 ?_
  refine va_put (D := D) (ci := 3) (v := .int (iI (-1))) (ty := .int) (C := RX3) (T := TX3) (N := 15) hx hb hts (by decide +kernel) tyX3 tyX3_ok nmX3 hown hK hP hD hS 0 rfl rfl 7 (by decide) (hts (.fieldLink RX3 64 "RentHarmonyModel" "worth" "I") (by decide +kernel)) (fun _ h9 => h9) rfl (by decide +kernel) rfl rfl (Nat.le_of_ble_eq_true rfl) dX3_give_2 (fun H locs hP hD hS => ?_)
  have hP : va_P D vwCl [(M, .inr (3, [.int (iI (th)), .int (iI ((n : Nat) : Int)), .int (iI (rc)), .ref MB, .ref MR, .ref ME, .ref MZ, .int (iI (-1)), .int (iI (wy)), .int (iI (po)), .ref MT, .int (iI (fe)), .int (iI (wh)), .int (iI (wi)), .int (iI (mu))])), (MB, zArr cI 36 b), (MR, zArr cI 6 mr), (ME, zArr cI 6 me), (MZ, zArr cI 6 mq), (MT, zArr cI 6 mt)] H := hP
  have hD : va_D A [(M, .inr (3, [.int (iI (th)), .int (iI ((n : Nat) : Int)), .int (iI (rc)), .ref MB, .ref MR, .ref ME, .ref MZ, .int (iI (-1)), .int (iI (wy)), .int (iI (po)), .ref MT, .int (iI (fe)), .int (iI (wh)), .int (iI (wi)), .int (iI (mu))])), (MB, zArr cI 36 b), (MR, zArr cI 6 mr), (ME, zArr cI 6 me), (MZ, zArr cI 6 mq), (MT, zArr cI 6 mt)] := hD
  refine lv_aload_n hx hb dX3_give_5 rfl (lv_at hl 0 rfl) ?_
  refine zr_ic (n := ((0 : Nat) : Int)) hx hb dX3_give_6 ?_
  refine va_put (D := D) (ci := 3) (v := .int (iI ((0 : Nat) : Int))) (ty := .int) (C := RX3) (T := TX3) (N := 15) hx hb hts (by decide +kernel) tyX3 tyX3_ok nmX3 hown hK hP hD hS 0 rfl rfl 8 (by decide) (hts (.fieldLink RX3 67 "RentHarmonyModel" "ways" "I") (by decide +kernel)) (fun _ h9 => h9) rfl (by decide +kernel) rfl rfl (Nat.le_of_ble_eq_true rfl) dX3_give_7 (fun H locs hP hD hS => ?_)
  have hP : va_P D vwCl [(M, .inr (3, [.int (iI (th)), .int (iI ((n : Nat) : Int)), .int (iI (rc)), .ref MB, .ref MR, .ref ME, .ref MZ, .int (iI (-1)), .int (iI ((0 : Nat) : Int)), .int (iI (po)), .ref MT, .int (iI (fe)), .int (iI (wh)), .int (iI (wi)), .int (iI (mu))])), (MB, zArr cI 36 b), (MR, zArr cI 6 mr), (ME, zArr cI 6 me), (MZ, zArr cI 6 mq), (MT, zArr cI 6 mt)] H := hP
  have hD : va_D A [(M, .inr (3, [.int (iI (th)), .int (iI ((n : Nat) : Int)), .int (iI (rc)), .ref MB, .ref MR, .ref ME, .ref MZ, .int (iI (-1)), .int (iI ((0 : Nat) : Int)), .int (iI (po)), .ref MT, .int (iI (fe)), .int (iI (wh)), .int (iI (wi)), .int (iI (mu))])), (MB, zArr cI 36 b), (MR, zArr cI 6 mr), (ME, zArr cI 6 me), (MZ, zArr cI 6 mq), (MT, zArr cI 6 mt)] := hD
  refine lv_aload_n hx hb dX3_give_10 rfl (lv_at hl 0 rfl) ?_
  refine zr_ic (n := ((0 : Nat) : Int)) hx hb dX3_give_11 ?_
  refine zr_ic (n := ((0 : Nat) : Int)) hx hb dX3_give_12 ?_
  refine zc_wv (As := [.int (iI ((0 : Nat) : Int)), .int (iI ((0 : Nat) : Int))]) (rest := []) hF (c_X3_tryFrom_0 l D cI M MB MR ME MZ MT n b mr me mq mt th rc (-1) ((0 : Nat) : Int) po fe wh wi mu [] ((0 : Nat) : Int) (by omega) (by assumption) (by omega) rfl (fun j hj => absurd hj (Nat.not_lt_zero _)) (fun j hj => absurd hj (Nat.not_lt_zero _)) (by omega) (by omega) (by assumption) (by assumption) (by assumption) (by assumption)) (cwV 2 hts gX3_give_X3_tryFrom rfl rfl rfl (by decide +kernel) ⟨Nat.le_of_ble_eq_true rfl, Nat.le_of_ble_eq_true rfl⟩) hK hP hD hS [0, 1, 2, 3, 4, 5] rfl rfl (fun _ => rfl) 0 rfl 0 rfl rfl rfl rfl hl.1 rfl (Nat.le_of_ble_eq_true rfl) dX3_give_13 ⟨Nat.zero_le _, Nat.zero_le _⟩ (fun u1 H locs hw hP hD hS => ?_)
  obtain ⟨wo3, wy3, ro3, mt3⟩ := u1
  obtain ⟨hs3, hm3, hb3⟩ := hw
  have hP : va_P D vwCl [(M, .inr (3, [.int (iI (th)), .int (iI ((n : Nat) : Int)), .int (iI (rc)), .ref MB, .ref MR, .ref ME, .ref MZ, .int (iI (wo3)), .int (iI (wy3)), .int (iI (po)), .ref MT, .int (iI (fe)), .int (iI (wh)), .int (iI (wi)), .int (iI (mu))])), (MB, zArr cI 36 b), (MR, zArr cI 6 ro3), (ME, zArr cI 6 me), (MZ, zArr cI 6 mq), (MT, zArr cI 6 mt3)] H := hP
  have hD : va_D A [(M, .inr (3, [.int (iI (th)), .int (iI ((n : Nat) : Int)), .int (iI (rc)), .ref MB, .ref MR, .ref ME, .ref MZ, .int (iI (wo3)), .int (iI (wy3)), .int (iI (po)), .ref MT, .int (iI (fe)), .int (iI (wh)), .int (iI (wi)), .int (iI (mu))])), (MB, zArr cI 36 b), (MR, zArr cI 6 ro3), (ME, zArr cI 6 me), (MZ, zArr cI 6 mq), (MT, zArr cI 6 mt3)] := hD
  have hgv : zGave n (zX n b fe wh wi mu) wo3 wy3 ro3 := zStep_fin (show zStep n [] 0 (zX n b fe wh wi mu) (-1) 0 mr wo3 wy3 ro3 from hs3) (fun x hx => (zX_b hn hb0 hx).1)
  refine lv_aload_n hx hb dX3_give_16 rfl (lv_at hl 0 rfl) ?_
  refine va_get (D := D) (ci := 3) (v := .int (iI (wo3))) (C := RX3) (T := TX3) (N := 15) hx hb hts (by decide +kernel) hown hK hP 0 rfl rfl 7 (by decide) (hts (.fieldLink RX3 64 "RentHarmonyModel" "worth" "I") (by decide +kernel)) (fun _ h9 => h9) rfl dX3_give_17 ?_
  exact zWi_ret hx hb hr hlocks hS dX3_give_20 (wo3, wy3, ro3, mt3) ⟨congrArg iI hgv.1, hgv⟩ hP
set_option maxHeartbeats 4000000 in
set_option maxRecDepth 100000 in
/-- X3_isRaised -/
theorem c_X3_isRaised (l : Launch) (D : va_G) (cI : ClassId) (M MB MR ME MZ MT n : Nat) (b mr me mq mt : Nat → Int) (th rc wo wy po fe wh wi mu : Int) (g : Nat → Nat) (U : Nat → Int) (hn : n ≤ 6) (hb0 : ∀ k, 0 ≤ b k ∧ b k ≤ 999) (hro : ∀ j, j < n → mr j = ((g j : Nat) : Int)) (hgn : ∀ j, j < n → g j < n) (hfix : ∀ a c, a < n → c < n → zWt b g a c + U c ≤ U a) (hUb : ∀ a, a < n → 0 ≤ U a ∧ U a ≤ 5994) (hme : ∀ a, a < n → 0 ≤ me a ∧ me a ≤ U a) : zWi (S := (Nat → Int) × Int) l yX3_isRaised wsX3_isRaised 2 44 D cI [.ref M] [(M, .inr (3, [.int (iI (th)), .int (iI ((n : Nat) : Int)), .int (iI (rc)), .ref MB, .ref MR, .ref ME, .ref MZ, .int (iI (wo)), .int (iI (wy)), .int (iI (po)), .ref MT, .int (iI (fe)), .int (iI (wh)), .int (iI (wi)), .int (iI (mu))])), (MB, zArr cI 36 b), (MR, zArr cI 6 mr), (ME, zArr cI 6 me), (MZ, zArr cI 6 mq), (MT, zArr cI 6 mt)] (fun r u8 => r = iI u8.2 ∧ (∀ j, j < n → me j ≤ u8.1 j ∧ u8.1 j ≤ U j) ∧ ((u8.2 = 0 ∧ (∀ j, j < n → u8.1 j = me j) ∧ (∀ j, j < n → ∀ k, k < n → zWt b g j k + u8.1 k ≤ u8.1 j)) ∨ (u8.2 = 1 ∧ ∃ j, j < n ∧ me j < u8.1 j))) (fun u8 => [(M, .inr (3, [.int (iI (th)), .int (iI ((n : Nat) : Int)), .int (iI (rc)), .ref MB, .ref MR, .ref ME, .ref MZ, .int (iI (wo)), .int (iI (wy)), .int (iI (po)), .ref MT, .int (iI (fe)), .int (iI (wh)), .int (iI (wi)), .int (iI (mu))])), (MB, zArr cI 36 b), (MR, zArr cI 6 mr), (ME, zArr cI 6 u8.1), (MZ, zArr cI 6 mq), (MT, zArr cI 6 mt)]) := by
  refine zWi_of (cc := cX3_isRaised) (maxL := 4) (rt := .boolean) (by decide) rfl (Nat.le_of_ble_eq_true rfl) ?_
  intro p e s m args below meth c ls A hF hr hlocks hP hK hD hS hl
  have hF : zFix p m c cX3_isRaised 4 s args wsX3_isRaised RX3 := hF
  obtain ⟨hx, hb, hml, hown, hts⟩ := id hF
  have hP : va_P D vwCl [(M, .inr (3, [.int (iI (th)), .int (iI ((n : Nat) : Int)), .int (iI (rc)), .ref MB, .ref MR, .ref ME, .ref MZ, .int (iI (wo)), .int (iI (wy)), .int (iI (po)), .ref MT, .int (iI (fe)), .int (iI (wh)), .int (iI (wi)), .int (iI (mu))])), (MB, zArr cI 36 b), (MR, zArr cI 6 mr), (ME, zArr cI 6 me), (MZ, zArr cI 6 mq), (MT, zArr cI 6 mt)] s.heap := hP
  have hD : va_D A [(M, .inr (3, [.int (iI (th)), .int (iI ((n : Nat) : Int)), .int (iI (rc)), .ref MB, .ref MR, .ref ME, .ref MZ, .int (iI (wo)), .int (iI (wy)), .int (iI (po)), .ref MT, .int (iI (fe)), .int (iI (wh)), .int (iI (wi)), .int (iI (mu))])), (MB, zArr cI 36 b), (MR, zArr cI 6 mr), (ME, zArr cI 6 me), (MZ, zArr cI 6 mq), (MT, zArr cI 6 mt)] := hD
  skip
  have hl : lv_has ls 4 [(0, .ref M)] := hl
  refine zr_ic (n := ((0 : Nat) : Int)) hx hb dX3_isRaised_0 ?_
  refine lv_istore_n (lv' := [(1, .int (iI ((0 : Nat) : Int))), (0, .ref M)]) hx hb dX3_isRaised_1 rfl hl (by decide) rfl (fun ls hl => ?_)
  refine zr_ic (n := ((0 : Nat) : Int)) hx hb dX3_isRaised_2 ?_
  refine lv_istore_n (lv' := [(2, .int (iI ((0 : Nat) : Int))), (1, .int (iI ((0 : Nat) : Int))), (0, .ref M)]) hx hb dX3_isRaised_3 rfl hl (by decide) rfl (fun ls hl => ?_)
  have LA : ∀ (k0 : Nat) (a1 : Nat) (e1 : Nat → Int) (d1 : Int), n - a1 < k0 → (ha1 : a1 ≤ n) → (hr1 : zRs n (zWt b g) U me e1 d1 a1 0) → ∀ (H : Heap) (locs : List Loc), va_P D vwCl [(M, .inr (3, [.int (iI (th)), .int (iI ((n : Nat) : Int)), .int (iI (rc)), .ref MB, .ref MR, .ref ME, .ref MZ, .int (iI (wo)), .int (iI (wy)), .int (iI (po)), .ref MT, .int (iI (fe)), .int (iI (wh)), .int (iI (wi)), .int (iI (mu))])), (MB, zArr cI 36 b), (MR, zArr cI 6 mr), (ME, zArr cI 6 e1), (MZ, zArr cI 6 mq), (MT, zArr cI 6 mt)] H → va_D A [(M, .inr (3, [.int (iI (th)), .int (iI ((n : Nat) : Int)), .int (iI (rc)), .ref MB, .ref MR, .ref ME, .ref MZ, .int (iI (wo)), .int (iI (wy)), .int (iI (po)), .ref MT, .int (iI (fe)), .int (iI (wh)), .int (iI (wi)), .int (iI (mu))])), (MB, zArr cI 36 b), (MR, zArr cI 6 mr), (ME, zArr cI 6 e1), (MZ, zArr cI 6 mq), (MT, zArr cI 6 mt)] → va_S A s.heap H locs → ∀ (ls : Array Slot), lv_has ls 4 [(0, .ref M), (1, .int (iI (d1))), (2, .int (iI ((a1 : Nat) : Int)))] → W p l e (zRm 2 44) s m args below meth c H locs 0 0 (MQ below (va_Qi (S := (Nat → Int) × Int) (fun r u8 => r = iI u8.2 ∧ (∀ j, j < n → me j ≤ u8.1 j ∧ u8.1 j ≤ U j) ∧ ((u8.2 = 0 ∧ (∀ j, j < n → u8.1 j = me j) ∧ (∀ j, j < n → ∀ k, k < n → zWt b g j k + u8.1 k ≤ u8.1 j)) ∨ (u8.2 = 1 ∧ ∃ j, j < n ∧ me j < u8.1 j))) (fun u9 t9 => va_P D vwCl ((fun u8 => [(M, .inr (3, [.int (iI (th)), .int (iI ((n : Nat) : Int)), .int (iI (rc)), .ref MB, .ref MR, .ref ME, .ref MZ, .int (iI (wo)), .int (iI (wy)), .int (iI (po)), .ref MT, .int (iI (fe)), .int (iI (wh)), .int (iI (wi)), .int (iI (mu))])), (MB, zArr cI 36 b), (MR, zArr cI 6 mr), (ME, zArr cI 6 u8.1), (MZ, zArr cI 6 mq), (MT, zArr cI 6 mt)]) u9) t9.heap) A) args s 0 0 A) (F0 m 4 ls []) := by
    intro k0
    induction k0 with
    | zero => intro a1 e1 d1 hk; exact absurd hk (Nat.not_lt_zero _)
    | succ k0 ih_LA =>
      intro a1 e1 d1 hk ha1 hr1 H locs hP hD hS ls hl
      refine lv_iload_n hx hb dX3_isRaised_4 rfl (lv_at hl 2 rfl) ?_
      refine lv_aload_n hx hb dX3_isRaised_5 rfl (lv_at hl 0 rfl) ?_
      refine va_get (D := D) (ci := 3) (v := .int (iI ((n : Nat) : Int))) (C := RX3) (T := TX3) (N := 15) hx hb hts (by decide +kernel) hown hK hP 0 rfl rfl 1 (by decide) (hts (.fieldLink RX3 38 "RentHarmonyModel" "lodgers" "I") (by decide +kernel)) (fun _ h9 => h9) rfl dX3_isRaised_6 ?_
      refine zr_icmp_ge (tgt := 66) hx hb dX3_isRaised_9 (by decide) (zB_of (by omega) (by omega)) (zB_of (by omega) (by omega)) (fun c1 => ?_) (fun c1 => ?_)
      · refine lv_iload_n hx hb dX3_isRaised_66 rfl (lv_at hl 1 rfl) ?_
        have hdoes : d1 = 0 ∨ d1 = 1 := by rcases hr1.2 with ⟨z, -⟩ | ⟨z, -⟩; exact Or.inl z; exact Or.inr z
        have e9 : a1 = n := by omega
        exact zWi_retz hx hb hr (by rcases hdoes with h | h <;> rw [h] <;> rfl) hlocks hS dX3_isRaised_67 (e1, d1) ⟨rfl, hr1.1, by rcases hr1.2 with ⟨z1, z2, z3, -⟩ | z; exact Or.inl ⟨z1, z2, fun j hj k hk => z3 j (by omega) k hk⟩; exact Or.inr z⟩ hP
      · refine zr_ic (n := ((0 : Nat) : Int)) hx hb dX3_isRaised_12 ?_
        refine lv_istore_n (lv' := [(3, .int (iI ((0 : Nat) : Int))), (0, .ref M), (1, .int (iI (d1))), (2, .int (iI ((a1 : Nat) : Int)))]) hx hb dX3_isRaised_13 rfl hl (by decide) rfl (fun ls hl => ?_)
        have LC : ∀ (k0 : Nat) (c1 : Nat) (e2 : Nat → Int) (d2 : Int), n - c1 < k0 → (hc1 : c1 ≤ n) → (hr2 : zRs n (zWt b g) U me e2 d2 a1 c1) → ∀ (H : Heap) (locs : List Loc), va_P D vwCl [(M, .inr (3, [.int (iI (th)), .int (iI ((n : Nat) : Int)), .int (iI (rc)), .ref MB, .ref MR, .ref ME, .ref MZ, .int (iI (wo)), .int (iI (wy)), .int (iI (po)), .ref MT, .int (iI (fe)), .int (iI (wh)), .int (iI (wi)), .int (iI (mu))])), (MB, zArr cI 36 b), (MR, zArr cI 6 mr), (ME, zArr cI 6 e2), (MZ, zArr cI 6 mq), (MT, zArr cI 6 mt)] H → va_D A [(M, .inr (3, [.int (iI (th)), .int (iI ((n : Nat) : Int)), .int (iI (rc)), .ref MB, .ref MR, .ref ME, .ref MZ, .int (iI (wo)), .int (iI (wy)), .int (iI (po)), .ref MT, .int (iI (fe)), .int (iI (wh)), .int (iI (wi)), .int (iI (mu))])), (MB, zArr cI 36 b), (MR, zArr cI 6 mr), (ME, zArr cI 6 e2), (MZ, zArr cI 6 mq), (MT, zArr cI 6 mt)] → va_S A s.heap H locs → ∀ (ls : Array Slot), lv_has ls 4 [(0, .ref M), (1, .int (iI (d2))), (2, .int (iI ((a1 : Nat) : Int))), (3, .int (iI ((c1 : Nat) : Int)))] → W p l e (zRm 2 44) s m args below meth c H locs 0 0 (MQ below (va_Qi (S := (Nat → Int) × Int) (fun r u8 => r = iI u8.2 ∧ (∀ j, j < n → me j ≤ u8.1 j ∧ u8.1 j ≤ U j) ∧ ((u8.2 = 0 ∧ (∀ j, j < n → u8.1 j = me j) ∧ (∀ j, j < n → ∀ k, k < n → zWt b g j k + u8.1 k ≤ u8.1 j)) ∨ (u8.2 = 1 ∧ ∃ j, j < n ∧ me j < u8.1 j))) (fun u9 t9 => va_P D vwCl ((fun u8 => [(M, .inr (3, [.int (iI (th)), .int (iI ((n : Nat) : Int)), .int (iI (rc)), .ref MB, .ref MR, .ref ME, .ref MZ, .int (iI (wo)), .int (iI (wy)), .int (iI (po)), .ref MT, .int (iI (fe)), .int (iI (wh)), .int (iI (wi)), .int (iI (mu))])), (MB, zArr cI 36 b), (MR, zArr cI 6 mr), (ME, zArr cI 6 u8.1), (MZ, zArr cI 6 mq), (MT, zArr cI 6 mt)]) u9) t9.heap) A) args s 0 0 A) (F0 m 14 ls []) := by
          intro k0
          induction k0 with
          | zero => intro c1 e2 d2 hk; exact absurd hk (Nat.not_lt_zero _)
          | succ k0 ih_LC =>
            intro c1 e2 d2 hk hc1 hr2 H locs hP hD hS ls hl
            refine lv_iload_n hx hb dX3_isRaised_14 rfl (lv_at hl 3 rfl) ?_
            refine lv_aload_n hx hb dX3_isRaised_15 rfl (lv_at hl 0 rfl) ?_
            refine va_get (D := D) (ci := 3) (v := .int (iI ((n : Nat) : Int))) (C := RX3) (T := TX3) (N := 15) hx hb hts (by decide +kernel) hown hK hP 0 rfl rfl 1 (by decide) (hts (.fieldLink RX3 38 "RentHarmonyModel" "lodgers" "I") (by decide +kernel)) (fun _ h9 => h9) rfl dX3_isRaised_16 ?_
            refine zr_icmp_ge (tgt := 60) hx hb dX3_isRaised_19 (by decide) (zB_of (by omega) (by omega)) (zB_of (by omega) (by omega)) (fun c2 => ?_) (fun c2 => ?_)
            · refine zr_iinc (lv2 := [(2, .int (iI (((a1 : Nat) : Int) + 1))), (0, .ref M), (1, .int (iI (d2))), (3, .int (iI ((c1 : Nat) : Int)))]) hx hb dX3_isRaised_60 hl (k0 := 2) rfl (by decide) rfl (fun ls hl => ?_)
              have hl : lv_has ls 4 [(2, .int (iI ((a1 + 1 : Nat) : Int))), (0, .ref M), (1, .int (iI (d2))), (3, .int (iI ((c1 : Nat) : Int)))] := hl
              refine lv_goto (tgt := 4) hx hb dX3_isRaised_63 (by decide) ?_
              exact ih_LA (a1 + 1) (e2) (d2) (by omega) (by omega) (zRs_row (by omega) hr2) _ _ hP hD hS _ (lv_sub hl [1, 2, 0] rfl)
            · refine lv_aload_n hx hb dX3_isRaised_22 rfl (lv_at hl 0 rfl) ?_
              refine lv_iload_n hx hb dX3_isRaised_23 rfl (lv_at hl 2 rfl) ?_
              refine lv_iload_n hx hb dX3_isRaised_24 rfl (lv_at hl 3 rfl) ?_
              have q1 := hr2.1 a1 (by omega)
              have q2 := hr2.1 c1 (by omega)
              have q3 := hme a1 (by omega)
              have q4 := hme c1 (by omega)
              have q5 := hUb a1 (by omega)
              have q6 := hUb c1 (by omega)
              have q7 : -999 ≤ zWt b g a1 c1 ∧ zWt b g a1 c1 ≤ 999 := by have r1 := hb0 (a1 * 6 + g c1); have r2 := hb0 (c1 * 6 + g c1); unfold zWt; omega
              refine zc_ri (As := [.int (iI ((a1 : Nat) : Int)), .int (iI ((c1 : Nat) : Int))]) (rest := []) hF (c_X3_of l D cI M MB MR ME MZ MT n b mr e2 mq mt th rc wo wy po fe wh wi mu g a1 c1 (by omega) (by assumption) (by assumption) (by assumption) (by omega) (by omega)) (cwV 2 hts gX3_isRaised_X3_of rfl rfl rfl (by decide +kernel) ⟨Nat.le_of_ble_eq_true rfl, Nat.le_of_ble_eq_true rfl⟩) hK hP [0, 1, 2, 3, 4, 5] rfl 0 rfl 0 rfl rfl rfl rfl hl.1 rfl (Nat.le_of_ble_eq_true rfl) dX3_isRaised_25 ⟨Nat.zero_le _, Nat.zero_le _⟩ ?_
              refine lv_aload_n hx hb dX3_isRaised_28 rfl (lv_at hl 0 rfl) ?_
              refine va_get (D := D) (ci := 3) (v := .ref ME) (C := RX3) (T := TX3) (N := 15) hx hb hts (by decide +kernel) hown hK hP 0 rfl rfl 5 (by decide) (hts (.fieldLink RX3 16 "RentHarmonyModel" "early" "[I") (by decide +kernel)) (fun _ h9 => h9) rfl dX3_isRaised_29 ?_
              refine lv_iload_n hx hb dX3_isRaised_32 rfl (lv_at hl 2 rfl) ?_
              refine zr_iald hx hb hK hP 3 0 rfl rfl (a1) (by omega) (by omega) (by omega) dX3_isRaised_33 ?_
              refine zr_icmp_gt (tgt := 40) hx hb dX3_isRaised_34 (by decide) (zB_of (by omega) (by omega)) (zB_of (by omega) (by omega)) (fun c3 => ?_) (fun c3 => ?_)
              · have hgt := c3
                refine lv_aload_n hx hb dX3_isRaised_40 rfl (lv_at hl 0 rfl) ?_
                refine va_get (D := D) (ci := 3) (v := .ref ME) (C := RX3) (T := TX3) (N := 15) hx hb hts (by decide +kernel) hown hK hP 0 rfl rfl 5 (by decide) (hts (.fieldLink RX3 16 "RentHarmonyModel" "early" "[I") (by decide +kernel)) (fun _ h9 => h9) rfl dX3_isRaised_41 ?_
                refine lv_iload_n hx hb dX3_isRaised_44 rfl (lv_at hl 2 rfl) ?_
                refine lv_aload_n hx hb dX3_isRaised_45 rfl (lv_at hl 0 rfl) ?_
                refine lv_iload_n hx hb dX3_isRaised_46 rfl (lv_at hl 2 rfl) ?_
                refine lv_iload_n hx hb dX3_isRaised_47 rfl (lv_at hl 3 rfl) ?_
                refine zc_ri (As := [.int (iI ((a1 : Nat) : Int)), .int (iI ((c1 : Nat) : Int))]) (rest := [.int (iI ((a1 : Nat) : Int)), .ref ME]) hF (c_X3_of l D cI M MB MR ME MZ MT n b mr e2 mq mt th rc wo wy po fe wh wi mu g a1 c1 (by omega) (by assumption) (by assumption) (by assumption) (by omega) (by omega)) (cwV 2 hts gX3_isRaised_X3_of rfl rfl rfl (by decide +kernel) ⟨Nat.le_of_ble_eq_true rfl, Nat.le_of_ble_eq_true rfl⟩) hK hP [0, 1, 2, 3, 4, 5] rfl 0 rfl 0 rfl rfl rfl rfl hl.1 rfl (Nat.le_of_ble_eq_true rfl) dX3_isRaised_48 ⟨Nat.zero_le _, Nat.zero_le _⟩ ?_
                refine zr_iast hx hb hK hP hD hS 3 0 rfl rfl (a1) (by omega) (by omega) (by omega) dX3_isRaised_51 (fun H locs hP hD hS => ?_)
                have hP : va_P D vwCl [(M, .inr (3, [.int (iI (th)), .int (iI ((n : Nat) : Int)), .int (iI (rc)), .ref MB, .ref MR, .ref ME, .ref MZ, .int (iI (wo)), .int (iI (wy)), .int (iI (po)), .ref MT, .int (iI (fe)), .int (iI (wh)), .int (iI (wi)), .int (iI (mu))])), (MB, zArr cI 36 b), (MR, zArr cI 6 mr), (ME, zArr cI 6 (uZ e2 (a1) (zWt b g a1 c1 + e2 c1))), (MZ, zArr cI 6 mq), (MT, zArr cI 6 mt)] H := hP
                have hD : va_D A [(M, .inr (3, [.int (iI (th)), .int (iI ((n : Nat) : Int)), .int (iI (rc)), .ref MB, .ref MR, .ref ME, .ref MZ, .int (iI (wo)), .int (iI (wy)), .int (iI (po)), .ref MT, .int (iI (fe)), .int (iI (wh)), .int (iI (wi)), .int (iI (mu))])), (MB, zArr cI 36 b), (MR, zArr cI 6 mr), (ME, zArr cI 6 (uZ e2 (a1) (zWt b g a1 c1 + e2 c1))), (MZ, zArr cI 6 mq), (MT, zArr cI 6 mt)] := hD
                refine zr_ic (n := ((1 : Nat) : Int)) hx hb dX3_isRaised_52 ?_
                refine lv_istore_n (lv' := [(1, .int (iI ((1 : Nat) : Int))), (0, .ref M), (2, .int (iI ((a1 : Nat) : Int))), (3, .int (iI ((c1 : Nat) : Int)))]) hx hb dX3_isRaised_53 rfl hl (by decide) rfl (fun ls hl => ?_)
                refine zr_iinc (lv2 := [(3, .int (iI (((c1 : Nat) : Int) + 1))), (1, .int (iI ((1 : Nat) : Int))), (0, .ref M), (2, .int (iI ((a1 : Nat) : Int)))]) hx hb dX3_isRaised_54 hl (k0 := 3) rfl (by decide) rfl (fun ls hl => ?_)
                have hl : lv_has ls 4 [(3, .int (iI ((c1 + 1 : Nat) : Int))), (1, .int (iI ((1 : Nat) : Int))), (0, .ref M), (2, .int (iI ((a1 : Nat) : Int)))] := hl
                refine lv_goto (tgt := 14) hx hb dX3_isRaised_57 (by decide) ?_
                exact ih_LC (c1 + 1) ((uZ e2 (a1) (zWt b g a1 c1 + e2 c1))) (((1 : Nat) : Int)) (by omega) (by omega) (zRs_up hfix (by omega) (by omega) hgt hr2) _ _ hP hD hS _ (lv_sub hl [2, 1, 3, 0] rfl)
              · have hle := c3
                refine lv_goto (tgt := 54) hx hb dX3_isRaised_37 (by decide) ?_
                refine zr_iinc (lv2 := [(3, .int (iI (((c1 : Nat) : Int) + 1))), (0, .ref M), (1, .int (iI (d2))), (2, .int (iI ((a1 : Nat) : Int)))]) hx hb dX3_isRaised_54 hl (k0 := 3) rfl (by decide) rfl (fun ls hl => ?_)
                have hl : lv_has ls 4 [(3, .int (iI ((c1 + 1 : Nat) : Int))), (0, .ref M), (1, .int (iI (d2))), (2, .int (iI ((a1 : Nat) : Int)))] := hl
                refine lv_goto (tgt := 14) hx hb dX3_isRaised_57 (by decide) ?_
                exact ih_LC (c1 + 1) (e2) (d2) (by omega) (by omega) (zRs_keep hle hr2) _ _ hP hD hS _ (lv_sub hl [1, 2, 3, 0] rfl)
        exact LC ((n - (0)) + 1) (0) (e1) (d1) (Nat.lt_succ_self _) (Nat.zero_le _) hr1 _ _ hP hD hS _ (lv_sub hl [1, 2, 3, 0] rfl)
  exact LA ((n - (0)) + 1) (0) (me) (((0 : Nat) : Int)) (Nat.lt_succ_self _) (Nat.zero_le _) (zRs_start (fun j hj => (hme j hj).2)) _ _ hP hD hS _ (lv_sub hl [2, 1, 0] rfl)
set_option maxHeartbeats 4000000 in
set_option maxRecDepth 100000 in
/-- X3_settle -/
theorem c_X3_settle (l : Launch) (D : va_G) (cI : ClassId) (M MB MR ME MZ MT n : Nat) (b mr me mq mt : Nat → Int) (th rc wo wy po mu : Int) (hn : n ≤ 6) (hb0 : ∀ k, 0 ≤ b k ∧ b k ≤ 999) (hrc : 0 ≤ rc ∧ rc ≤ 5999) (hmu : 0 ≤ mu ∧ mu ≤ 1) : zWv (S := Int × Int × Int × (Nat → Int) × (Nat → Int) × (Nat → Int) × (Nat → Int)) l yX3_settle wsX3_settle 9 211 D cI [.ref M] [(M, .inr (3, [.int (iI (th)), .int (iI ((n : Nat) : Int)), .int (iI (rc)), .ref MB, .ref MR, .ref ME, .ref MZ, .int (iI (wo)), .int (iI (wy)), .int (iI (po)), .ref MT, .int (iI (-1)), .int (iI (-1)), .int (iI (-1)), .int (iI (mu))])), (MB, zArr cI 36 b), (MR, zArr cI 6 mr), (ME, zArr cI 6 me), (MZ, zArr cI 6 mq), (MT, zArr cI 6 mt)] (fun u8 => zMset n b rc u8.1 u8.2.1 u8.2.2.1 u8.2.2.2.1 u8.2.2.2.2.1 u8.2.2.2.2.2.1) (fun u8 => [(M, .inr (3, [.int (iI (th)), .int (iI ((n : Nat) : Int)), .int (iI (rc)), .ref MB, .ref MR, .ref ME, .ref MZ, .int (iI (u8.1)), .int (iI (u8.2.1)), .int (iI (u8.2.2.1)), .ref MT, .int (iI (-1)), .int (iI (-1)), .int (iI (-1)), .int (iI (mu))])), (MB, zArr cI 36 b), (MR, zArr cI 6 u8.2.2.2.1), (ME, zArr cI 6 u8.2.2.2.2.1), (MZ, zArr cI 6 u8.2.2.2.2.2.1), (MT, zArr cI 6 u8.2.2.2.2.2.2)]) := by
  refine zWv_of (cc := cX3_settle) (maxL := 4) (by decide) rfl (Nat.le_of_ble_eq_true rfl) ?_
  intro p e s m args below meth c ls A hF hr hlocks hP hK hD hS hl
  have hF : zFix p m c cX3_settle 4 s args wsX3_settle RX3 := hF
  obtain ⟨hx, hb, hml, hown, hts⟩ := id hF
  have hP : va_P D vwCl [(M, .inr (3, [.int (iI (th)), .int (iI ((n : Nat) : Int)), .int (iI (rc)), .ref MB, .ref MR, .ref ME, .ref MZ, .int (iI (wo)), .int (iI (wy)), .int (iI (po)), .ref MT, .int (iI (-1)), .int (iI (-1)), .int (iI (-1)), .int (iI (mu))])), (MB, zArr cI 36 b), (MR, zArr cI 6 mr), (ME, zArr cI 6 me), (MZ, zArr cI 6 mq), (MT, zArr cI 6 mt)] s.heap := hP
  have hD : va_D A [(M, .inr (3, [.int (iI (th)), .int (iI ((n : Nat) : Int)), .int (iI (rc)), .ref MB, .ref MR, .ref ME, .ref MZ, .int (iI (wo)), .int (iI (wy)), .int (iI (po)), .ref MT, .int (iI (-1)), .int (iI (-1)), .int (iI (-1)), .int (iI (mu))])), (MB, zArr cI 36 b), (MR, zArr cI 6 mr), (ME, zArr cI 6 me), (MZ, zArr cI 6 mq), (MT, zArr cI 6 mt)] := hD
  skip
  have hl : lv_has ls 4 [(0, .ref M)] := hl
  refine lv_aload_n hx hb dX3_settle_0 rfl (lv_at hl 0 rfl) ?_
  refine zc_wi (As := []) (rest := []) hF (c_X3_give l D cI M MB MR ME MZ MT n b mr me mq mt th rc wo wy po (-1) (-1) (-1) mu (by omega) (by assumption) (zB_of (by omega) (by omega)) (zB_of (by omega) (by omega)) (zB_of (by omega) (by omega)) (by omega)) (cwV 0 hts gX3_settle_X3_give rfl rfl rfl (by decide +kernel) ⟨Nat.le_of_ble_eq_true rfl, Nat.le_of_ble_eq_true rfl⟩) hK hP hD hS [0, 1, 2, 3, 4, 5] rfl rfl (fun _ => rfl) 0 rfl 0 rfl rfl rfl rfl hl.1 rfl (Nat.le_of_ble_eq_true rfl) dX3_settle_1 ⟨Nat.zero_le _, Nat.zero_le _⟩ (fun r2 u1 H locs hw hP hD hS => ?_)
  obtain ⟨wo3, wy3, ro3, mt3⟩ := u1
  obtain ⟨hrv3, hgv3⟩ := hw
  subst hrv3
  have hgv3 : zGave n (zX n b (-1) (-1) (-1) mu) wo3 wy3 ro3 := hgv3
  have hP : va_P D vwCl [(M, .inr (3, [.int (iI (th)), .int (iI ((n : Nat) : Int)), .int (iI (rc)), .ref MB, .ref MR, .ref ME, .ref MZ, .int (iI (wo3)), .int (iI (wy3)), .int (iI (po)), .ref MT, .int (iI (-1)), .int (iI (-1)), .int (iI (-1)), .int (iI (mu))])), (MB, zArr cI 36 b), (MR, zArr cI 6 ro3), (ME, zArr cI 6 me), (MZ, zArr cI 6 mq), (MT, zArr cI 6 mt3)] H := hP
  have hD : va_D A [(M, .inr (3, [.int (iI (th)), .int (iI ((n : Nat) : Int)), .int (iI (rc)), .ref MB, .ref MR, .ref ME, .ref MZ, .int (iI (wo3)), .int (iI (wy3)), .int (iI (po)), .ref MT, .int (iI (-1)), .int (iI (-1)), .int (iI (-1)), .int (iI (mu))])), (MB, zArr cI 36 b), (MR, zArr cI 6 ro3), (ME, zArr cI 6 me), (MZ, zArr cI 6 mq), (MT, zArr cI 6 mt3)] := hD
  rw [zX_none] at hgv3
  obtain ⟨hw1, hw2, hro⟩ := zGave_ro hn hgv3
  have hgn := zRo_lt (b := b) hn
  have hwb := zWo_b hn hb0
  subst hw1
  subst hw2
  obtain ⟨U, hU⟩ := zU_ex (n := n) (b := b) hn hb0
  have hfix : ∀ a c, a < n → c < n → zWt b (zRo n b) a c + U c ≤ U a := fun a c ha hc => zIsB_fix (zWt_noC hn) hU ha hc
  have hUb := zU_le hn hb0 hU
  refine lv_pop hx hb dX3_settle_4 rfl ?_
  refine lv_aload_n hx hb dX3_settle_5 rfl (lv_at hl 0 rfl) ?_
  refine va_get (D := D) (ci := 3) (v := .int (iI (zWo n b))) (C := RX3) (T := TX3) (N := 15) hx hb hts (by decide +kernel) hown hK hP 0 rfl rfl 7 (by decide) (hts (.fieldLink RX3 64 "RentHarmonyModel" "worth" "I") (by decide +kernel)) (fun _ h9 => h9) rfl dX3_settle_6 ?_
  refine lv_aload_n hx hb dX3_settle_9 rfl (lv_at hl 0 rfl) ?_
  refine va_get (D := D) (ci := 3) (v := .int (iI (rc))) (C := RX3) (T := TX3) (N := 15) hx hb hts (by decide +kernel) hown hK hP 0 rfl rfl 2 (by decide) (hts (.fieldLink RX3 57 "RentHarmonyModel" "rent" "I") (by decide +kernel)) (fun _ h9 => h9) rfl dX3_settle_10 ?_
  refine zr_sub hx hb dX3_settle_13 ?_
  refine lv_istore_n (lv' := [(1, .int (iI ((zWo n b) - rc))), (0, .ref M)]) hx hb dX3_settle_14 rfl hl (by decide) rfl (fun ls hl => ?_)
  refine zr_ic (n := ((0 : Nat) : Int)) hx hb dX3_settle_15 ?_
  refine lv_istore_n (lv' := [(2, .int (iI ((0 : Nat) : Int))), (1, .int (iI ((zWo n b) - rc))), (0, .ref M)]) hx hb dX3_settle_16 rfl hl (by decide) rfl (fun ls hl => ?_)
  have L1 : ∀ (k0 : Nat) (i : Nat) (e1 : Nat → Int), n - i < k0 → (hi : i ≤ n) → (hz : ∀ a, a < i → e1 a = 0) → ∀ (H : Heap) (locs : List Loc), va_P D vwCl [(M, .inr (3, [.int (iI (th)), .int (iI ((n : Nat) : Int)), .int (iI (rc)), .ref MB, .ref MR, .ref ME, .ref MZ, .int (iI (zWo n b)), .int (iI (zWy n b)), .int (iI (po)), .ref MT, .int (iI (-1)), .int (iI (-1)), .int (iI (-1)), .int (iI (mu))])), (MB, zArr cI 36 b), (MR, zArr cI 6 ro3), (ME, zArr cI 6 e1), (MZ, zArr cI 6 mq), (MT, zArr cI 6 mt3)] H → va_D A [(M, .inr (3, [.int (iI (th)), .int (iI ((n : Nat) : Int)), .int (iI (rc)), .ref MB, .ref MR, .ref ME, .ref MZ, .int (iI (zWo n b)), .int (iI (zWy n b)), .int (iI (po)), .ref MT, .int (iI (-1)), .int (iI (-1)), .int (iI (-1)), .int (iI (mu))])), (MB, zArr cI 36 b), (MR, zArr cI 6 ro3), (ME, zArr cI 6 e1), (MZ, zArr cI 6 mq), (MT, zArr cI 6 mt3)] → va_S A s.heap H locs → ∀ (ls : Array Slot), lv_has ls 4 [(0, .ref M), (1, .int (iI ((zWo n b) - rc))), (2, .int (iI ((i : Nat) : Int)))] → W p l e (zRm 9 211) s m args below meth c H locs 0 0 (MQ below (va_Qv (S := Int × Int × Int × (Nat → Int) × (Nat → Int) × (Nat → Int) × (Nat → Int)) (fun u8 => zMset n b rc u8.1 u8.2.1 u8.2.2.1 u8.2.2.2.1 u8.2.2.2.2.1 u8.2.2.2.2.2.1) (fun u9 t9 => va_P D vwCl ((fun u8 => [(M, .inr (3, [.int (iI (th)), .int (iI ((n : Nat) : Int)), .int (iI (rc)), .ref MB, .ref MR, .ref ME, .ref MZ, .int (iI (u8.1)), .int (iI (u8.2.1)), .int (iI (u8.2.2.1)), .ref MT, .int (iI (-1)), .int (iI (-1)), .int (iI (-1)), .int (iI (mu))])), (MB, zArr cI 36 b), (MR, zArr cI 6 u8.2.2.2.1), (ME, zArr cI 6 u8.2.2.2.2.1), (MZ, zArr cI 6 u8.2.2.2.2.2.1), (MT, zArr cI 6 u8.2.2.2.2.2.2)]) u9) t9.heap) A) args s 0 0 A) (F0 m 17 ls []) := by
    intro k0
    induction k0 with
    | zero => intro i e1 hk; exact absurd hk (Nat.not_lt_zero _)
    | succ k0 ih_L1 =>
      intro i e1 hk hi hz H locs hP hD hS ls hl
      refine lv_iload_n hx hb dX3_settle_17 rfl (lv_at hl 2 rfl) ?_
      refine lv_aload_n hx hb dX3_settle_18 rfl (lv_at hl 0 rfl) ?_
      refine va_get (D := D) (ci := 3) (v := .int (iI ((n : Nat) : Int))) (C := RX3) (T := TX3) (N := 15) hx hb hts (by decide +kernel) hown hK hP 0 rfl rfl 1 (by decide) (hts (.fieldLink RX3 38 "RentHarmonyModel" "lodgers" "I") (by decide +kernel)) (fun _ h9 => h9) rfl dX3_settle_19 ?_
      refine zr_icmp_ge (tgt := 38) hx hb dX3_settle_22 (by decide) (zB_of (by omega) (by omega)) (zB_of (by omega) (by omega)) (fun c4 => ?_) (fun c4 => ?_)
      · have L2 : ∀ (k0 : Nat) (e2 : Nat → Int), (zSum U n - zSum e2 n).toNat < k0 → (hme : ∀ a, a < n → 0 ≤ e2 a ∧ e2 a ≤ U a) → ∀ (H : Heap) (locs : List Loc), va_P D vwCl [(M, .inr (3, [.int (iI (th)), .int (iI ((n : Nat) : Int)), .int (iI (rc)), .ref MB, .ref MR, .ref ME, .ref MZ, .int (iI (zWo n b)), .int (iI (zWy n b)), .int (iI (po)), .ref MT, .int (iI (-1)), .int (iI (-1)), .int (iI (-1)), .int (iI (mu))])), (MB, zArr cI 36 b), (MR, zArr cI 6 ro3), (ME, zArr cI 6 e2), (MZ, zArr cI 6 mq), (MT, zArr cI 6 mt3)] H → va_D A [(M, .inr (3, [.int (iI (th)), .int (iI ((n : Nat) : Int)), .int (iI (rc)), .ref MB, .ref MR, .ref ME, .ref MZ, .int (iI (zWo n b)), .int (iI (zWy n b)), .int (iI (po)), .ref MT, .int (iI (-1)), .int (iI (-1)), .int (iI (-1)), .int (iI (mu))])), (MB, zArr cI 36 b), (MR, zArr cI 6 ro3), (ME, zArr cI 6 e2), (MZ, zArr cI 6 mq), (MT, zArr cI 6 mt3)] → va_S A s.heap H locs → ∀ (ls : Array Slot), lv_has ls 4 [(0, .ref M), (1, .int (iI ((zWo n b) - rc)))] → W p l e (zRm 9 211) s m args below meth c H locs 0 0 (MQ below (va_Qv (S := Int × Int × Int × (Nat → Int) × (Nat → Int) × (Nat → Int) × (Nat → Int)) (fun u8 => zMset n b rc u8.1 u8.2.1 u8.2.2.1 u8.2.2.2.1 u8.2.2.2.2.1 u8.2.2.2.2.2.1) (fun u9 t9 => va_P D vwCl ((fun u8 => [(M, .inr (3, [.int (iI (th)), .int (iI ((n : Nat) : Int)), .int (iI (rc)), .ref MB, .ref MR, .ref ME, .ref MZ, .int (iI (u8.1)), .int (iI (u8.2.1)), .int (iI (u8.2.2.1)), .ref MT, .int (iI (-1)), .int (iI (-1)), .int (iI (-1)), .int (iI (mu))])), (MB, zArr cI 36 b), (MR, zArr cI 6 u8.2.2.2.1), (ME, zArr cI 6 u8.2.2.2.2.1), (MZ, zArr cI 6 u8.2.2.2.2.2.1), (MT, zArr cI 6 u8.2.2.2.2.2.2)]) u9) t9.heap) A) args s 0 0 A) (F0 m 38 ls []) := by
          intro k0
          induction k0 with
          | zero => intro e2 hk; exact absurd hk (Nat.not_lt_zero _)
          | succ k0 ih_L2 =>
            intro e2 hk hme H locs hP hD hS ls hl
            refine lv_aload_n hx hb dX3_settle_38 rfl (lv_at hl 0 rfl) ?_
            refine zc_wi (As := []) (rest := []) hF (c_X3_isRaised l D cI M MB MR ME MZ MT n b ro3 e2 mq mt3 th rc (zWo n b) (zWy n b) po (-1) (-1) (-1) mu (zRo n b) U (by omega) (by assumption) (by assumption) (by assumption) (by assumption) (by assumption) (by assumption)) (cwV 0 hts gX3_settle_X3_isRaised rfl rfl rfl (by decide +kernel) ⟨Nat.le_of_ble_eq_true rfl, Nat.le_of_ble_eq_true rfl⟩) hK hP hD hS [0, 1, 2, 3, 4, 5] rfl rfl (fun _ => rfl) 0 rfl 0 rfl rfl rfl rfl hl.1 rfl (Nat.le_of_ble_eq_true rfl) dX3_settle_39 ⟨Nat.zero_le _, Nat.zero_le _⟩ (fun r6 u5 H locs hw hP hD hS => ?_)
            obtain ⟨ee7, dd7⟩ := u5
            obtain ⟨hrv7, hre7, hrd7⟩ := hw
            subst hrv7
            replace hre7 : ∀ j, j < n → e2 j ≤ ee7 j ∧ ee7 j ≤ U j := hre7
            replace hrd7 : (dd7 = 0 ∧ (∀ j, j < n → ee7 j = e2 j) ∧ (∀ j, j < n → ∀ k, k < n → zWt b (zRo n b) j k + ee7 k ≤ ee7 j)) ∨ (dd7 = 1 ∧ ∃ j, j < n ∧ e2 j < ee7 j) := hrd7
            have hd01 : dd7 = 0 ∨ dd7 = 1 := by rcases hrd7 with ⟨z, -⟩ | ⟨z, -⟩; exact Or.inl z; exact Or.inr z
            have hP : va_P D vwCl [(M, .inr (3, [.int (iI (th)), .int (iI ((n : Nat) : Int)), .int (iI (rc)), .ref MB, .ref MR, .ref ME, .ref MZ, .int (iI (zWo n b)), .int (iI (zWy n b)), .int (iI (po)), .ref MT, .int (iI (-1)), .int (iI (-1)), .int (iI (-1)), .int (iI (mu))])), (MB, zArr cI 36 b), (MR, zArr cI 6 ro3), (ME, zArr cI 6 ee7), (MZ, zArr cI 6 mq), (MT, zArr cI 6 mt3)] H := hP
            have hD : va_D A [(M, .inr (3, [.int (iI (th)), .int (iI ((n : Nat) : Int)), .int (iI (rc)), .ref MB, .ref MR, .ref ME, .ref MZ, .int (iI (zWo n b)), .int (iI (zWy n b)), .int (iI (po)), .ref MT, .int (iI (-1)), .int (iI (-1)), .int (iI (-1)), .int (iI (mu))])), (MB, zArr cI 36 b), (MR, zArr cI 6 ro3), (ME, zArr cI 6 ee7), (MZ, zArr cI 6 mq), (MT, zArr cI 6 mt3)] := hD
            refine zr_if_eq (tgt := 48) hx hb dX3_settle_42 (by decide) (zB_of (by omega) (by omega)) (fun c8 => ?_) (fun c8 => ?_)
            · have hBB : zIsB n (zWt b (zRo n b)) ee7 := by
                rcases hrd7 with ⟨-, z1, z2⟩ | ⟨z, -⟩
                · exact zIsB_of hU (fun a ha => by rw [z1 a ha]; exact (hme a ha).1) (fun a c ha hc => z2 a ha c hc) (fun a ha => (hre7 a ha).2)
                · exact absurd (z.symm.trans c8) (by decide)
              have hBb := zU_le hn hb0 hBB
              refine zr_ic (n := ((0 : Nat) : Int)) hx hb dX3_settle_48 ?_
              refine lv_istore_n (lv' := [(2, .int (iI ((0 : Nat) : Int))), (0, .ref M), (1, .int (iI ((zWo n b) - rc)))]) hx hb dX3_settle_49 rfl hl (by decide) rfl (fun ls hl => ?_)
              have L3 : ∀ (k0 : Nat) (i : Nat), n - i < k0 → (hi : i ≤ n) → ∀ (H : Heap) (locs : List Loc), va_P D vwCl [(M, .inr (3, [.int (iI (th)), .int (iI ((n : Nat) : Int)), .int (iI (rc)), .ref MB, .ref MR, .ref ME, .ref MZ, .int (iI (zWo n b)), .int (iI (zWy n b)), .int (iI (po)), .ref MT, .int (iI (-1)), .int (iI (-1)), .int (iI (-1)), .int (iI (mu))])), (MB, zArr cI 36 b), (MR, zArr cI 6 ro3), (ME, zArr cI 6 ee7), (MZ, zArr cI 6 mq), (MT, zArr cI 6 mt3)] H → va_D A [(M, .inr (3, [.int (iI (th)), .int (iI ((n : Nat) : Int)), .int (iI (rc)), .ref MB, .ref MR, .ref ME, .ref MZ, .int (iI (zWo n b)), .int (iI (zWy n b)), .int (iI (po)), .ref MT, .int (iI (-1)), .int (iI (-1)), .int (iI (-1)), .int (iI (mu))])), (MB, zArr cI 36 b), (MR, zArr cI 6 ro3), (ME, zArr cI 6 ee7), (MZ, zArr cI 6 mq), (MT, zArr cI 6 mt3)] → va_S A s.heap H locs → ∀ (ls : Array Slot), lv_has ls 4 [(0, .ref M), (1, .int (iI (zWo n b - rc - zSum ee7 i))), (2, .int (iI ((i : Nat) : Int)))] → W p l e (zRm 9 211) s m args below meth c H locs 0 0 (MQ below (va_Qv (S := Int × Int × Int × (Nat → Int) × (Nat → Int) × (Nat → Int) × (Nat → Int)) (fun u8 => zMset n b rc u8.1 u8.2.1 u8.2.2.1 u8.2.2.2.1 u8.2.2.2.2.1 u8.2.2.2.2.2.1) (fun u9 t9 => va_P D vwCl ((fun u8 => [(M, .inr (3, [.int (iI (th)), .int (iI ((n : Nat) : Int)), .int (iI (rc)), .ref MB, .ref MR, .ref ME, .ref MZ, .int (iI (u8.1)), .int (iI (u8.2.1)), .int (iI (u8.2.2.1)), .ref MT, .int (iI (-1)), .int (iI (-1)), .int (iI (-1)), .int (iI (mu))])), (MB, zArr cI 36 b), (MR, zArr cI 6 u8.2.2.2.1), (ME, zArr cI 6 u8.2.2.2.2.1), (MZ, zArr cI 6 u8.2.2.2.2.2.1), (MT, zArr cI 6 u8.2.2.2.2.2.2)]) u9) t9.heap) A) args s 0 0 A) (F0 m 50 ls []) := by
                intro k0
                induction k0 with
                | zero => intro i hk; exact absurd hk (Nat.not_lt_zero _)
                | succ k0 ih_L3 =>
                  intro i hk hi H locs hP hD hS ls hl
                  refine lv_iload_n hx hb dX3_settle_50 rfl (lv_at hl 2 rfl) ?_
                  refine lv_aload_n hx hb dX3_settle_51 rfl (lv_at hl 0 rfl) ?_
                  refine va_get (D := D) (ci := 3) (v := .int (iI ((n : Nat) : Int))) (C := RX3) (T := TX3) (N := 15) hx hb hts (by decide +kernel) hown hK hP 0 rfl rfl 1 (by decide) (hts (.fieldLink RX3 38 "RentHarmonyModel" "lodgers" "I") (by decide +kernel)) (fun _ h9 => h9) rfl dX3_settle_52 ?_
                  refine zr_icmp_ge (tgt := 73) hx hb dX3_settle_55 (by decide) (zB_of (by omega) (by omega)) (zB_of (by omega) (by omega)) (fun c9 => ?_) (fun c9 => ?_)
                  · have e9 : i = n := by omega
                    have hl : lv_has ls 4 [(0, .ref M), (1, .int (iI (zLeft (zWo n b) rc ee7 n))), (2, .int (iI ((i : Nat) : Int)))] := by rw [show (zLeft (zWo n b) rc ee7 n) = (zWo n b - rc - zSum ee7 i) from by rw [e9]; rfl]; exact hl
                    have hsb := zSum_b (M := 5994) n hBb
                    have hlb : -100000 ≤ zLeft (zWo n b) rc ee7 n ∧ zLeft (zWo n b) rc ee7 n ≤ 100000 := by unfold zLeft; omega
                    have J94 : ∀ (H : Heap) (locs : List Loc), va_P D vwCl [(M, .inr (3, [.int (iI (th)), .int (iI ((n : Nat) : Int)), .int (iI (rc)), .ref MB, .ref MR, .ref ME, .ref MZ, .int (iI (zWo n b)), .int (iI (zWy n b)), .int (iI (po)), .ref MT, .int (iI (-1)), .int (iI (-1)), .int (iI (-1)), .int (iI (mu))])), (MB, zArr cI 36 b), (MR, zArr cI 6 ro3), (ME, zArr cI 6 ee7), (MZ, zArr cI 6 mq), (MT, zArr cI 6 mt3)] H → va_D A [(M, .inr (3, [.int (iI (th)), .int (iI ((n : Nat) : Int)), .int (iI (rc)), .ref MB, .ref MR, .ref ME, .ref MZ, .int (iI (zWo n b)), .int (iI (zWy n b)), .int (iI (po)), .ref MT, .int (iI (-1)), .int (iI (-1)), .int (iI (-1)), .int (iI (mu))])), (MB, zArr cI 36 b), (MR, zArr cI 6 ro3), (ME, zArr cI 6 ee7), (MZ, zArr cI 6 mq), (MT, zArr cI 6 mt3)] → va_S A s.heap H locs → ∀ (ls : Array Slot), lv_has ls 4 [(0, .ref M), (1, .int (iI (zLeft (zWo n b) rc ee7 n)))] → W p l e (zRm 9 211) s m args below meth c H locs 0 0 (MQ below (va_Qv (S := Int × Int × Int × (Nat → Int) × (Nat → Int) × (Nat → Int) × (Nat → Int)) (fun u8 => zMset n b rc u8.1 u8.2.1 u8.2.2.1 u8.2.2.2.1 u8.2.2.2.2.1 u8.2.2.2.2.2.1) (fun u9 t9 => va_P D vwCl ((fun u8 => [(M, .inr (3, [.int (iI (th)), .int (iI ((n : Nat) : Int)), .int (iI (rc)), .ref MB, .ref MR, .ref ME, .ref MZ, .int (iI (u8.1)), .int (iI (u8.2.1)), .int (iI (u8.2.2.1)), .ref MT, .int (iI (-1)), .int (iI (-1)), .int (iI (-1)), .int (iI (mu))])), (MB, zArr cI 36 b), (MR, zArr cI 6 u8.2.2.2.1), (ME, zArr cI 6 u8.2.2.2.2.1), (MZ, zArr cI 6 u8.2.2.2.2.2.1), (MT, zArr cI 6 u8.2.2.2.2.2.2)]) u9) t9.heap) A) args s 0 0 A) (F0 m 94 ls [.int (iI (zShare n (zLeft (zWo n b) rc ee7 n)))]) := by
                      intro   H locs hP hD hS ls hl
                      refine lv_istore_n (lv' := [(2, .int (iI (zShare n (zLeft (zWo n b) rc ee7 n)))), (0, .ref M), (1, .int (iI (zLeft (zWo n b) rc ee7 n)))]) hx hb dX3_settle_94 rfl hl (by decide) rfl (fun ls hl => ?_)
                      refine zr_ic (n := ((0 : Nat) : Int)) hx hb dX3_settle_95 ?_
                      refine lv_istore_n (lv' := [(3, .int (iI ((0 : Nat) : Int))), (2, .int (iI (zShare n (zLeft (zWo n b) rc ee7 n)))), (0, .ref M), (1, .int (iI (zLeft (zWo n b) rc ee7 n)))]) hx hb dX3_settle_96 rfl hl (by decide) rfl (fun ls hl => ?_)
                      have L4 : ∀ (k0 : Nat) (i4 : Nat) (q4 : Nat → Int), n - i4 < k0 → (hi4 : i4 ≤ n) → (hq : ∀ a, a < i4 → q4 a = ee7 a + zShare n (zLeft (zWo n b) rc ee7 n)) → ∀ (H : Heap) (locs : List Loc), va_P D vwCl [(M, .inr (3, [.int (iI (th)), .int (iI ((n : Nat) : Int)), .int (iI (rc)), .ref MB, .ref MR, .ref ME, .ref MZ, .int (iI (zWo n b)), .int (iI (zWy n b)), .int (iI (po)), .ref MT, .int (iI (-1)), .int (iI (-1)), .int (iI (-1)), .int (iI (mu))])), (MB, zArr cI 36 b), (MR, zArr cI 6 ro3), (ME, zArr cI 6 ee7), (MZ, zArr cI 6 q4), (MT, zArr cI 6 mt3)] H → va_D A [(M, .inr (3, [.int (iI (th)), .int (iI ((n : Nat) : Int)), .int (iI (rc)), .ref MB, .ref MR, .ref ME, .ref MZ, .int (iI (zWo n b)), .int (iI (zWy n b)), .int (iI (po)), .ref MT, .int (iI (-1)), .int (iI (-1)), .int (iI (-1)), .int (iI (mu))])), (MB, zArr cI 36 b), (MR, zArr cI 6 ro3), (ME, zArr cI 6 ee7), (MZ, zArr cI 6 q4), (MT, zArr cI 6 mt3)] → va_S A s.heap H locs → ∀ (ls : Array Slot), lv_has ls 4 [(0, .ref M), (1, .int (iI (zLeft (zWo n b) rc ee7 n))), (2, .int (iI (zShare n (zLeft (zWo n b) rc ee7 n)))), (3, .int (iI ((i4 : Nat) : Int)))] → W p l e (zRm 9 211) s m args below meth c H locs 0 0 (MQ below (va_Qv (S := Int × Int × Int × (Nat → Int) × (Nat → Int) × (Nat → Int) × (Nat → Int)) (fun u8 => zMset n b rc u8.1 u8.2.1 u8.2.2.1 u8.2.2.2.1 u8.2.2.2.2.1 u8.2.2.2.2.2.1) (fun u9 t9 => va_P D vwCl ((fun u8 => [(M, .inr (3, [.int (iI (th)), .int (iI ((n : Nat) : Int)), .int (iI (rc)), .ref MB, .ref MR, .ref ME, .ref MZ, .int (iI (u8.1)), .int (iI (u8.2.1)), .int (iI (u8.2.2.1)), .ref MT, .int (iI (-1)), .int (iI (-1)), .int (iI (-1)), .int (iI (mu))])), (MB, zArr cI 36 b), (MR, zArr cI 6 u8.2.2.2.1), (ME, zArr cI 6 u8.2.2.2.2.1), (MZ, zArr cI 6 u8.2.2.2.2.2.1), (MT, zArr cI 6 u8.2.2.2.2.2.2)]) u9) t9.heap) A) args s 0 0 A) (F0 m 97 ls []) := by
                        intro k0
                        induction k0 with
                        | zero => intro i4 q4 hk; exact absurd hk (Nat.not_lt_zero _)
                        | succ k0 ih_L4 =>
                          intro i4 q4 hk hi4 hq H locs hP hD hS ls hl
                          refine lv_iload_n hx hb dX3_settle_97 rfl (lv_at hl 3 rfl) ?_
                          refine lv_aload_n hx hb dX3_settle_98 rfl (lv_at hl 0 rfl) ?_
                          refine va_get (D := D) (ci := 3) (v := .int (iI ((n : Nat) : Int))) (C := RX3) (T := TX3) (N := 15) hx hb hts (by decide +kernel) hown hK hP 0 rfl rfl 1 (by decide) (hts (.fieldLink RX3 38 "RentHarmonyModel" "lodgers" "I") (by decide +kernel)) (fun _ h9 => h9) rfl dX3_settle_99 ?_
                          refine zr_icmp_ge (tgt := 125) hx hb dX3_settle_102 (by decide) (zB_of (by omega) (by omega)) (zB_of (by omega) (by omega)) (fun c10 => ?_) (fun c10 => ?_)
                          · refine lv_aload_n hx hb dX3_settle_125 rfl (lv_at hl 0 rfl) ?_
                            refine lv_iload_n hx hb dX3_settle_126 rfl (lv_at hl 1 rfl) ?_
                            refine lv_iload_n hx hb dX3_settle_127 rfl (lv_at hl 2 rfl) ?_
                            refine lv_aload_n hx hb dX3_settle_128 rfl (lv_at hl 0 rfl) ?_
                            refine va_get (D := D) (ci := 3) (v := .int (iI ((n : Nat) : Int))) (C := RX3) (T := TX3) (N := 15) hx hb hts (by decide +kernel) hown hK hP 0 rfl rfl 1 (by decide) (hts (.fieldLink RX3 38 "RentHarmonyModel" "lodgers" "I") (by decide +kernel)) (fun _ h9 => h9) rfl dX3_settle_129 ?_
                            refine zr_mul hx hb dX3_settle_132 ?_
                            refine zr_sub hx hb dX3_settle_133 ?_
                            refine zr_topi (show ((zLeft (zWo n b) rc ee7 n) - ((zShare n (zLeft (zWo n b) rc ee7 n)) * ((n : Nat) : Int))) = (zPot n (zLeft (zWo n b) rc ee7 n)) from rfl) ?_
                            refine va_put (D := D) (ci := 3) (v := .int (iI (zPot n (zLeft (zWo n b) rc ee7 n)))) (ty := .int) (C := RX3) (T := TX3) (N := 15) hx hb hts (by decide +kernel) tyX3 tyX3_ok nmX3 hown hK hP hD hS 0 rfl rfl 9 (by decide) (hts (.fieldLink RX3 95 "RentHarmonyModel" "pot" "I") (by decide +kernel)) (fun _ h9 => h9) rfl (by decide +kernel) rfl rfl (Nat.le_of_ble_eq_true rfl) dX3_settle_134 (fun H locs hP hD hS => ?_)
                            have hP : va_P D vwCl [(M, .inr (3, [.int (iI (th)), .int (iI ((n : Nat) : Int)), .int (iI (rc)), .ref MB, .ref MR, .ref ME, .ref MZ, .int (iI (zWo n b)), .int (iI (zWy n b)), .int (iI (zPot n (zLeft (zWo n b) rc ee7 n))), .ref MT, .int (iI (-1)), .int (iI (-1)), .int (iI (-1)), .int (iI (mu))])), (MB, zArr cI 36 b), (MR, zArr cI 6 ro3), (ME, zArr cI 6 ee7), (MZ, zArr cI 6 q4), (MT, zArr cI 6 mt3)] H := hP
                            have hD : va_D A [(M, .inr (3, [.int (iI (th)), .int (iI ((n : Nat) : Int)), .int (iI (rc)), .ref MB, .ref MR, .ref ME, .ref MZ, .int (iI (zWo n b)), .int (iI (zWy n b)), .int (iI (zPot n (zLeft (zWo n b) rc ee7 n))), .ref MT, .int (iI (-1)), .int (iI (-1)), .int (iI (-1)), .int (iI (mu))])), (MB, zArr cI 36 b), (MR, zArr cI 6 ro3), (ME, zArr cI 6 ee7), (MZ, zArr cI 6 q4), (MT, zArr cI 6 mt3)] := hD
                            exact zWv_ret hx hb hr hlocks hS dX3_settle_137 (zWo n b, zWy n b, zPot n (zLeft (zWo n b) rc ee7 n), ro3, ee7, q4, mt3) ⟨rfl, rfl, hro, hBB, fun j hj => hq j (by omega), rfl⟩ hP
                          · refine lv_aload_n hx hb dX3_settle_105 rfl (lv_at hl 0 rfl) ?_
                            refine va_get (D := D) (ci := 3) (v := .ref MZ) (C := RX3) (T := TX3) (N := 15) hx hb hts (by decide +kernel) hown hK hP 0 rfl rfl 6 (by decide) (hts (.fieldLink RX3 19 "RentHarmonyModel" "rebates" "[I") (by decide +kernel)) (fun _ h9 => h9) rfl dX3_settle_106 ?_
                            refine lv_iload_n hx hb dX3_settle_109 rfl (lv_at hl 3 rfl) ?_
                            refine lv_aload_n hx hb dX3_settle_110 rfl (lv_at hl 0 rfl) ?_
                            refine va_get (D := D) (ci := 3) (v := .ref ME) (C := RX3) (T := TX3) (N := 15) hx hb hts (by decide +kernel) hown hK hP 0 rfl rfl 5 (by decide) (hts (.fieldLink RX3 16 "RentHarmonyModel" "early" "[I") (by decide +kernel)) (fun _ h9 => h9) rfl dX3_settle_111 ?_
                            refine lv_iload_n hx hb dX3_settle_114 rfl (lv_at hl 3 rfl) ?_
                            refine zr_iald hx hb hK hP 3 0 rfl rfl (i4) (by omega) (by omega) (by omega) dX3_settle_115 ?_
                            refine lv_iload_n hx hb dX3_settle_116 rfl (lv_at hl 2 rfl) ?_
                            refine zr_add hx hb dX3_settle_117 ?_
                            refine zr_iast hx hb hK hP hD hS 4 0 rfl rfl (i4) (by omega) (by omega) (by omega) dX3_settle_118 (fun H locs hP hD hS => ?_)
                            have hP : va_P D vwCl [(M, .inr (3, [.int (iI (th)), .int (iI ((n : Nat) : Int)), .int (iI (rc)), .ref MB, .ref MR, .ref ME, .ref MZ, .int (iI (zWo n b)), .int (iI (zWy n b)), .int (iI (po)), .ref MT, .int (iI (-1)), .int (iI (-1)), .int (iI (-1)), .int (iI (mu))])), (MB, zArr cI 36 b), (MR, zArr cI 6 ro3), (ME, zArr cI 6 ee7), (MZ, zArr cI 6 (uZ q4 (i4) ((ee7 (i4)) + (zShare n (zLeft (zWo n b) rc ee7 n))))), (MT, zArr cI 6 mt3)] H := hP
                            have hD : va_D A [(M, .inr (3, [.int (iI (th)), .int (iI ((n : Nat) : Int)), .int (iI (rc)), .ref MB, .ref MR, .ref ME, .ref MZ, .int (iI (zWo n b)), .int (iI (zWy n b)), .int (iI (po)), .ref MT, .int (iI (-1)), .int (iI (-1)), .int (iI (-1)), .int (iI (mu))])), (MB, zArr cI 36 b), (MR, zArr cI 6 ro3), (ME, zArr cI 6 ee7), (MZ, zArr cI 6 (uZ q4 (i4) ((ee7 (i4)) + (zShare n (zLeft (zWo n b) rc ee7 n))))), (MT, zArr cI 6 mt3)] := hD
                            refine zr_iinc (lv2 := [(3, .int (iI (((i4 : Nat) : Int) + 1))), (0, .ref M), (1, .int (iI (zLeft (zWo n b) rc ee7 n))), (2, .int (iI (zShare n (zLeft (zWo n b) rc ee7 n))))]) hx hb dX3_settle_119 hl (k0 := 3) rfl (by decide) rfl (fun ls hl => ?_)
                            have hl : lv_has ls 4 [(3, .int (iI ((i4 + 1 : Nat) : Int))), (0, .ref M), (1, .int (iI (zLeft (zWo n b) rc ee7 n))), (2, .int (iI (zShare n (zLeft (zWo n b) rc ee7 n))))] := hl
                            refine lv_goto (tgt := 97) hx hb dX3_settle_122 (by decide) ?_
                            exact ih_L4 (i4 + 1) ((uZ q4 (i4) ((ee7 (i4)) + (zShare n (zLeft (zWo n b) rc ee7 n))))) (by omega) (by omega) (fun a ha => by by_cases e8 : a = i4; rw [e8, uZ_s]; rw [uZ_n _ _ e8]; exact hq a (by omega)) _ _ hP hD hS _ (lv_sub hl [1, 2, 3, 0] rfl)
                      exact L4 ((n - (0)) + 1) (0) (mq) (Nat.lt_succ_self _) (Nat.zero_le _) (fun a ha => absurd ha (Nat.not_lt_zero _)) _ _ hP hD hS _ (lv_sub hl [2, 3, 1, 0] rfl)
                    refine lv_aload_n hx hb dX3_settle_73 rfl (lv_at hl 0 rfl) ?_
                    refine va_get (D := D) (ci := 3) (v := .int (iI ((n : Nat) : Int))) (C := RX3) (T := TX3) (N := 15) hx hb hts (by decide +kernel) hown hK hP 0 rfl rfl 1 (by decide) (hts (.fieldLink RX3 38 "RentHarmonyModel" "lodgers" "I") (by decide +kernel)) (fun _ h9 => h9) rfl dX3_settle_74 ?_
                    refine zr_if_le (tgt := 93) hx hb dX3_settle_77 (by decide) (zB_of (by omega) (by omega)) (fun c11 => ?_) (fun c11 => ?_)
                    · refine zr_ic (n := ((0 : Nat) : Int)) hx hb dX3_settle_93 ?_
                      refine zr_topi (show ((0 : Nat) : Int) = (zShare n (zLeft (zWo n b) rc ee7 n)) from by unfold zShare; split <;> omega) ?_
                      exact J94   _ _ hP hD hS _ (lv_sub hl [0, 1] rfl)
                    · refine lv_iload_n hx hb dX3_settle_80 rfl (lv_at hl 1 rfl) ?_
                      refine zr_if_le (tgt := 93) hx hb dX3_settle_81 (by decide) (zB_of (by omega) (by omega)) (fun c12 => ?_) (fun c12 => ?_)
                      · refine zr_ic (n := ((0 : Nat) : Int)) hx hb dX3_settle_93 ?_
                        refine zr_topi (show ((0 : Nat) : Int) = (zShare n (zLeft (zWo n b) rc ee7 n)) from by unfold zShare; split <;> omega) ?_
                        exact J94   _ _ hP hD hS _ (lv_sub hl [0, 1] rfl)
                      · refine lv_iload_n hx hb dX3_settle_84 rfl (lv_at hl 1 rfl) ?_
                        refine lv_aload_n hx hb dX3_settle_85 rfl (lv_at hl 0 rfl) ?_
                        refine va_get (D := D) (ci := 3) (v := .int (iI ((n : Nat) : Int))) (C := RX3) (T := TX3) (N := 15) hx hb hts (by decide +kernel) hown hK hP 0 rfl rfl 1 (by decide) (hts (.fieldLink RX3 38 "RentHarmonyModel" "lodgers" "I") (by decide +kernel)) (fun _ h9 => h9) rfl dX3_settle_86 ?_
                        refine zr_div hx hb dX3_settle_89 (zB_of (by omega) (by omega)) (zB_of (by omega) (by omega)) (by omega) (by omega) ?_
                        refine lv_goto (tgt := 94) hx hb dX3_settle_90 (by decide) ?_
                        refine zr_topi (show ((zLeft (zWo n b) rc ee7 n) / ((n : Nat) : Int)) = (zShare n (zLeft (zWo n b) rc ee7 n)) from by unfold zShare; split <;> omega) ?_
                        exact J94   _ _ hP hD hS _ (lv_sub hl [0, 1] rfl)
                  · refine lv_iload_n hx hb dX3_settle_58 rfl (lv_at hl 1 rfl) ?_
                    refine lv_aload_n hx hb dX3_settle_59 rfl (lv_at hl 0 rfl) ?_
                    refine va_get (D := D) (ci := 3) (v := .ref ME) (C := RX3) (T := TX3) (N := 15) hx hb hts (by decide +kernel) hown hK hP 0 rfl rfl 5 (by decide) (hts (.fieldLink RX3 16 "RentHarmonyModel" "early" "[I") (by decide +kernel)) (fun _ h9 => h9) rfl dX3_settle_60 ?_
                    refine lv_iload_n hx hb dX3_settle_63 rfl (lv_at hl 2 rfl) ?_
                    refine zr_iald hx hb hK hP 3 0 rfl rfl (i) (by omega) (by omega) (by omega) dX3_settle_64 ?_
                    refine zr_sub hx hb dX3_settle_65 ?_
                    refine lv_istore_n (lv' := [(1, .int (iI ((zWo n b - rc - zSum ee7 i) - (ee7 (i))))), (0, .ref M), (2, .int (iI ((i : Nat) : Int)))]) hx hb dX3_settle_66 rfl hl (by decide) rfl (fun ls hl => ?_)
                    refine zr_iinc (lv2 := [(2, .int (iI (((i : Nat) : Int) + 1))), (1, .int (iI ((zWo n b - rc - zSum ee7 i) - (ee7 (i))))), (0, .ref M)]) hx hb dX3_settle_67 hl (k0 := 2) rfl (by decide) rfl (fun ls hl => ?_)
                    have hl : lv_has ls 4 [(2, .int (iI ((i + 1 : Nat) : Int))), (1, .int (iI ((zWo n b - rc - zSum ee7 i) - (ee7 (i))))), (0, .ref M)] := hl
                    refine lv_goto (tgt := 50) hx hb dX3_settle_70 (by decide) ?_
                    have hl : lv_has ls 4 [(2, .int (iI ((i + 1 : Nat) : Int))), (1, .int (iI (zWo n b - rc - zSum ee7 (i + 1)))), (0, .ref M)] := by rw [show (zWo n b - rc - zSum ee7 (i + 1)) = ((zWo n b - rc - zSum ee7 i) - (ee7 (i))) from by show _ - (zSum ee7 i + ee7 i) = _; omega]; exact hl
                    exact ih_L3 (i + 1) (by omega) (by omega) _ _ hP hD hS _ (lv_sub hl [2, 1, 0] rfl)
              have hl : lv_has ls 4 [(2, .int (iI ((0 : Nat) : Int))), (0, .ref M), (1, .int (iI (zWo n b - rc - zSum ee7 0)))] := by rw [show (zWo n b - rc - zSum ee7 0) = ((zWo n b) - rc) from (Int.sub_zero _)]; exact hl
              exact L3 ((n - (0)) + 1) (0) (Nat.lt_succ_self _) (by omega) _ _ hP hD hS _ (lv_sub hl [1, 2, 0] rfl)
            · have hd9 := c8
              refine lv_goto (tgt := 38) hx hb dX3_settle_45 (by decide) ?_
              obtain ⟨j9, hj9, hlt9⟩ : ∃ j, j < n ∧ e2 j < ee7 j := by rcases hrd7 with ⟨z, -⟩ | ⟨-, z⟩; exact absurd z hd9; exact z
              have hs9 := zSum_lt n hj9 (fun i hi => (hre7 i hi).1) hlt9
              clear hrd7 hd01
              have hs8 := zSum_le n (fun i hi => (hre7 i hi).2)
              exact ih_L2 (ee7) (by omega) (fun a ha => ⟨by have z1 := (hme a ha).1; have z2 := (hre7 a ha).1; omega, (hre7 a ha).2⟩) _ _ hP hD hS _ (lv_sub hl [0, 1] rfl)
        exact L2 (((zSum U n - zSum (e1) n).toNat) + 1) (e1) (Nat.lt_succ_self _) (fun a ha => by rw [hz a (by omega)]; exact ⟨Int.le_refl _, (hUb a ha).1⟩) _ _ hP hD hS _ (lv_sub hl [0, 1] rfl)
      · refine lv_aload_n hx hb dX3_settle_25 rfl (lv_at hl 0 rfl) ?_
        refine va_get (D := D) (ci := 3) (v := .ref ME) (C := RX3) (T := TX3) (N := 15) hx hb hts (by decide +kernel) hown hK hP 0 rfl rfl 5 (by decide) (hts (.fieldLink RX3 16 "RentHarmonyModel" "early" "[I") (by decide +kernel)) (fun _ h9 => h9) rfl dX3_settle_26 ?_
        refine lv_iload_n hx hb dX3_settle_29 rfl (lv_at hl 2 rfl) ?_
        refine zr_ic (n := ((0 : Nat) : Int)) hx hb dX3_settle_30 ?_
        refine zr_iast hx hb hK hP hD hS 3 0 rfl rfl (i) (by omega) (by omega) (by omega) dX3_settle_31 (fun H locs hP hD hS => ?_)
        have hP : va_P D vwCl [(M, .inr (3, [.int (iI (th)), .int (iI ((n : Nat) : Int)), .int (iI (rc)), .ref MB, .ref MR, .ref ME, .ref MZ, .int (iI (zWo n b)), .int (iI (zWy n b)), .int (iI (po)), .ref MT, .int (iI (-1)), .int (iI (-1)), .int (iI (-1)), .int (iI (mu))])), (MB, zArr cI 36 b), (MR, zArr cI 6 ro3), (ME, zArr cI 6 (uZ e1 (i) ((0 : Nat) : Int))), (MZ, zArr cI 6 mq), (MT, zArr cI 6 mt3)] H := hP
        have hD : va_D A [(M, .inr (3, [.int (iI (th)), .int (iI ((n : Nat) : Int)), .int (iI (rc)), .ref MB, .ref MR, .ref ME, .ref MZ, .int (iI (zWo n b)), .int (iI (zWy n b)), .int (iI (po)), .ref MT, .int (iI (-1)), .int (iI (-1)), .int (iI (-1)), .int (iI (mu))])), (MB, zArr cI 36 b), (MR, zArr cI 6 ro3), (ME, zArr cI 6 (uZ e1 (i) ((0 : Nat) : Int))), (MZ, zArr cI 6 mq), (MT, zArr cI 6 mt3)] := hD
        refine zr_iinc (lv2 := [(2, .int (iI (((i : Nat) : Int) + 1))), (0, .ref M), (1, .int (iI ((zWo n b) - rc)))]) hx hb dX3_settle_32 hl (k0 := 2) rfl (by decide) rfl (fun ls hl => ?_)
        have hl : lv_has ls 4 [(2, .int (iI ((i + 1 : Nat) : Int))), (0, .ref M), (1, .int (iI ((zWo n b) - rc)))] := hl
        refine lv_goto (tgt := 17) hx hb dX3_settle_35 (by decide) ?_
        exact ih_L1 (i + 1) ((uZ e1 (i) ((0 : Nat) : Int))) (by omega) (by omega) (fun a ha => by by_cases e8 : a = i; rw [e8, uZ_s]; rfl; rw [uZ_n _ _ e8]; exact hz a (by omega)) _ _ hP hD hS _ (lv_sub hl [1, 2, 0] rfl)
  exact L1 ((n - (0)) + 1) (0) (me) (Nat.lt_succ_self _) (Nat.zero_le _) (fun a ha => absurd ha (Nat.not_lt_zero _)) _ _ hP hD hS _ (lv_sub hl [2, 1, 0] rfl)
