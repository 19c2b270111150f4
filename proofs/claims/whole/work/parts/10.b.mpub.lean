set_option maxHeartbeats 4000000 in
set_option maxRecDepth 100000 in
/-- X3_counted -/
theorem c_X3_counted_0 (l : Launch) (D : va_G) (cI : ClassId) (M MB MR ME MZ MT n : Nat) (b mr me mq mt : Nat → Int) (th rc wo wy po mu : Int) (E : Nat → Int) (hn : n ≤ 6) (hb0 : ∀ k, 0 ≤ b k ∧ b k ≤ 999) (hrc : 0 ≤ rc ∧ rc ≤ 5999) (hmu : 0 ≤ mu ∧ mu ≤ 1) (hE : zIsB n (zWt b (zRo n b)) E) : zWi (S := Int × Int × Int × (Nat → Int) × (Nat → Int) × (Nat → Int) × (Nat → Int)) l yX3_counted wsX3_counted 10 234 D cI [.ref M, .int (iI ((0 : Nat) : Int))] [(M, .inr (3, [.int (iI (th)), .int (iI ((n : Nat) : Int)), .int (iI (rc)), .ref MB, .ref MR, .ref ME, .ref MZ, .int (iI (wo)), .int (iI (wy)), .int (iI (po)), .ref MT, .int (iI (-1)), .int (iI (-1)), .int (iI (-1)), .int (iI (mu))])), (MB, zArr cI 36 b), (MR, zArr cI 6 mr), (ME, zArr cI 6 me), (MZ, zArr cI 6 mq), (MT, zArr cI 6 mt)] (fun r u8 => r = iI (zTo n b rc E 0) ∧ zMset n b rc u8.1 u8.2.1 u8.2.2.1 u8.2.2.2.1 u8.2.2.2.2.1 u8.2.2.2.2.2.1) (fun u8 => [(M, .inr (3, [.int (iI (th)), .int (iI ((n : Nat) : Int)), .int (iI (rc)), .ref MB, .ref MR, .ref ME, .ref MZ, .int (iI (u8.1)), .int (iI (u8.2.1)), .int (iI (u8.2.2.1)), .ref MT, .int (iI (-1)), .int (iI (-1)), .int (iI (-1)), .int (iI (mu))])), (MB, zArr cI 36 b), (MR, zArr cI 6 u8.2.2.2.1), (ME, zArr cI 6 u8.2.2.2.2.1), (MZ, zArr cI 6 u8.2.2.2.2.2.1), (MT, zArr cI 6 u8.2.2.2.2.2.2)]) := by
  refine zWi_of (cc := cX3_counted) (maxL := 4) (rt := .int) (by decide) rfl (Nat.le_of_ble_eq_true rfl) ?_
  intro p e s m args below meth c ls A hF hr hlocks hP hK hD hS hl
  have hF : zFix p m c cX3_counted 4 s args wsX3_counted RX3 := hF
  obtain ⟨hx, hb, hml, hown, hts⟩ := id hF
  have hP : va_P D vwCl [(M, .inr (3, [.int (iI (th)), .int (iI ((n : Nat) : Int)), .int (iI (rc)), .ref MB, .ref MR, .ref ME, .ref MZ, .int (iI (wo)), .int (iI (wy)), .int (iI (po)), .ref MT, .int (iI (-1)), .int (iI (-1)), .int (iI (-1)), .int (iI (mu))])), (MB, zArr cI 36 b), (MR, zArr cI 6 mr), (ME, zArr cI 6 me), (MZ, zArr cI 6 mq), (MT, zArr cI 6 mt)] s.heap := hP
  have hD : va_D A [(M, .inr (3, [.int (iI (th)), .int (iI ((n : Nat) : Int)), .int (iI (rc)), .ref MB, .ref MR, .ref ME, .ref MZ, .int (iI (wo)), .int (iI (wy)), .int (iI (po)), .ref MT, .int (iI (-1)), .int (iI (-1)), .int (iI (-1)), .int (iI (mu))])), (MB, zArr cI 36 b), (MR, zArr cI 6 mr), (ME, zArr cI 6 me), (MZ, zArr cI 6 mq), (MT, zArr cI 6 mt)] := hD
  skip
  have hl : lv_has ls 4 [(0, .ref M), (1, .int (iI ((0 : Nat) : Int)))] := hl
  refine lv_aload_n hx hb dX3_counted_0 rfl (lv_at hl 0 rfl) ?_
  refine zc_wv (As := []) (rest := []) hF (c_X3_settle l D cI M MB MR ME MZ MT n b mr me mq mt th rc wo wy po mu (by omega) (by assumption) (by assumption) (by omega)) (cwV 0 hts gX3_counted_X3_settle rfl rfl rfl (by decide +kernel) ⟨Nat.le_of_ble_eq_true rfl, Nat.le_of_ble_eq_true rfl⟩) hK hP hD hS [0, 1, 2, 3, 4, 5] rfl rfl (fun _ => rfl) 0 rfl 0 rfl rfl rfl rfl hl.1 rfl (Nat.le_of_ble_eq_true rfl) dX3_counted_1 ⟨Nat.zero_le _, Nat.zero_le _⟩ (fun u1 H locs hw hP hD hS => ?_)
  obtain ⟨wo3, wy3, po3, ro3, me3, mq3, mt3⟩ := u1
  have hst3 : zMset n b rc wo3 wy3 po3 ro3 me3 mq3 := hw
  have hP : va_P D vwCl [(M, .inr (3, [.int (iI (th)), .int (iI ((n : Nat) : Int)), .int (iI (rc)), .ref MB, .ref MR, .ref ME, .ref MZ, .int (iI (wo3)), .int (iI (wy3)), .int (iI (po3)), .ref MT, .int (iI (-1)), .int (iI (-1)), .int (iI (-1)), .int (iI (mu))])), (MB, zArr cI 36 b), (MR, zArr cI 6 ro3), (ME, zArr cI 6 me3), (MZ, zArr cI 6 mq3), (MT, zArr cI 6 mt3)] H := hP
  have hD : va_D A [(M, .inr (3, [.int (iI (th)), .int (iI ((n : Nat) : Int)), .int (iI (rc)), .ref MB, .ref MR, .ref ME, .ref MZ, .int (iI (wo3)), .int (iI (wy3)), .int (iI (po3)), .ref MT, .int (iI (-1)), .int (iI (-1)), .int (iI (-1)), .int (iI (mu))])), (MB, zArr cI 36 b), (MR, zArr cI 6 ro3), (ME, zArr cI 6 me3), (MZ, zArr cI 6 mq3), (MT, zArr cI 6 mt3)] := hD
  have hro : ∀ j, j < n → ro3 j = ((zRo n b j : Nat) : Int) := hst3.2.2.1
  have hgn := zRo_lt (b := b) hn
  have hmq : ∀ j, j < n → mq3 j = me3 j + (zShare n (zLeft (zWo n b) rc me3 n)) := hst3.2.2.2.2.1
  refine zr_ic (n := ((0 : Nat) : Int)) hx hb dX3_counted_4 ?_
  refine lv_istore_n (lv' := [(2, .int (iI ((0 : Nat) : Int))), (0, .ref M), (1, .int (iI ((0 : Nat) : Int)))]) hx hb dX3_counted_5 rfl hl (by decide) rfl (fun ls hl => ?_)
  refine lv_iload_n hx hb dX3_counted_6 rfl (lv_at hl 2 rfl) ?_
  refine lv_tableIn (off := 37) (tgt := 44) hx hb dX3_counted_7 (by decide) (by decide) (by decide) (by decide) ?_
  refine lv_aload_n hx hb dX3_counted_44 rfl (lv_at hl 1 rfl) ?_
  refine va_get (D := D) (ci := 3) (v := .int (iI ((n : Nat) : Int))) (C := RX3) (T := TX3) (N := 15) hx hb hts (by decide +kernel) hown hK hP 0 rfl rfl 1 (by decide) (hts (.fieldLink RX3 38 "RentHarmonyModel" "lodgers" "I") (by decide +kernel)) (fun _ h9 => h9) rfl dX3_counted_45 ?_
  have htt := fun q => zTot_un (rc := rc) hE hst3.2.2.2.1 q
  exact zWi_ret hx hb hr hlocks hS dX3_counted_48 (wo3, wy3, po3, ro3, me3, mq3, mt3) ⟨rfl, hst3⟩ hP
set_option maxHeartbeats 4000000 in
set_option maxRecDepth 100000 in
/-- X3_counted -/
theorem c_X3_counted_1 (l : Launch) (D : va_G) (cI : ClassId) (M MB MR ME MZ MT n : Nat) (b mr me mq mt : Nat → Int) (th rc wo wy po mu : Int) (E : Nat → Int) (hn : n ≤ 6) (hb0 : ∀ k, 0 ≤ b k ∧ b k ≤ 999) (hrc : 0 ≤ rc ∧ rc ≤ 5999) (hmu : 0 ≤ mu ∧ mu ≤ 1) (hE : zIsB n (zWt b (zRo n b)) E) : zWi (S := Int × Int × Int × (Nat → Int) × (Nat → Int) × (Nat → Int) × (Nat → Int)) l yX3_counted wsX3_counted 10 234 D cI [.ref M, .int (iI ((1 : Nat) : Int))] [(M, .inr (3, [.int (iI (th)), .int (iI ((n : Nat) : Int)), .int (iI (rc)), .ref MB, .ref MR, .ref ME, .ref MZ, .int (iI (wo)), .int (iI (wy)), .int (iI (po)), .ref MT, .int (iI (-1)), .int (iI (-1)), .int (iI (-1)), .int (iI (mu))])), (MB, zArr cI 36 b), (MR, zArr cI 6 mr), (ME, zArr cI 6 me), (MZ, zArr cI 6 mq), (MT, zArr cI 6 mt)] (fun r u8 => r = iI (zTo n b rc E 1) ∧ zMset n b rc u8.1 u8.2.1 u8.2.2.1 u8.2.2.2.1 u8.2.2.2.2.1 u8.2.2.2.2.2.1) (fun u8 => [(M, .inr (3, [.int (iI (th)), .int (iI ((n : Nat) : Int)), .int (iI (rc)), .ref MB, .ref MR, .ref ME, .ref MZ, .int (iI (u8.1)), .int (iI (u8.2.1)), .int (iI (u8.2.2.1)), .ref MT, .int (iI (-1)), .int (iI (-1)), .int (iI (-1)), .int (iI (mu))])), (MB, zArr cI 36 b), (MR, zArr cI 6 u8.2.2.2.1), (ME, zArr cI 6 u8.2.2.2.2.1), (MZ, zArr cI 6 u8.2.2.2.2.2.1), (MT, zArr cI 6 u8.2.2.2.2.2.2)]) := by
  refine zWi_of (cc := cX3_counted) (maxL := 4) (rt := .int) (by decide) rfl (Nat.le_of_ble_eq_true rfl) ?_
  intro p e s m args below meth c ls A hF hr hlocks hP hK hD hS hl
  have hF : zFix p m c cX3_counted 4 s args wsX3_counted RX3 := hF
  obtain ⟨hx, hb, hml, hown, hts⟩ := id hF
  have hP : va_P D vwCl [(M, .inr (3, [.int (iI (th)), .int (iI ((n : Nat) : Int)), .int (iI (rc)), .ref MB, .ref MR, .ref ME, .ref MZ, .int (iI (wo)), .int (iI (wy)), .int (iI (po)), .ref MT, .int (iI (-1)), .int (iI (-1)), .int (iI (-1)), .int (iI (mu))])), (MB, zArr cI 36 b), (MR, zArr cI 6 mr), (ME, zArr cI 6 me), (MZ, zArr cI 6 mq), (MT, zArr cI 6 mt)] s.heap := hP
  have hD : va_D A [(M, .inr (3, [.int (iI (th)), .int (iI ((n : Nat) : Int)), .int (iI (rc)), .ref MB, .ref MR, .ref ME, .ref MZ, .int (iI (wo)), .int (iI (wy)), .int (iI (po)), .ref MT, .int (iI (-1)), .int (iI (-1)), .int (iI (-1)), .int (iI (mu))])), (MB, zArr cI 36 b), (MR, zArr cI 6 mr), (ME, zArr cI 6 me), (MZ, zArr cI 6 mq), (MT, zArr cI 6 mt)] := hD
  skip
  have hl : lv_has ls 4 [(0, .ref M), (1, .int (iI ((1 : Nat) : Int)))] := hl
  refine lv_aload_n hx hb dX3_counted_0 rfl (lv_at hl 0 rfl) ?_
  refine zc_wv (As := []) (rest := []) hF (c_X3_settle l D cI M MB MR ME MZ MT n b mr me mq mt th rc wo wy po mu (by omega) (by assumption) (by assumption) (by omega)) (cwV 0 hts gX3_counted_X3_settle rfl rfl rfl (by decide +kernel) ⟨Nat.le_of_ble_eq_true rfl, Nat.le_of_ble_eq_true rfl⟩) hK hP hD hS [0, 1, 2, 3, 4, 5] rfl rfl (fun _ => rfl) 0 rfl 0 rfl rfl rfl rfl hl.1 rfl (Nat.le_of_ble_eq_true rfl) dX3_counted_1 ⟨Nat.zero_le _, Nat.zero_le _⟩ (fun u1 H locs hw hP hD hS => ?_)
  obtain ⟨wo3, wy3, po3, ro3, me3, mq3, mt3⟩ := u1
  have hst3 : zMset n b rc wo3 wy3 po3 ro3 me3 mq3 := hw
  have hP : va_P D vwCl [(M, .inr (3, [.int (iI (th)), .int (iI ((n : Nat) : Int)), .int (iI (rc)), .ref MB, .ref MR, .ref ME, .ref MZ, .int (iI (wo3)), .int (iI (wy3)), .int (iI (po3)), .ref MT, .int (iI (-1)), .int (iI (-1)), .int (iI (-1)), .int (iI (mu))])), (MB, zArr cI 36 b), (MR, zArr cI 6 ro3), (ME, zArr cI 6 me3), (MZ, zArr cI 6 mq3), (MT, zArr cI 6 mt3)] H := hP
  have hD : va_D A [(M, .inr (3, [.int (iI (th)), .int (iI ((n : Nat) : Int)), .int (iI (rc)), .ref MB, .ref MR, .ref ME, .ref MZ, .int (iI (wo3)), .int (iI (wy3)), .int (iI (po3)), .ref MT, .int (iI (-1)), .int (iI (-1)), .int (iI (-1)), .int (iI (mu))])), (MB, zArr cI 36 b), (MR, zArr cI 6 ro3), (ME, zArr cI 6 me3), (MZ, zArr cI 6 mq3), (MT, zArr cI 6 mt3)] := hD
  have hro : ∀ j, j < n → ro3 j = ((zRo n b j : Nat) : Int) := hst3.2.2.1
  have hgn := zRo_lt (b := b) hn
  have hmq : ∀ j, j < n → mq3 j = me3 j + (zShare n (zLeft (zWo n b) rc me3 n)) := hst3.2.2.2.2.1
  refine zr_ic (n := ((0 : Nat) : Int)) hx hb dX3_counted_4 ?_
  refine lv_istore_n (lv' := [(2, .int (iI ((0 : Nat) : Int))), (0, .ref M), (1, .int (iI ((1 : Nat) : Int)))]) hx hb dX3_counted_5 rfl hl (by decide) rfl (fun ls hl => ?_)
  refine lv_iload_n hx hb dX3_counted_6 rfl (lv_at hl 2 rfl) ?_
  refine lv_tableIn (off := 42) (tgt := 49) hx hb dX3_counted_7 (by decide) (by decide) (by decide) (by decide) ?_
  refine lv_aload_n hx hb dX3_counted_49 rfl (lv_at hl 1 rfl) ?_
  refine va_get (D := D) (ci := 3) (v := .int (iI (rc))) (C := RX3) (T := TX3) (N := 15) hx hb hts (by decide +kernel) hown hK hP 0 rfl rfl 2 (by decide) (hts (.fieldLink RX3 57 "RentHarmonyModel" "rent" "I") (by decide +kernel)) (fun _ h9 => h9) rfl dX3_counted_50 ?_
  have htt := fun q => zTot_un (rc := rc) hE hst3.2.2.2.1 q
  exact zWi_ret hx hb hr hlocks hS dX3_counted_53 (wo3, wy3, po3, ro3, me3, mq3, mt3) ⟨rfl, hst3⟩ hP
set_option maxHeartbeats 4000000 in
set_option maxRecDepth 100000 in
/-- X3_counted -/
theorem c_X3_counted_2 (l : Launch) (D : va_G) (cI : ClassId) (M MB MR ME MZ MT n : Nat) (b mr me mq mt : Nat → Int) (th rc wo wy po mu : Int) (E : Nat → Int) (hn : n ≤ 6) (hb0 : ∀ k, 0 ≤ b k ∧ b k ≤ 999) (hrc : 0 ≤ rc ∧ rc ≤ 5999) (hmu : 0 ≤ mu ∧ mu ≤ 1) (hE : zIsB n (zWt b (zRo n b)) E) : zWi (S := Int × Int × Int × (Nat → Int) × (Nat → Int) × (Nat → Int) × (Nat → Int)) l yX3_counted wsX3_counted 10 234 D cI [.ref M, .int (iI ((2 : Nat) : Int))] [(M, .inr (3, [.int (iI (th)), .int (iI ((n : Nat) : Int)), .int (iI (rc)), .ref MB, .ref MR, .ref ME, .ref MZ, .int (iI (wo)), .int (iI (wy)), .int (iI (po)), .ref MT, .int (iI (-1)), .int (iI (-1)), .int (iI (-1)), .int (iI (mu))])), (MB, zArr cI 36 b), (MR, zArr cI 6 mr), (ME, zArr cI 6 me), (MZ, zArr cI 6 mq), (MT, zArr cI 6 mt)] (fun r u8 => r = iI (zTo n b rc E 2) ∧ zMset n b rc u8.1 u8.2.1 u8.2.2.1 u8.2.2.2.1 u8.2.2.2.2.1 u8.2.2.2.2.2.1) (fun u8 => [(M, .inr (3, [.int (iI (th)), .int (iI ((n : Nat) : Int)), .int (iI (rc)), .ref MB, .ref MR, .ref ME, .ref MZ, .int (iI (u8.1)), .int (iI (u8.2.1)), .int (iI (u8.2.2.1)), .ref MT, .int (iI (-1)), .int (iI (-1)), .int (iI (-1)), .int (iI (mu))])), (MB, zArr cI 36 b), (MR, zArr cI 6 u8.2.2.2.1), (ME, zArr cI 6 u8.2.2.2.2.1), (MZ, zArr cI 6 u8.2.2.2.2.2.1), (MT, zArr cI 6 u8.2.2.2.2.2.2)]) := by
  refine zWi_of (cc := cX3_counted) (maxL := 4) (rt := .int) (by decide) rfl (Nat.le_of_ble_eq_true rfl) ?_
  intro p e s m args below meth c ls A hF hr hlocks hP hK hD hS hl
  have hF : zFix p m c cX3_counted 4 s args wsX3_counted RX3 := hF
  obtain ⟨hx, hb, hml, hown, hts⟩ := id hF
  have hP : va_P D vwCl [(M, .inr (3, [.int (iI (th)), .int (iI ((n : Nat) : Int)), .int (iI (rc)), .ref MB, .ref MR, .ref ME, .ref MZ, .int (iI (wo)), .int (iI (wy)), .int (iI (po)), .ref MT, .int (iI (-1)), .int (iI (-1)), .int (iI (-1)), .int (iI (mu))])), (MB, zArr cI 36 b), (MR, zArr cI 6 mr), (ME, zArr cI 6 me), (MZ, zArr cI 6 mq), (MT, zArr cI 6 mt)] s.heap := hP
  have hD : va_D A [(M, .inr (3, [.int (iI (th)), .int (iI ((n : Nat) : Int)), .int (iI (rc)), .ref MB, .ref MR, .ref ME, .ref MZ, .int (iI (wo)), .int (iI (wy)), .int (iI (po)), .ref MT, .int (iI (-1)), .int (iI (-1)), .int (iI (-1)), .int (iI (mu))])), (MB, zArr cI 36 b), (MR, zArr cI 6 mr), (ME, zArr cI 6 me), (MZ, zArr cI 6 mq), (MT, zArr cI 6 mt)] := hD
  skip
  have hl : lv_has ls 4 [(0, .ref M), (1, .int (iI ((2 : Nat) : Int)))] := hl
  refine lv_aload_n hx hb dX3_counted_0 rfl (lv_at hl 0 rfl) ?_
  refine zc_wv (As := []) (rest := []) hF (c_X3_settle l D cI M MB MR ME MZ MT n b mr me mq mt th rc wo wy po mu (by omega) (by assumption) (by assumption) (by omega)) (cwV 0 hts gX3_counted_X3_settle rfl rfl rfl (by decide +kernel) ⟨Nat.le_of_ble_eq_true rfl, Nat.le_of_ble_eq_true rfl⟩) hK hP hD hS [0, 1, 2, 3, 4, 5] rfl rfl (fun _ => rfl) 0 rfl 0 rfl rfl rfl rfl hl.1 rfl (Nat.le_of_ble_eq_true rfl) dX3_counted_1 ⟨Nat.zero_le _, Nat.zero_le _⟩ (fun u1 H locs hw hP hD hS => ?_)
  obtain ⟨wo3, wy3, po3, ro3, me3, mq3, mt3⟩ := u1
  have hst3 : zMset n b rc wo3 wy3 po3 ro3 me3 mq3 := hw
  have hP : va_P D vwCl [(M, .inr (3, [.int (iI (th)), .int (iI ((n : Nat) : Int)), .int (iI (rc)), .ref MB, .ref MR, .ref ME, .ref MZ, .int (iI (wo3)), .int (iI (wy3)), .int (iI (po3)), .ref MT, .int (iI (-1)), .int (iI (-1)), .int (iI (-1)), .int (iI (mu))])), (MB, zArr cI 36 b), (MR, zArr cI 6 ro3), (ME, zArr cI 6 me3), (MZ, zArr cI 6 mq3), (MT, zArr cI 6 mt3)] H := hP
  have hD : va_D A [(M, .inr (3, [.int (iI (th)), .int (iI ((n : Nat) : Int)), .int (iI (rc)), .ref MB, .ref MR, .ref ME, .ref MZ, .int (iI (wo3)), .int (iI (wy3)), .int (iI (po3)), .ref MT, .int (iI (-1)), .int (iI (-1)), .int (iI (-1)), .int (iI (mu))])), (MB, zArr cI 36 b), (MR, zArr cI 6 ro3), (ME, zArr cI 6 me3), (MZ, zArr cI 6 mq3), (MT, zArr cI 6 mt3)] := hD
  have hro : ∀ j, j < n → ro3 j = ((zRo n b j : Nat) : Int) := hst3.2.2.1
  have hgn := zRo_lt (b := b) hn
  have hmq : ∀ j, j < n → mq3 j = me3 j + (zShare n (zLeft (zWo n b) rc me3 n)) := hst3.2.2.2.2.1
  refine zr_ic (n := ((0 : Nat) : Int)) hx hb dX3_counted_4 ?_
  refine lv_istore_n (lv' := [(2, .int (iI ((0 : Nat) : Int))), (0, .ref M), (1, .int (iI ((2 : Nat) : Int)))]) hx hb dX3_counted_5 rfl hl (by decide) rfl (fun ls hl => ?_)
  refine lv_iload_n hx hb dX3_counted_6 rfl (lv_at hl 2 rfl) ?_
  refine lv_tableIn (off := 47) (tgt := 54) hx hb dX3_counted_7 (by decide) (by decide) (by decide) (by decide) ?_
  refine lv_aload_n hx hb dX3_counted_54 rfl (lv_at hl 1 rfl) ?_
  refine va_get (D := D) (ci := 3) (v := .int (iI (wo3))) (C := RX3) (T := TX3) (N := 15) hx hb hts (by decide +kernel) hown hK hP 0 rfl rfl 7 (by decide) (hts (.fieldLink RX3 64 "RentHarmonyModel" "worth" "I") (by decide +kernel)) (fun _ h9 => h9) rfl dX3_counted_55 ?_
  have htt := fun q => zTot_un (rc := rc) hE hst3.2.2.2.1 q
  exact zWi_ret hx hb hr hlocks hS dX3_counted_58 (wo3, wy3, po3, ro3, me3, mq3, mt3) ⟨congrArg iI hst3.1, hst3⟩ hP
set_option maxHeartbeats 4000000 in
set_option maxRecDepth 100000 in
/-- X3_counted -/
theorem c_X3_counted_3 (l : Launch) (D : va_G) (cI : ClassId) (M MB MR ME MZ MT n : Nat) (b mr me mq mt : Nat → Int) (th rc wo wy po mu : Int) (E : Nat → Int) (hn : n ≤ 6) (hb0 : ∀ k, 0 ≤ b k ∧ b k ≤ 999) (hrc : 0 ≤ rc ∧ rc ≤ 5999) (hmu : 0 ≤ mu ∧ mu ≤ 1) (hE : zIsB n (zWt b (zRo n b)) E) : zWi (S := Int × Int × Int × (Nat → Int) × (Nat → Int) × (Nat → Int) × (Nat → Int)) l yX3_counted wsX3_counted 10 234 D cI [.ref M, .int (iI ((3 : Nat) : Int))] [(M, .inr (3, [.int (iI (th)), .int (iI ((n : Nat) : Int)), .int (iI (rc)), .ref MB, .ref MR, .ref ME, .ref MZ, .int (iI (wo)), .int (iI (wy)), .int (iI (po)), .ref MT, .int (iI (-1)), .int (iI (-1)), .int (iI (-1)), .int (iI (mu))])), (MB, zArr cI 36 b), (MR, zArr cI 6 mr), (ME, zArr cI 6 me), (MZ, zArr cI 6 mq), (MT, zArr cI 6 mt)] (fun r u8 => r = iI (zTo n b rc E 3) ∧ zMset n b rc u8.1 u8.2.1 u8.2.2.1 u8.2.2.2.1 u8.2.2.2.2.1 u8.2.2.2.2.2.1) (fun u8 => [(M, .inr (3, [.int (iI (th)), .int (iI ((n : Nat) : Int)), .int (iI (rc)), .ref MB, .ref MR, .ref ME, .ref MZ, .int (iI (u8.1)), .int (iI (u8.2.1)), .int (iI (u8.2.2.1)), .ref MT, .int (iI (-1)), .int (iI (-1)), .int (iI (-1)), .int (iI (mu))])), (MB, zArr cI 36 b), (MR, zArr cI 6 u8.2.2.2.1), (ME, zArr cI 6 u8.2.2.2.2.1), (MZ, zArr cI 6 u8.2.2.2.2.2.1), (MT, zArr cI 6 u8.2.2.2.2.2.2)]) := by
  refine zWi_of (cc := cX3_counted) (maxL := 4) (rt := .int) (by decide) rfl (Nat.le_of_ble_eq_true rfl) ?_
  intro p e s m args below meth c ls A hF hr hlocks hP hK hD hS hl
  have hF : zFix p m c cX3_counted 4 s args wsX3_counted RX3 := hF
  obtain ⟨hx, hb, hml, hown, hts⟩ := id hF
  have hP : va_P D vwCl [(M, .inr (3, [.int (iI (th)), .int (iI ((n : Nat) : Int)), .int (iI (rc)), .ref MB, .ref MR, .ref ME, .ref MZ, .int (iI (wo)), .int (iI (wy)), .int (iI (po)), .ref MT, .int (iI (-1)), .int (iI (-1)), .int (iI (-1)), .int (iI (mu))])), (MB, zArr cI 36 b), (MR, zArr cI 6 mr), (ME, zArr cI 6 me), (MZ, zArr cI 6 mq), (MT, zArr cI 6 mt)] s.heap := hP
  have hD : va_D A [(M, .inr (3, [.int (iI (th)), .int (iI ((n : Nat) : Int)), .int (iI (rc)), .ref MB, .ref MR, .ref ME, .ref MZ, .int (iI (wo)), .int (iI (wy)), .int (iI (po)), .ref MT, .int (iI (-1)), .int (iI (-1)), .int (iI (-1)), .int (iI (mu))])), (MB, zArr cI 36 b), (MR, zArr cI 6 mr), (ME, zArr cI 6 me), (MZ, zArr cI 6 mq), (MT, zArr cI 6 mt)] := hD
  skip
  have hl : lv_has ls 4 [(0, .ref M), (1, .int (iI ((3 : Nat) : Int)))] := hl
  refine lv_aload_n hx hb dX3_counted_0 rfl (lv_at hl 0 rfl) ?_
  refine zc_wv (As := []) (rest := []) hF (c_X3_settle l D cI M MB MR ME MZ MT n b mr me mq mt th rc wo wy po mu (by omega) (by assumption) (by assumption) (by omega)) (cwV 0 hts gX3_counted_X3_settle rfl rfl rfl (by decide +kernel) ⟨Nat.le_of_ble_eq_true rfl, Nat.le_of_ble_eq_true rfl⟩) hK hP hD hS [0, 1, 2, 3, 4, 5] rfl rfl (fun _ => rfl) 0 rfl 0 rfl rfl rfl rfl hl.1 rfl (Nat.le_of_ble_eq_true rfl) dX3_counted_1 ⟨Nat.zero_le _, Nat.zero_le _⟩ (fun u1 H locs hw hP hD hS => ?_)
  obtain ⟨wo3, wy3, po3, ro3, me3, mq3, mt3⟩ := u1
  have hst3 : zMset n b rc wo3 wy3 po3 ro3 me3 mq3 := hw
  have hP : va_P D vwCl [(M, .inr (3, [.int (iI (th)), .int (iI ((n : Nat) : Int)), .int (iI (rc)), .ref MB, .ref MR, .ref ME, .ref MZ, .int (iI (wo3)), .int (iI (wy3)), .int (iI (po3)), .ref MT, .int (iI (-1)), .int (iI (-1)), .int (iI (-1)), .int (iI (mu))])), (MB, zArr cI 36 b), (MR, zArr cI 6 ro3), (ME, zArr cI 6 me3), (MZ, zArr cI 6 mq3), (MT, zArr cI 6 mt3)] H := hP
  have hD : va_D A [(M, .inr (3, [.int (iI (th)), .int (iI ((n : Nat) : Int)), .int (iI (rc)), .ref MB, .ref MR, .ref ME, .ref MZ, .int (iI (wo3)), .int (iI (wy3)), .int (iI (po3)), .ref MT, .int (iI (-1)), .int (iI (-1)), .int (iI (-1)), .int (iI (mu))])), (MB, zArr cI 36 b), (MR, zArr cI 6 ro3), (ME, zArr cI 6 me3), (MZ, zArr cI 6 mq3), (MT, zArr cI 6 mt3)] := hD
  have hro : ∀ j, j < n → ro3 j = ((zRo n b j : Nat) : Int) := hst3.2.2.1
  have hgn := zRo_lt (b := b) hn
  have hmq : ∀ j, j < n → mq3 j = me3 j + (zShare n (zLeft (zWo n b) rc me3 n)) := hst3.2.2.2.2.1
  refine zr_ic (n := ((0 : Nat) : Int)) hx hb dX3_counted_4 ?_
  refine lv_istore_n (lv' := [(2, .int (iI ((0 : Nat) : Int))), (0, .ref M), (1, .int (iI ((3 : Nat) : Int)))]) hx hb dX3_counted_5 rfl hl (by decide) rfl (fun ls hl => ?_)
  refine lv_iload_n hx hb dX3_counted_6 rfl (lv_at hl 2 rfl) ?_
  refine lv_tableIn (off := 52) (tgt := 59) hx hb dX3_counted_7 (by decide) (by decide) (by decide) (by decide) ?_
  refine zr_ic (n := ((0 : Nat) : Int)) hx hb dX3_counted_59 ?_
  refine lv_istore_n (lv' := [(3, .int (iI ((0 : Nat) : Int))), (2, .int (iI ((0 : Nat) : Int))), (0, .ref M), (1, .int (iI ((3 : Nat) : Int)))]) hx hb dX3_counted_60 rfl hl (by decide) rfl (fun ls hl => ?_)
  have LS : ∀ (k0 : Nat) (i : Nat), n - i < k0 → (hi : i ≤ n) → ∀ (H : Heap) (locs : List Loc), va_P D vwCl [(M, .inr (3, [.int (iI (th)), .int (iI ((n : Nat) : Int)), .int (iI (rc)), .ref MB, .ref MR, .ref ME, .ref MZ, .int (iI (wo3)), .int (iI (wy3)), .int (iI (po3)), .ref MT, .int (iI (-1)), .int (iI (-1)), .int (iI (-1)), .int (iI (mu))])), (MB, zArr cI 36 b), (MR, zArr cI 6 ro3), (ME, zArr cI 6 me3), (MZ, zArr cI 6 mq3), (MT, zArr cI 6 mt3)] H → va_D A [(M, .inr (3, [.int (iI (th)), .int (iI ((n : Nat) : Int)), .int (iI (rc)), .ref MB, .ref MR, .ref ME, .ref MZ, .int (iI (wo3)), .int (iI (wy3)), .int (iI (po3)), .ref MT, .int (iI (-1)), .int (iI (-1)), .int (iI (-1)), .int (iI (mu))])), (MB, zArr cI 36 b), (MR, zArr cI 6 ro3), (ME, zArr cI 6 me3), (MZ, zArr cI 6 mq3), (MT, zArr cI 6 mt3)] → va_S A s.heap H locs → ∀ (ls : Array Slot), lv_has ls 4 [(0, .ref M), (1, .int (iI ((3 : Nat) : Int))), (2, .int (iI (zSum mq3 i))), (3, .int (iI ((i : Nat) : Int)))] → W p l e (zRm 10 234) s m args below meth c H locs 0 0 (MQ below (va_Qi (S := Int × Int × Int × (Nat → Int) × (Nat → Int) × (Nat → Int) × (Nat → Int)) (fun r u8 => r = iI (zTo n b rc E 3) ∧ zMset n b rc u8.1 u8.2.1 u8.2.2.1 u8.2.2.2.1 u8.2.2.2.2.1 u8.2.2.2.2.2.1) (fun u9 t9 => va_P D vwCl ((fun u8 => [(M, .inr (3, [.int (iI (th)), .int (iI ((n : Nat) : Int)), .int (iI (rc)), .ref MB, .ref MR, .ref ME, .ref MZ, .int (iI (u8.1)), .int (iI (u8.2.1)), .int (iI (u8.2.2.1)), .ref MT, .int (iI (-1)), .int (iI (-1)), .int (iI (-1)), .int (iI (mu))])), (MB, zArr cI 36 b), (MR, zArr cI 6 u8.2.2.2.1), (ME, zArr cI 6 u8.2.2.2.2.1), (MZ, zArr cI 6 u8.2.2.2.2.2.1), (MT, zArr cI 6 u8.2.2.2.2.2.2)]) u9) t9.heap) A) args s 0 0 A) (F0 m 61 ls []) := by
    intro k0
    induction k0 with
    | zero => intro i hk; exact absurd hk (Nat.not_lt_zero _)
    | succ k0 ih_LS =>
      intro i hk hi H locs hP hD hS ls hl
      refine lv_iload_n hx hb dX3_counted_61 rfl (lv_at hl 3 rfl) ?_
      refine lv_aload_n hx hb dX3_counted_62 rfl (lv_at hl 0 rfl) ?_
      refine va_get (D := D) (ci := 3) (v := .int (iI ((n : Nat) : Int))) (C := RX3) (T := TX3) (N := 15) hx hb hts (by decide +kernel) hown hK hP 0 rfl rfl 1 (by decide) (hts (.fieldLink RX3 38 "RentHarmonyModel" "lodgers" "I") (by decide +kernel)) (fun _ h9 => h9) rfl dX3_counted_63 ?_
      refine zr_icmp_ge (tgt := 84) hx hb dX3_counted_66 (by decide) (zB_of (by omega) (by omega)) (zB_of (by omega) (by omega)) (fun c4 => ?_) (fun c4 => ?_)
      · refine lv_iload_n hx hb dX3_counted_84 rfl (lv_at hl 2 rfl) ?_
        have htt := fun q => zTot_un (rc := rc) hE hst3.2.2.2.1 q
        exact zWi_ret hx hb hr hlocks hS dX3_counted_85 (wo3, wy3, po3, ro3, me3, mq3, mt3) ⟨by rw [show i = n by omega]; exact congrArg iI ((zSum_addc n hmq).trans (htt 3)), hst3⟩ hP
      · refine lv_iload_n hx hb dX3_counted_69 rfl (lv_at hl 2 rfl) ?_
        refine lv_aload_n hx hb dX3_counted_70 rfl (lv_at hl 0 rfl) ?_
        refine va_get (D := D) (ci := 3) (v := .ref MZ) (C := RX3) (T := TX3) (N := 15) hx hb hts (by decide +kernel) hown hK hP 0 rfl rfl 6 (by decide) (hts (.fieldLink RX3 19 "RentHarmonyModel" "rebates" "[I") (by decide +kernel)) (fun _ h9 => h9) rfl dX3_counted_71 ?_
        refine lv_iload_n hx hb dX3_counted_74 rfl (lv_at hl 3 rfl) ?_
        refine zr_iald hx hb hK hP 4 0 rfl rfl (i) (by omega) (by omega) (by omega) dX3_counted_75 ?_
        refine zr_add hx hb dX3_counted_76 ?_
        refine lv_istore_n (lv' := [(2, .int (iI ((zSum mq3 i) + (mq3 (i))))), (0, .ref M), (1, .int (iI ((3 : Nat) : Int))), (3, .int (iI ((i : Nat) : Int)))]) hx hb dX3_counted_77 rfl hl (by decide) rfl (fun ls hl => ?_)
        refine zr_iinc (lv2 := [(3, .int (iI (((i : Nat) : Int) + 1))), (2, .int (iI ((zSum mq3 i) + (mq3 (i))))), (0, .ref M), (1, .int (iI ((3 : Nat) : Int)))]) hx hb dX3_counted_78 hl (k0 := 3) rfl (by decide) rfl (fun ls hl => ?_)
        have hl : lv_has ls 4 [(3, .int (iI ((i + 1 : Nat) : Int))), (2, .int (iI ((zSum mq3 i) + (mq3 (i))))), (0, .ref M), (1, .int (iI ((3 : Nat) : Int)))] := hl
        refine lv_goto (tgt := 61) hx hb dX3_counted_81 (by decide) ?_
        have hl : lv_has ls 4 [(3, .int (iI ((i + 1 : Nat) : Int))), (2, .int (iI (zSum mq3 (i + 1)))), (0, .ref M), (1, .int (iI ((3 : Nat) : Int)))] := by rw [show (zSum mq3 (i + 1)) = ((zSum mq3 i) + (mq3 (i))) from rfl]; exact hl
        exact ih_LS (i + 1) (by omega) (by omega) _ _ hP hD hS _ (lv_sub hl [2, 3, 1, 0] rfl)
  have hl : lv_has ls 4 [(3, .int (iI ((0 : Nat) : Int))), (2, .int (iI (zSum mq3 0))), (0, .ref M), (1, .int (iI ((3 : Nat) : Int)))] := by rw [show (zSum mq3 0) = ((0 : Nat) : Int) from rfl]; exact hl
  exact LS ((n - (0)) + 1) (0) (Nat.lt_succ_self _) (by omega) _ _ hP hD hS _ (lv_sub hl [2, 3, 1, 0] rfl)
set_option maxHeartbeats 4000000 in
set_option maxRecDepth 100000 in
/-- X3_counted -/
theorem c_X3_counted_4 (l : Launch) (D : va_G) (cI : ClassId) (M MB MR ME MZ MT n : Nat) (b mr me mq mt : Nat → Int) (th rc wo wy po mu : Int) (E : Nat → Int) (hn : n ≤ 6) (hb0 : ∀ k, 0 ≤ b k ∧ b k ≤ 999) (hrc : 0 ≤ rc ∧ rc ≤ 5999) (hmu : 0 ≤ mu ∧ mu ≤ 1) (hE : zIsB n (zWt b (zRo n b)) E) : zWi (S := Int × Int × Int × (Nat → Int) × (Nat → Int) × (Nat → Int) × (Nat → Int)) l yX3_counted wsX3_counted 10 234 D cI [.ref M, .int (iI ((4 : Nat) : Int))] [(M, .inr (3, [.int (iI (th)), .int (iI ((n : Nat) : Int)), .int (iI (rc)), .ref MB, .ref MR, .ref ME, .ref MZ, .int (iI (wo)), .int (iI (wy)), .int (iI (po)), .ref MT, .int (iI (-1)), .int (iI (-1)), .int (iI (-1)), .int (iI (mu))])), (MB, zArr cI 36 b), (MR, zArr cI 6 mr), (ME, zArr cI 6 me), (MZ, zArr cI 6 mq), (MT, zArr cI 6 mt)] (fun r u8 => r = iI (zTo n b rc E 4) ∧ zMset n b rc u8.1 u8.2.1 u8.2.2.1 u8.2.2.2.1 u8.2.2.2.2.1 u8.2.2.2.2.2.1) (fun u8 => [(M, .inr (3, [.int (iI (th)), .int (iI ((n : Nat) : Int)), .int (iI (rc)), .ref MB, .ref MR, .ref ME, .ref MZ, .int (iI (u8.1)), .int (iI (u8.2.1)), .int (iI (u8.2.2.1)), .ref MT, .int (iI (-1)), .int (iI (-1)), .int (iI (-1)), .int (iI (mu))])), (MB, zArr cI 36 b), (MR, zArr cI 6 u8.2.2.2.1), (ME, zArr cI 6 u8.2.2.2.2.1), (MZ, zArr cI 6 u8.2.2.2.2.2.1), (MT, zArr cI 6 u8.2.2.2.2.2.2)]) := by
  refine zWi_of (cc := cX3_counted) (maxL := 4) (rt := .int) (by decide) rfl (Nat.le_of_ble_eq_true rfl) ?_
  intro p e s m args below meth c ls A hF hr hlocks hP hK hD hS hl
  have hF : zFix p m c cX3_counted 4 s args wsX3_counted RX3 := hF
  obtain ⟨hx, hb, hml, hown, hts⟩ := id hF
  have hP : va_P D vwCl [(M, .inr (3, [.int (iI (th)), .int (iI ((n : Nat) : Int)), .int (iI (rc)), .ref MB, .ref MR, .ref ME, .ref MZ, .int (iI (wo)), .int (iI (wy)), .int (iI (po)), .ref MT, .int (iI (-1)), .int (iI (-1)), .int (iI (-1)), .int (iI (mu))])), (MB, zArr cI 36 b), (MR, zArr cI 6 mr), (ME, zArr cI 6 me), (MZ, zArr cI 6 mq), (MT, zArr cI 6 mt)] s.heap := hP
  have hD : va_D A [(M, .inr (3, [.int (iI (th)), .int (iI ((n : Nat) : Int)), .int (iI (rc)), .ref MB, .ref MR, .ref ME, .ref MZ, .int (iI (wo)), .int (iI (wy)), .int (iI (po)), .ref MT, .int (iI (-1)), .int (iI (-1)), .int (iI (-1)), .int (iI (mu))])), (MB, zArr cI 36 b), (MR, zArr cI 6 mr), (ME, zArr cI 6 me), (MZ, zArr cI 6 mq), (MT, zArr cI 6 mt)] := hD
  skip
  have hl : lv_has ls 4 [(0, .ref M), (1, .int (iI ((4 : Nat) : Int)))] := hl
  refine lv_aload_n hx hb dX3_counted_0 rfl (lv_at hl 0 rfl) ?_
  refine zc_wv (As := []) (rest := []) hF (c_X3_settle l D cI M MB MR ME MZ MT n b mr me mq mt th rc wo wy po mu (by omega) (by assumption) (by assumption) (by omega)) (cwV 0 hts gX3_counted_X3_settle rfl rfl rfl (by decide +kernel) ⟨Nat.le_of_ble_eq_true rfl, Nat.le_of_ble_eq_true rfl⟩) hK hP hD hS [0, 1, 2, 3, 4, 5] rfl rfl (fun _ => rfl) 0 rfl 0 rfl rfl rfl rfl hl.1 rfl (Nat.le_of_ble_eq_true rfl) dX3_counted_1 ⟨Nat.zero_le _, Nat.zero_le _⟩ (fun u1 H locs hw hP hD hS => ?_)
  obtain ⟨wo3, wy3, po3, ro3, me3, mq3, mt3⟩ := u1
  have hst3 : zMset n b rc wo3 wy3 po3 ro3 me3 mq3 := hw
  have hP : va_P D vwCl [(M, .inr (3, [.int (iI (th)), .int (iI ((n : Nat) : Int)), .int (iI (rc)), .ref MB, .ref MR, .ref ME, .ref MZ, .int (iI (wo3)), .int (iI (wy3)), .int (iI (po3)), .ref MT, .int (iI (-1)), .int (iI (-1)), .int (iI (-1)), .int (iI (mu))])), (MB, zArr cI 36 b), (MR, zArr cI 6 ro3), (ME, zArr cI 6 me3), (MZ, zArr cI 6 mq3), (MT, zArr cI 6 mt3)] H := hP
  have hD : va_D A [(M, .inr (3, [.int (iI (th)), .int (iI ((n : Nat) : Int)), .int (iI (rc)), .ref MB, .ref MR, .ref ME, .ref MZ, .int (iI (wo3)), .int (iI (wy3)), .int (iI (po3)), .ref MT, .int (iI (-1)), .int (iI (-1)), .int (iI (-1)), .int (iI (mu))])), (MB, zArr cI 36 b), (MR, zArr cI 6 ro3), (ME, zArr cI 6 me3), (MZ, zArr cI 6 mq3), (MT, zArr cI 6 mt3)] := hD
  have hro : ∀ j, j < n → ro3 j = ((zRo n b j : Nat) : Int) := hst3.2.2.1
  have hgn := zRo_lt (b := b) hn
  have hmq : ∀ j, j < n → mq3 j = me3 j + (zShare n (zLeft (zWo n b) rc me3 n)) := hst3.2.2.2.2.1
  refine zr_ic (n := ((0 : Nat) : Int)) hx hb dX3_counted_4 ?_
  refine lv_istore_n (lv' := [(2, .int (iI ((0 : Nat) : Int))), (0, .ref M), (1, .int (iI ((4 : Nat) : Int)))]) hx hb dX3_counted_5 rfl hl (by decide) rfl (fun ls hl => ?_)
  refine lv_iload_n hx hb dX3_counted_6 rfl (lv_at hl 2 rfl) ?_
  refine lv_tableIn (off := 79) (tgt := 86) hx hb dX3_counted_7 (by decide) (by decide) (by decide) (by decide) ?_
  refine lv_aload_n hx hb dX3_counted_86 rfl (lv_at hl 1 rfl) ?_
  refine va_get (D := D) (ci := 3) (v := .int (iI (po3))) (C := RX3) (T := TX3) (N := 15) hx hb hts (by decide +kernel) hown hK hP 0 rfl rfl 9 (by decide) (hts (.fieldLink RX3 95 "RentHarmonyModel" "pot" "I") (by decide +kernel)) (fun _ h9 => h9) rfl dX3_counted_87 ?_
  have htt := fun q => zTot_un (rc := rc) hE hst3.2.2.2.1 q
  exact zWi_ret hx hb hr hlocks hS dX3_counted_90 (wo3, wy3, po3, ro3, me3, mq3, mt3) ⟨congrArg iI (hst3.2.2.2.2.2.trans (htt 4)), hst3⟩ hP
set_option maxHeartbeats 4000000 in
set_option maxRecDepth 100000 in
/-- X3_counted -/
theorem c_X3_counted_5 (l : Launch) (D : va_G) (cI : ClassId) (M MB MR ME MZ MT n : Nat) (b mr me mq mt : Nat → Int) (th rc wo wy po mu : Int) (E : Nat → Int) (hn : n ≤ 6) (hb0 : ∀ k, 0 ≤ b k ∧ b k ≤ 999) (hrc : 0 ≤ rc ∧ rc ≤ 5999) (hmu : 0 ≤ mu ∧ mu ≤ 1) (hE : zIsB n (zWt b (zRo n b)) E) : zWi (S := Int × Int × Int × (Nat → Int) × (Nat → Int) × (Nat → Int) × (Nat → Int)) l yX3_counted wsX3_counted 10 234 D cI [.ref M, .int (iI ((5 : Nat) : Int))] [(M, .inr (3, [.int (iI (th)), .int (iI ((n : Nat) : Int)), .int (iI (rc)), .ref MB, .ref MR, .ref ME, .ref MZ, .int (iI (wo)), .int (iI (wy)), .int (iI (po)), .ref MT, .int (iI (-1)), .int (iI (-1)), .int (iI (-1)), .int (iI (mu))])), (MB, zArr cI 36 b), (MR, zArr cI 6 mr), (ME, zArr cI 6 me), (MZ, zArr cI 6 mq), (MT, zArr cI 6 mt)] (fun r u8 => r = iI (zTo n b rc E 5) ∧ zMset n b rc u8.1 u8.2.1 u8.2.2.1 u8.2.2.2.1 u8.2.2.2.2.1 u8.2.2.2.2.2.1) (fun u8 => [(M, .inr (3, [.int (iI (th)), .int (iI ((n : Nat) : Int)), .int (iI (rc)), .ref MB, .ref MR, .ref ME, .ref MZ, .int (iI (u8.1)), .int (iI (u8.2.1)), .int (iI (u8.2.2.1)), .ref MT, .int (iI (-1)), .int (iI (-1)), .int (iI (-1)), .int (iI (mu))])), (MB, zArr cI 36 b), (MR, zArr cI 6 u8.2.2.2.1), (ME, zArr cI 6 u8.2.2.2.2.1), (MZ, zArr cI 6 u8.2.2.2.2.2.1), (MT, zArr cI 6 u8.2.2.2.2.2.2)]) := by
  refine zWi_of (cc := cX3_counted) (maxL := 4) (rt := .int) (by decide) rfl (Nat.le_of_ble_eq_true rfl) ?_
  intro p e s m args below meth c ls A hF hr hlocks hP hK hD hS hl
  have hF : zFix p m c cX3_counted 4 s args wsX3_counted RX3 := hF
  obtain ⟨hx, hb, hml, hown, hts⟩ := id hF
  have hP : va_P D vwCl [(M, .inr (3, [.int (iI (th)), .int (iI ((n : Nat) : Int)), .int (iI (rc)), .ref MB, .ref MR, .ref ME, .ref MZ, .int (iI (wo)), .int (iI (wy)), .int (iI (po)), .ref MT, .int (iI (-1)), .int (iI (-1)), .int (iI (-1)), .int (iI (mu))])), (MB, zArr cI 36 b), (MR, zArr cI 6 mr), (ME, zArr cI 6 me), (MZ, zArr cI 6 mq), (MT, zArr cI 6 mt)] s.heap := hP
  have hD : va_D A [(M, .inr (3, [.int (iI (th)), .int (iI ((n : Nat) : Int)), .int (iI (rc)), .ref MB, .ref MR, .ref ME, .ref MZ, .int (iI (wo)), .int (iI (wy)), .int (iI (po)), .ref MT, .int (iI (-1)), .int (iI (-1)), .int (iI (-1)), .int (iI (mu))])), (MB, zArr cI 36 b), (MR, zArr cI 6 mr), (ME, zArr cI 6 me), (MZ, zArr cI 6 mq), (MT, zArr cI 6 mt)] := hD
  skip
  have hl : lv_has ls 4 [(0, .ref M), (1, .int (iI ((5 : Nat) : Int)))] := hl
  refine lv_aload_n hx hb dX3_counted_0 rfl (lv_at hl 0 rfl) ?_
  refine zc_wv (As := []) (rest := []) hF (c_X3_settle l D cI M MB MR ME MZ MT n b mr me mq mt th rc wo wy po mu (by omega) (by assumption) (by assumption) (by omega)) (cwV 0 hts gX3_counted_X3_settle rfl rfl rfl (by decide +kernel) ⟨Nat.le_of_ble_eq_true rfl, Nat.le_of_ble_eq_true rfl⟩) hK hP hD hS [0, 1, 2, 3, 4, 5] rfl rfl (fun _ => rfl) 0 rfl 0 rfl rfl rfl rfl hl.1 rfl (Nat.le_of_ble_eq_true rfl) dX3_counted_1 ⟨Nat.zero_le _, Nat.zero_le _⟩ (fun u1 H locs hw hP hD hS => ?_)
  obtain ⟨wo3, wy3, po3, ro3, me3, mq3, mt3⟩ := u1
  have hst3 : zMset n b rc wo3 wy3 po3 ro3 me3 mq3 := hw
  have hP : va_P D vwCl [(M, .inr (3, [.int (iI (th)), .int (iI ((n : Nat) : Int)), .int (iI (rc)), .ref MB, .ref MR, .ref ME, .ref MZ, .int (iI (wo3)), .int (iI (wy3)), .int (iI (po3)), .ref MT, .int (iI (-1)), .int (iI (-1)), .int (iI (-1)), .int (iI (mu))])), (MB, zArr cI 36 b), (MR, zArr cI 6 ro3), (ME, zArr cI 6 me3), (MZ, zArr cI 6 mq3), (MT, zArr cI 6 mt3)] H := hP
  have hD : va_D A [(M, .inr (3, [.int (iI (th)), .int (iI ((n : Nat) : Int)), .int (iI (rc)), .ref MB, .ref MR, .ref ME, .ref MZ, .int (iI (wo3)), .int (iI (wy3)), .int (iI (po3)), .ref MT, .int (iI (-1)), .int (iI (-1)), .int (iI (-1)), .int (iI (mu))])), (MB, zArr cI 36 b), (MR, zArr cI 6 ro3), (ME, zArr cI 6 me3), (MZ, zArr cI 6 mq3), (MT, zArr cI 6 mt3)] := hD
  have hro : ∀ j, j < n → ro3 j = ((zRo n b j : Nat) : Int) := hst3.2.2.1
  have hgn := zRo_lt (b := b) hn
  have hmq : ∀ j, j < n → mq3 j = me3 j + (zShare n (zLeft (zWo n b) rc me3 n)) := hst3.2.2.2.2.1
  refine zr_ic (n := ((0 : Nat) : Int)) hx hb dX3_counted_4 ?_
  refine lv_istore_n (lv' := [(2, .int (iI ((0 : Nat) : Int))), (0, .ref M), (1, .int (iI ((5 : Nat) : Int)))]) hx hb dX3_counted_5 rfl hl (by decide) rfl (fun ls hl => ?_)
  refine lv_iload_n hx hb dX3_counted_6 rfl (lv_at hl 2 rfl) ?_
  refine lv_tableIn (off := 84) (tgt := 91) hx hb dX3_counted_7 (by decide) (by decide) (by decide) (by decide) ?_
  refine lv_aload_n hx hb dX3_counted_91 rfl (lv_at hl 1 rfl) ?_
  refine va_get (D := D) (ci := 3) (v := .int (iI (wy3))) (C := RX3) (T := TX3) (N := 15) hx hb hts (by decide +kernel) hown hK hP 0 rfl rfl 8 (by decide) (hts (.fieldLink RX3 67 "RentHarmonyModel" "ways" "I") (by decide +kernel)) (fun _ h9 => h9) rfl dX3_counted_92 ?_
  have htt := fun q => zTot_un (rc := rc) hE hst3.2.2.2.1 q
  exact zWi_ret hx hb hr hlocks hS dX3_counted_95 (wo3, wy3, po3, ro3, me3, mq3, mt3) ⟨congrArg iI hst3.2.1, hst3⟩ hP
set_option maxHeartbeats 4000000 in
set_option maxRecDepth 100000 in
/-- X3_counted -/
theorem c_X3_counted_6 (l : Launch) (D : va_G) (cI : ClassId) (M MB MR ME MZ MT n : Nat) (b mr me mq mt : Nat → Int) (th rc wo wy po mu : Int) (E : Nat → Int) (hn : n ≤ 6) (hb0 : ∀ k, 0 ≤ b k ∧ b k ≤ 999) (hrc : 0 ≤ rc ∧ rc ≤ 5999) (hmu : 0 ≤ mu ∧ mu ≤ 1) (hE : zIsB n (zWt b (zRo n b)) E) : zWi (S := Int × Int × Int × (Nat → Int) × (Nat → Int) × (Nat → Int) × (Nat → Int)) l yX3_counted wsX3_counted 10 234 D cI [.ref M, .int (iI ((6 : Nat) : Int))] [(M, .inr (3, [.int (iI (th)), .int (iI ((n : Nat) : Int)), .int (iI (rc)), .ref MB, .ref MR, .ref ME, .ref MZ, .int (iI (wo)), .int (iI (wy)), .int (iI (po)), .ref MT, .int (iI (-1)), .int (iI (-1)), .int (iI (-1)), .int (iI (mu))])), (MB, zArr cI 36 b), (MR, zArr cI 6 mr), (ME, zArr cI 6 me), (MZ, zArr cI 6 mq), (MT, zArr cI 6 mt)] (fun r u8 => r = iI (zTo n b rc E 6) ∧ zMset n b rc u8.1 u8.2.1 u8.2.2.1 u8.2.2.2.1 u8.2.2.2.2.1 u8.2.2.2.2.2.1) (fun u8 => [(M, .inr (3, [.int (iI (th)), .int (iI ((n : Nat) : Int)), .int (iI (rc)), .ref MB, .ref MR, .ref ME, .ref MZ, .int (iI (u8.1)), .int (iI (u8.2.1)), .int (iI (u8.2.2.1)), .ref MT, .int (iI (-1)), .int (iI (-1)), .int (iI (-1)), .int (iI (mu))])), (MB, zArr cI 36 b), (MR, zArr cI 6 u8.2.2.2.1), (ME, zArr cI 6 u8.2.2.2.2.1), (MZ, zArr cI 6 u8.2.2.2.2.2.1), (MT, zArr cI 6 u8.2.2.2.2.2.2)]) := by
  refine zWi_of (cc := cX3_counted) (maxL := 4) (rt := .int) (by decide) rfl (Nat.le_of_ble_eq_true rfl) ?_
  intro p e s m args below meth c ls A hF hr hlocks hP hK hD hS hl
  have hF : zFix p m c cX3_counted 4 s args wsX3_counted RX3 := hF
  obtain ⟨hx, hb, hml, hown, hts⟩ := id hF
  have hP : va_P D vwCl [(M, .inr (3, [.int (iI (th)), .int (iI ((n : Nat) : Int)), .int (iI (rc)), .ref MB, .ref MR, .ref ME, .ref MZ, .int (iI (wo)), .int (iI (wy)), .int (iI (po)), .ref MT, .int (iI (-1)), .int (iI (-1)), .int (iI (-1)), .int (iI (mu))])), (MB, zArr cI 36 b), (MR, zArr cI 6 mr), (ME, zArr cI 6 me), (MZ, zArr cI 6 mq), (MT, zArr cI 6 mt)] s.heap := hP
  have hD : va_D A [(M, .inr (3, [.int (iI (th)), .int (iI ((n : Nat) : Int)), .int (iI (rc)), .ref MB, .ref MR, .ref ME, .ref MZ, .int (iI (wo)), .int (iI (wy)), .int (iI (po)), .ref MT, .int (iI (-1)), .int (iI (-1)), .int (iI (-1)), .int (iI (mu))])), (MB, zArr cI 36 b), (MR, zArr cI 6 mr), (ME, zArr cI 6 me), (MZ, zArr cI 6 mq), (MT, zArr cI 6 mt)] := hD
  skip
  have hl : lv_has ls 4 [(0, .ref M), (1, .int (iI ((6 : Nat) : Int)))] := hl
  refine lv_aload_n hx hb dX3_counted_0 rfl (lv_at hl 0 rfl) ?_
  refine zc_wv (As := []) (rest := []) hF (c_X3_settle l D cI M MB MR ME MZ MT n b mr me mq mt th rc wo wy po mu (by omega) (by assumption) (by assumption) (by omega)) (cwV 0 hts gX3_counted_X3_settle rfl rfl rfl (by decide +kernel) ⟨Nat.le_of_ble_eq_true rfl, Nat.le_of_ble_eq_true rfl⟩) hK hP hD hS [0, 1, 2, 3, 4, 5] rfl rfl (fun _ => rfl) 0 rfl 0 rfl rfl rfl rfl hl.1 rfl (Nat.le_of_ble_eq_true rfl) dX3_counted_1 ⟨Nat.zero_le _, Nat.zero_le _⟩ (fun u1 H locs hw hP hD hS => ?_)
  obtain ⟨wo3, wy3, po3, ro3, me3, mq3, mt3⟩ := u1
  have hst3 : zMset n b rc wo3 wy3 po3 ro3 me3 mq3 := hw
  have hP : va_P D vwCl [(M, .inr (3, [.int (iI (th)), .int (iI ((n : Nat) : Int)), .int (iI (rc)), .ref MB, .ref MR, .ref ME, .ref MZ, .int (iI (wo3)), .int (iI (wy3)), .int (iI (po3)), .ref MT, .int (iI (-1)), .int (iI (-1)), .int (iI (-1)), .int (iI (mu))])), (MB, zArr cI 36 b), (MR, zArr cI 6 ro3), (ME, zArr cI 6 me3), (MZ, zArr cI 6 mq3), (MT, zArr cI 6 mt3)] H := hP
  have hD : va_D A [(M, .inr (3, [.int (iI (th)), .int (iI ((n : Nat) : Int)), .int (iI (rc)), .ref MB, .ref MR, .ref ME, .ref MZ, .int (iI (wo3)), .int (iI (wy3)), .int (iI (po3)), .ref MT, .int (iI (-1)), .int (iI (-1)), .int (iI (-1)), .int (iI (mu))])), (MB, zArr cI 36 b), (MR, zArr cI 6 ro3), (ME, zArr cI 6 me3), (MZ, zArr cI 6 mq3), (MT, zArr cI 6 mt3)] := hD
  have hro : ∀ j, j < n → ro3 j = ((zRo n b j : Nat) : Int) := hst3.2.2.1
  have hgn := zRo_lt (b := b) hn
  have hmq : ∀ j, j < n → mq3 j = me3 j + (zShare n (zLeft (zWo n b) rc me3 n)) := hst3.2.2.2.2.1
  refine zr_ic (n := ((0 : Nat) : Int)) hx hb dX3_counted_4 ?_
  refine lv_istore_n (lv' := [(2, .int (iI ((0 : Nat) : Int))), (0, .ref M), (1, .int (iI ((6 : Nat) : Int)))]) hx hb dX3_counted_5 rfl hl (by decide) rfl (fun ls hl => ?_)
  refine lv_iload_n hx hb dX3_counted_6 rfl (lv_at hl 2 rfl) ?_
  refine lv_tableOut (tgt := 96) hx hb dX3_counted_7 (by decide) (by decide) ?_
  refine zr_ic (n := ((0 : Nat) : Int)) hx hb dX3_counted_96 ?_
  refine lv_istore_n (lv' := [(3, .int (iI ((0 : Nat) : Int))), (2, .int (iI ((0 : Nat) : Int))), (0, .ref M), (1, .int (iI ((6 : Nat) : Int)))]) hx hb dX3_counted_97 rfl hl (by decide) rfl (fun ls hl => ?_)
  have LP : ∀ (k0 : Nat) (i : Nat), n - i < k0 → (hi : i ≤ n) → ∀ (H : Heap) (locs : List Loc), va_P D vwCl [(M, .inr (3, [.int (iI (th)), .int (iI ((n : Nat) : Int)), .int (iI (rc)), .ref MB, .ref MR, .ref ME, .ref MZ, .int (iI (wo3)), .int (iI (wy3)), .int (iI (po3)), .ref MT, .int (iI (-1)), .int (iI (-1)), .int (iI (-1)), .int (iI (mu))])), (MB, zArr cI 36 b), (MR, zArr cI 6 ro3), (ME, zArr cI 6 me3), (MZ, zArr cI 6 mq3), (MT, zArr cI 6 mt3)] H → va_D A [(M, .inr (3, [.int (iI (th)), .int (iI ((n : Nat) : Int)), .int (iI (rc)), .ref MB, .ref MR, .ref ME, .ref MZ, .int (iI (wo3)), .int (iI (wy3)), .int (iI (po3)), .ref MT, .int (iI (-1)), .int (iI (-1)), .int (iI (-1)), .int (iI (mu))])), (MB, zArr cI 36 b), (MR, zArr cI 6 ro3), (ME, zArr cI 6 me3), (MZ, zArr cI 6 mq3), (MT, zArr cI 6 mt3)] → va_S A s.heap H locs → ∀ (ls : Array Slot), lv_has ls 4 [(0, .ref M), (1, .int (iI ((6 : Nat) : Int))), (2, .int (iI (zSum (zPay b (zRo n b) me3 (zShare n (zLeft (zWo n b) rc me3 n))) i))), (3, .int (iI ((i : Nat) : Int)))] → W p l e (zRm 10 234) s m args below meth c H locs 0 0 (MQ below (va_Qi (S := Int × Int × Int × (Nat → Int) × (Nat → Int) × (Nat → Int) × (Nat → Int)) (fun r u8 => r = iI (zTo n b rc E 6) ∧ zMset n b rc u8.1 u8.2.1 u8.2.2.1 u8.2.2.2.1 u8.2.2.2.2.1 u8.2.2.2.2.2.1) (fun u9 t9 => va_P D vwCl ((fun u8 => [(M, .inr (3, [.int (iI (th)), .int (iI ((n : Nat) : Int)), .int (iI (rc)), .ref MB, .ref MR, .ref ME, .ref MZ, .int (iI (u8.1)), .int (iI (u8.2.1)), .int (iI (u8.2.2.1)), .ref MT, .int (iI (-1)), .int (iI (-1)), .int (iI (-1)), .int (iI (mu))])), (MB, zArr cI 36 b), (MR, zArr cI 6 u8.2.2.2.1), (ME, zArr cI 6 u8.2.2.2.2.1), (MZ, zArr cI 6 u8.2.2.2.2.2.1), (MT, zArr cI 6 u8.2.2.2.2.2.2)]) u9) t9.heap) A) args s 0 0 A) (F0 m 98 ls []) := by
    intro k0
    induction k0 with
    | zero => intro i hk; exact absurd hk (Nat.not_lt_zero _)
    | succ k0 ih_LP =>
      intro i hk hi H locs hP hD hS ls hl
      refine lv_iload_n hx hb dX3_counted_98 rfl (lv_at hl 3 rfl) ?_
      refine lv_aload_n hx hb dX3_counted_99 rfl (lv_at hl 0 rfl) ?_
      refine va_get (D := D) (ci := 3) (v := .int (iI ((n : Nat) : Int))) (C := RX3) (T := TX3) (N := 15) hx hb hts (by decide +kernel) hown hK hP 0 rfl rfl 1 (by decide) (hts (.fieldLink RX3 38 "RentHarmonyModel" "lodgers" "I") (by decide +kernel)) (fun _ h9 => h9) rfl dX3_counted_100 ?_
      refine zr_icmp_ge (tgt := 120) hx hb dX3_counted_103 (by decide) (zB_of (by omega) (by omega)) (zB_of (by omega) (by omega)) (fun c4 => ?_) (fun c4 => ?_)
      · refine lv_iload_n hx hb dX3_counted_120 rfl (lv_at hl 2 rfl) ?_
        have htt := fun q => zTot_un (rc := rc) hE hst3.2.2.2.1 q
        exact zWi_ret hx hb hr hlocks hS dX3_counted_121 (wo3, wy3, po3, ro3, me3, mq3, mt3) ⟨by rw [show i = n by omega]; exact congrArg iI (htt 6), hst3⟩ hP
      · refine lv_iload_n hx hb dX3_counted_106 rfl (lv_at hl 2 rfl) ?_
        refine lv_aload_n hx hb dX3_counted_107 rfl (lv_at hl 0 rfl) ?_
        refine lv_iload_n hx hb dX3_counted_108 rfl (lv_at hl 3 rfl) ?_
        refine zc_ri (As := [.int (iI ((i : Nat) : Int))]) (rest := [.int (iI (zSum (zPay b (zRo n b) me3 (zShare n (zLeft (zWo n b) rc me3 n))) i))]) hF (c_X3_pays l D cI M MB MR ME MZ MT n b ro3 me3 mq3 mt3 th rc wo3 wy3 po3 (-1) (-1) (-1) mu (zRo n b) (zShare n (zLeft (zWo n b) rc me3 n)) i (by omega) (by assumption) (by assumption) (by assumption) (by assumption) (by omega)) (cwV 1 hts gX3_counted_X3_pays rfl rfl rfl (by decide +kernel) ⟨Nat.le_of_ble_eq_true rfl, Nat.le_of_ble_eq_true rfl⟩) hK hP [0, 1, 2, 3, 4, 5] rfl 0 rfl 0 rfl rfl rfl rfl hl.1 rfl (Nat.le_of_ble_eq_true rfl) dX3_counted_109 ⟨Nat.zero_le _, Nat.zero_le _⟩ ?_
        refine zr_add hx hb dX3_counted_112 ?_
        refine lv_istore_n (lv' := [(2, .int (iI ((zSum (zPay b (zRo n b) me3 (zShare n (zLeft (zWo n b) rc me3 n))) i) + (zPay b (zRo n b) me3 (zShare n (zLeft (zWo n b) rc me3 n)) i)))), (0, .ref M), (1, .int (iI ((6 : Nat) : Int))), (3, .int (iI ((i : Nat) : Int)))]) hx hb dX3_counted_113 rfl hl (by decide) rfl (fun ls hl => ?_)
        refine zr_iinc (lv2 := [(3, .int (iI (((i : Nat) : Int) + 1))), (2, .int (iI ((zSum (zPay b (zRo n b) me3 (zShare n (zLeft (zWo n b) rc me3 n))) i) + (zPay b (zRo n b) me3 (zShare n (zLeft (zWo n b) rc me3 n)) i)))), (0, .ref M), (1, .int (iI ((6 : Nat) : Int)))]) hx hb dX3_counted_114 hl (k0 := 3) rfl (by decide) rfl (fun ls hl => ?_)
        have hl : lv_has ls 4 [(3, .int (iI ((i + 1 : Nat) : Int))), (2, .int (iI ((zSum (zPay b (zRo n b) me3 (zShare n (zLeft (zWo n b) rc me3 n))) i) + (zPay b (zRo n b) me3 (zShare n (zLeft (zWo n b) rc me3 n)) i)))), (0, .ref M), (1, .int (iI ((6 : Nat) : Int)))] := hl
        refine lv_goto (tgt := 98) hx hb dX3_counted_117 (by decide) ?_
        have hl : lv_has ls 4 [(3, .int (iI ((i + 1 : Nat) : Int))), (2, .int (iI (zSum (zPay b (zRo n b) me3 (zShare n (zLeft (zWo n b) rc me3 n))) (i + 1)))), (0, .ref M), (1, .int (iI ((6 : Nat) : Int)))] := by rw [show (zSum (zPay b (zRo n b) me3 (zShare n (zLeft (zWo n b) rc me3 n))) (i + 1)) = ((zSum (zPay b (zRo n b) me3 (zShare n (zLeft (zWo n b) rc me3 n))) i) + (zPay b (zRo n b) me3 (zShare n (zLeft (zWo n b) rc me3 n)) i)) from rfl]; exact hl
        exact ih_LP (i + 1) (by omega) (by omega) _ _ hP hD hS _ (lv_sub hl [2, 3, 1, 0] rfl)
  have hl : lv_has ls 4 [(3, .int (iI ((0 : Nat) : Int))), (2, .int (iI (zSum (zPay b (zRo n b) me3 (zShare n (zLeft (zWo n b) rc me3 n))) 0))), (0, .ref M), (1, .int (iI ((6 : Nat) : Int)))] := by rw [show (zSum (zPay b (zRo n b) me3 (zShare n (zLeft (zWo n b) rc me3 n))) 0) = ((0 : Nat) : Int) from rfl]; exact hl
  exact LP ((n - (0)) + 1) (0) (Nat.lt_succ_self _) (by omega) _ _ hP hD hS _ (lv_sub hl [2, 3, 1, 0] rfl)
theorem c_X3_counted (l : Launch) (D : va_G) (cI : ClassId) (M MB MR ME MZ MT n : Nat) (b mr me mq mt : Nat → Int) (th rc wo wy po mu : Int) (E : Nat → Int) (w : Nat) (hn : n ≤ 6) (hb0 : ∀ k, 0 ≤ b k ∧ b k ≤ 999) (hrc : 0 ≤ rc ∧ rc ≤ 5999) (hmu : 0 ≤ mu ∧ mu ≤ 1) (hE : zIsB n (zWt b (zRo n b)) E) (hw : w < 7) : zWi (S := Int × Int × Int × (Nat → Int) × (Nat → Int) × (Nat → Int) × (Nat → Int)) l yX3_counted wsX3_counted 10 234 D cI [.ref M, .int (iI ((w : Nat) : Int))] [(M, .inr (3, [.int (iI (th)), .int (iI ((n : Nat) : Int)), .int (iI (rc)), .ref MB, .ref MR, .ref ME, .ref MZ, .int (iI (wo)), .int (iI (wy)), .int (iI (po)), .ref MT, .int (iI (-1)), .int (iI (-1)), .int (iI (-1)), .int (iI (mu))])), (MB, zArr cI 36 b), (MR, zArr cI 6 mr), (ME, zArr cI 6 me), (MZ, zArr cI 6 mq), (MT, zArr cI 6 mt)] (fun r u8 => r = iI (zTo n b rc E w) ∧ zMset n b rc u8.1 u8.2.1 u8.2.2.1 u8.2.2.2.1 u8.2.2.2.2.1 u8.2.2.2.2.2.1) (fun u8 => [(M, .inr (3, [.int (iI (th)), .int (iI ((n : Nat) : Int)), .int (iI (rc)), .ref MB, .ref MR, .ref ME, .ref MZ, .int (iI (u8.1)), .int (iI (u8.2.1)), .int (iI (u8.2.2.1)), .ref MT, .int (iI (-1)), .int (iI (-1)), .int (iI (-1)), .int (iI (mu))])), (MB, zArr cI 36 b), (MR, zArr cI 6 u8.2.2.2.1), (ME, zArr cI 6 u8.2.2.2.2.1), (MZ, zArr cI 6 u8.2.2.2.2.2.1), (MT, zArr cI 6 u8.2.2.2.2.2.2)]) := by
  rcases (show w = 0 ∨ w = 1 ∨ w = 2 ∨ w = 3 ∨ w = 4 ∨ w = 5 ∨ w = 6 by omega) with rfl | rfl | rfl | rfl | rfl | rfl | rfl
  · exact c_X3_counted_0 l D cI M MB MR ME MZ MT n b mr me mq mt th rc wo wy po mu E hn hb0 hrc hmu hE
  · exact c_X3_counted_1 l D cI M MB MR ME MZ MT n b mr me mq mt th rc wo wy po mu E hn hb0 hrc hmu hE
  · exact c_X3_counted_2 l D cI M MB MR ME MZ MT n b mr me mq mt th rc wo wy po mu E hn hb0 hrc hmu hE
  · exact c_X3_counted_3 l D cI M MB MR ME MZ MT n b mr me mq mt th rc wo wy po mu E hn hb0 hrc hmu hE
  · exact c_X3_counted_4 l D cI M MB MR ME MZ MT n b mr me mq mt th rc wo wy po mu E hn hb0 hrc hmu hE
  · exact c_X3_counted_5 l D cI M MB MR ME MZ MT n b mr me mq mt th rc wo wy po mu E hn hb0 hrc hmu hE
  · exact c_X3_counted_6 l D cI M MB MR ME MZ MT n b mr me mq mt th rc wo wy po mu E hn hb0 hrc hmu hE
set_option maxHeartbeats 4000000 in
set_option maxRecDepth 100000 in
/-- X3_chainFrom -/
theorem c_X3_chainFrom_1 (l : Launch) (D : va_G) (cI : ClassId) (M MB MR ME MZ MT n : Nat) (b mr me mq mt : Nat → Int) (th rc wo wy po fe wh wi mu : Int) (g : Nat → Nat) (L : Nat → Int) (j : Nat) (hn : n ≤ 6) (hb0 : ∀ k, 0 ≤ b k ∧ b k ≤ 999) (hro : ∀ j, j < n → mr j = ((g j : Nat) : Int)) (hgn : ∀ j, j < n → g j < n) (hL : zIsL n b g L) (hj : j < n) (hq : L j ≤ 1) : zRi l yX3_chainFrom wsX3_chainFrom 2 44 D cI [.ref M, .int (iI ((j : Nat) : Int))] [(M, .inr (3, [.int (iI (th)), .int (iI ((n : Nat) : Int)), .int (iI (rc)), .ref MB, .ref MR, .ref ME, .ref MZ, .int (iI (wo)), .int (iI (wy)), .int (iI (po)), .ref MT, .int (iI (fe)), .int (iI (wh)), .int (iI (wi)), .int (iI (mu))])), (MB, zArr cI 36 b), (MR, zArr cI 6 mr), (ME, zArr cI 6 me), (MZ, zArr cI 6 mq), (MT, zArr cI 6 mt)] (iI (L j)) := by
  refine zRi_of (cc := cX3_chainFrom) (maxL := 4) (rt := .int) (by decide) rfl (Nat.le_of_ble_eq_true rfl) ?_
  intro p e s m args below meth c ls hF hr hlocks hP hK hl
  have hF : zFix p m c cX3_chainFrom 4 s args wsX3_chainFrom RX3 := hF
  obtain ⟨hx, hb, hml, hown, hts⟩ := id hF
  have hP : va_P D vwCl [(M, .inr (3, [.int (iI (th)), .int (iI ((n : Nat) : Int)), .int (iI (rc)), .ref MB, .ref MR, .ref ME, .ref MZ, .int (iI (wo)), .int (iI (wy)), .int (iI (po)), .ref MT, .int (iI (fe)), .int (iI (wh)), .int (iI (wi)), .int (iI (mu))])), (MB, zArr cI 36 b), (MR, zArr cI 6 mr), (ME, zArr cI 6 me), (MZ, zArr cI 6 mq), (MT, zArr cI 6 mt)] s.heap := hP
  have hl : lv_has ls 4 [(0, .ref M), (1, .int (iI ((j : Nat) : Int)))] := hl
  refine zr_ic (n := ((0 : Nat) : Int)) hx hb dX3_chainFrom_0 ?_
  refine lv_istore_n (lv' := [(2, .int (iI ((0 : Nat) : Int))), (0, .ref M), (1, .int (iI ((j : Nat) : Int)))]) hx hb dX3_chainFrom_1 rfl hl (by decide) rfl (fun ls hl => ?_)
  refine zr_ic (n := ((0 : Nat) : Int)) hx hb dX3_chainFrom_2 ?_
  refine lv_istore_n (lv' := [(3, .int (iI ((0 : Nat) : Int))), (2, .int (iI ((0 : Nat) : Int))), (0, .ref M), (1, .int (iI ((j : Nat) : Int)))]) hx hb dX3_chainFrom_3 rfl hl (by decide) rfl (fun ls hl => ?_)
  have LC : ∀ (k0 : Nat) (i : Nat), n - i < k0 → (hi : i ≤ n) → ∀ (ls : Array Slot), lv_has ls 4 [(0, .ref M), (1, .int (iI ((j : Nat) : Int))), (2, .int (iI (zCf b g L j i))), (3, .int (iI ((i : Nat) : Int)))] → W p l e (zRm 2 44) s m args below meth c s.heap [] 0 0 (MQ below (vp_Si (fun x => x = (iI (L j)))) args s 0 0 (fun _ => False)) (F0 m 4 ls []) := by
    intro k0
    induction k0 with
    | zero => intro i hk; exact absurd hk (Nat.not_lt_zero _)
    | succ k0 ih_LC =>
      intro i hk hi ls hl
      refine lv_iload_n hx hb dX3_chainFrom_4 rfl (lv_at hl 3 rfl) ?_
      refine lv_aload_n hx hb dX3_chainFrom_5 rfl (lv_at hl 0 rfl) ?_
      refine va_get (D := D) (ci := 3) (v := .int (iI ((n : Nat) : Int))) (C := RX3) (T := TX3) (N := 15) hx hb hts (by decide +kernel) hown hK hP 0 rfl rfl 1 (by decide) (hts (.fieldLink RX3 38 "RentHarmonyModel" "lodgers" "I") (by decide +kernel)) (fun _ h9 => h9) rfl dX3_chainFrom_6 ?_
      refine zr_icmp_ge (tgt := 37) hx hb dX3_chainFrom_9 (by decide) (zB_of (by omega) (by omega)) (zB_of (by omega) (by omega)) (fun c1 => ?_) (fun c1 => ?_)
      · have e9 : i = n := by omega
        refine lv_iload_n hx hb dX3_chainFrom_37 rfl (lv_at hl 2 rfl) ?_
        refine zr_ic (n := ((1 : Nat) : Int)) hx hb dX3_chainFrom_38 ?_
        refine zr_add hx hb dX3_chainFrom_39 ?_
        exact zRi_ret hx hb hr hlocks dX3_chainFrom_40 (by rw [e9]; exact congrArg iI (zCf_L hL hj))
      · refine lv_aload_n hx hb dX3_chainFrom_12 rfl (lv_at hl 0 rfl) ?_
        refine lv_iload_n hx hb dX3_chainFrom_13 rfl (lv_at hl 1 rfl) ?_
        refine lv_iload_n hx hb dX3_chainFrom_14 rfl (lv_at hl 3 rfl) ?_
        refine zc_ri (As := [.int (iI ((j : Nat) : Int)), .int (iI ((i : Nat) : Int))]) (rest := []) hF (c_X3_isEnvy l D cI M MB MR ME MZ MT n b mr me mq mt th rc wo wy po fe wh wi mu g j i (by omega) (by assumption) (by assumption) (by assumption) (by omega) (by omega)) (cwV 2 hts gX3_chainFrom_X3_isEnvy rfl rfl rfl (by decide +kernel) ⟨Nat.le_of_ble_eq_true rfl, Nat.le_of_ble_eq_true rfl⟩) hK hP [0, 1, 2, 3, 4, 5] rfl 0 rfl 0 rfl rfl rfl rfl hl.1 rfl (Nat.le_of_ble_eq_true rfl) dX3_chainFrom_15 ⟨Nat.zero_le _, Nat.zero_le _⟩ ?_
        refine zr_ifB_eq (tgt := 31) hx hb dX3_chainFrom_18 (by decide)  (fun c2 => ?_) (fun c2 => ?_)
        · refine zr_iinc (lv2 := [(3, .int (iI (((i : Nat) : Int) + 1))), (0, .ref M), (1, .int (iI ((j : Nat) : Int))), (2, .int (iI (zCf b g L j i)))]) hx hb dX3_chainFrom_31 hl (k0 := 3) rfl (by decide) rfl (fun ls hl => ?_)
          have hl : lv_has ls 4 [(3, .int (iI ((i + 1 : Nat) : Int))), (0, .ref M), (1, .int (iI ((j : Nat) : Int))), (2, .int (iI (zCf b g L j i)))] := hl
          refine lv_goto (tgt := 4) hx hb dX3_chainFrom_34 (by decide) ?_
          have hl : lv_has ls 4 [(3, .int (iI ((i + 1 : Nat) : Int))), (0, .ref M), (1, .int (iI ((j : Nat) : Int))), (2, .int (iI (zCf b g L j (i + 1))))] := by rw [show (zCf b g L j (i + 1)) = (zCf b g L j i) from by show (if zEn b g j i then max (zCf b g L j i) (L i) else zCf b g L j i) = _; exact if_neg c2]; exact hl
          exact ih_LC (i + 1) (by omega) (by omega) _ (lv_sub hl [1, 2, 3, 0] rfl)
        · exact absurd (hL.2.1 j i hj (by omega) c2) (by have := (hL.1 i (by omega)).1; omega)
  have hl : lv_has ls 4 [(3, .int (iI ((0 : Nat) : Int))), (2, .int (iI (zCf b g L j 0))), (0, .ref M), (1, .int (iI ((j : Nat) : Int)))] := by rw [show (zCf b g L j 0) = ((0 : Nat) : Int) from rfl]; exact hl
  exact LC ((n - (0)) + 1) (0) (Nat.lt_succ_self _) (by omega) _ (lv_sub hl [2, 3, 1, 0] rfl)
set_option maxHeartbeats 4000000 in
set_option maxRecDepth 100000 in
/-- X3_chainFrom -/
theorem c_X3_chainFrom_2 (l : Launch) (D : va_G) (cI : ClassId) (M MB MR ME MZ MT n : Nat) (b mr me mq mt : Nat → Int) (th rc wo wy po fe wh wi mu : Int) (g : Nat → Nat) (L : Nat → Int) (j : Nat) (hn : n ≤ 6) (hb0 : ∀ k, 0 ≤ b k ∧ b k ≤ 999) (hro : ∀ j, j < n → mr j = ((g j : Nat) : Int)) (hgn : ∀ j, j < n → g j < n) (hL : zIsL n b g L) (hj : j < n) (hq : L j ≤ 2) : zRi l yX3_chainFrom wsX3_chainFrom 3 67 D cI [.ref M, .int (iI ((j : Nat) : Int))] [(M, .inr (3, [.int (iI (th)), .int (iI ((n : Nat) : Int)), .int (iI (rc)), .ref MB, .ref MR, .ref ME, .ref MZ, .int (iI (wo)), .int (iI (wy)), .int (iI (po)), .ref MT, .int (iI (fe)), .int (iI (wh)), .int (iI (wi)), .int (iI (mu))])), (MB, zArr cI 36 b), (MR, zArr cI 6 mr), (ME, zArr cI 6 me), (MZ, zArr cI 6 mq), (MT, zArr cI 6 mt)] (iI (L j)) := by
  refine zRi_of (cc := cX3_chainFrom) (maxL := 4) (rt := .int) (by decide) rfl (Nat.le_of_ble_eq_true rfl) ?_
  intro p e s m args below meth c ls hF hr hlocks hP hK hl
  have hF : zFix p m c cX3_chainFrom 4 s args wsX3_chainFrom RX3 := hF
  obtain ⟨hx, hb, hml, hown, hts⟩ := id hF
  have hP : va_P D vwCl [(M, .inr (3, [.int (iI (th)), .int (iI ((n : Nat) : Int)), .int (iI (rc)), .ref MB, .ref MR, .ref ME, .ref MZ, .int (iI (wo)), .int (iI (wy)), .int (iI (po)), .ref MT, .int (iI (fe)), .int (iI (wh)), .int (iI (wi)), .int (iI (mu))])), (MB, zArr cI 36 b), (MR, zArr cI 6 mr), (ME, zArr cI 6 me), (MZ, zArr cI 6 mq), (MT, zArr cI 6 mt)] s.heap := hP
  have hl : lv_has ls 4 [(0, .ref M), (1, .int (iI ((j : Nat) : Int)))] := hl
  refine zr_ic (n := ((0 : Nat) : Int)) hx hb dX3_chainFrom_0 ?_
  refine lv_istore_n (lv' := [(2, .int (iI ((0 : Nat) : Int))), (0, .ref M), (1, .int (iI ((j : Nat) : Int)))]) hx hb dX3_chainFrom_1 rfl hl (by decide) rfl (fun ls hl => ?_)
  refine zr_ic (n := ((0 : Nat) : Int)) hx hb dX3_chainFrom_2 ?_
  refine lv_istore_n (lv' := [(3, .int (iI ((0 : Nat) : Int))), (2, .int (iI ((0 : Nat) : Int))), (0, .ref M), (1, .int (iI ((j : Nat) : Int)))]) hx hb dX3_chainFrom_3 rfl hl (by decide) rfl (fun ls hl => ?_)
  have LC : ∀ (k0 : Nat) (i : Nat), n - i < k0 → (hi : i ≤ n) → ∀ (ls : Array Slot), lv_has ls 4 [(0, .ref M), (1, .int (iI ((j : Nat) : Int))), (2, .int (iI (zCf b g L j i))), (3, .int (iI ((i : Nat) : Int)))] → W p l e (zRm 3 67) s m args below meth c s.heap [] 0 0 (MQ below (vp_Si (fun x => x = (iI (L j)))) args s 0 0 (fun _ => False)) (F0 m 4 ls []) := by
    intro k0
    induction k0 with
    | zero => intro i hk; exact absurd hk (Nat.not_lt_zero _)
    | succ k0 ih_LC =>
      intro i hk hi ls hl
      refine lv_iload_n hx hb dX3_chainFrom_4 rfl (lv_at hl 3 rfl) ?_
      refine lv_aload_n hx hb dX3_chainFrom_5 rfl (lv_at hl 0 rfl) ?_
      refine va_get (D := D) (ci := 3) (v := .int (iI ((n : Nat) : Int))) (C := RX3) (T := TX3) (N := 15) hx hb hts (by decide +kernel) hown hK hP 0 rfl rfl 1 (by decide) (hts (.fieldLink RX3 38 "RentHarmonyModel" "lodgers" "I") (by decide +kernel)) (fun _ h9 => h9) rfl dX3_chainFrom_6 ?_
      refine zr_icmp_ge (tgt := 37) hx hb dX3_chainFrom_9 (by decide) (zB_of (by omega) (by omega)) (zB_of (by omega) (by omega)) (fun c1 => ?_) (fun c1 => ?_)
      · have e9 : i = n := by omega
        refine lv_iload_n hx hb dX3_chainFrom_37 rfl (lv_at hl 2 rfl) ?_
        refine zr_ic (n := ((1 : Nat) : Int)) hx hb dX3_chainFrom_38 ?_
        refine zr_add hx hb dX3_chainFrom_39 ?_
        exact zRi_ret hx hb hr hlocks dX3_chainFrom_40 (by rw [e9]; exact congrArg iI (zCf_L hL hj))
      · refine lv_aload_n hx hb dX3_chainFrom_12 rfl (lv_at hl 0 rfl) ?_
        refine lv_iload_n hx hb dX3_chainFrom_13 rfl (lv_at hl 1 rfl) ?_
        refine lv_iload_n hx hb dX3_chainFrom_14 rfl (lv_at hl 3 rfl) ?_
        refine zc_ri (As := [.int (iI ((j : Nat) : Int)), .int (iI ((i : Nat) : Int))]) (rest := []) hF (c_X3_isEnvy l D cI M MB MR ME MZ MT n b mr me mq mt th rc wo wy po fe wh wi mu g j i (by omega) (by assumption) (by assumption) (by assumption) (by omega) (by omega)) (cwV 2 hts gX3_chainFrom_X3_isEnvy rfl rfl rfl (by decide +kernel) ⟨Nat.le_of_ble_eq_true rfl, Nat.le_of_ble_eq_true rfl⟩) hK hP [0, 1, 2, 3, 4, 5] rfl 0 rfl 0 rfl rfl rfl rfl hl.1 rfl (Nat.le_of_ble_eq_true rfl) dX3_chainFrom_15 ⟨Nat.zero_le _, Nat.zero_le _⟩ ?_
        refine zr_ifB_eq (tgt := 31) hx hb dX3_chainFrom_18 (by decide)  (fun c2 => ?_) (fun c2 => ?_)
        · refine zr_iinc (lv2 := [(3, .int (iI (((i : Nat) : Int) + 1))), (0, .ref M), (1, .int (iI ((j : Nat) : Int))), (2, .int (iI (zCf b g L j i)))]) hx hb dX3_chainFrom_31 hl (k0 := 3) rfl (by decide) rfl (fun ls hl => ?_)
          have hl : lv_has ls 4 [(3, .int (iI ((i + 1 : Nat) : Int))), (0, .ref M), (1, .int (iI ((j : Nat) : Int))), (2, .int (iI (zCf b g L j i)))] := hl
          refine lv_goto (tgt := 4) hx hb dX3_chainFrom_34 (by decide) ?_
          have hl : lv_has ls 4 [(3, .int (iI ((i + 1 : Nat) : Int))), (0, .ref M), (1, .int (iI ((j : Nat) : Int))), (2, .int (iI (zCf b g L j (i + 1))))] := by rw [show (zCf b g L j (i + 1)) = (zCf b g L j i) from by show (if zEn b g j i then max (zCf b g L j i) (L i) else zCf b g L j i) = _; exact if_neg c2]; exact hl
          exact ih_LC (i + 1) (by omega) (by omega) _ (lv_sub hl [1, 2, 3, 0] rfl)
        · have hm1 := zCf_le (b := b) (g := g) (L := L) (a := j) (M := 10) (by decide) i (fun c hc _ => by have := (hL.1 c (by omega)).2; omega)
          have hm2 := hL.1 i (by omega)
          have hm3 := hL.2.1 j i hj (by omega) c2
          refine lv_iload_n hx hb dX3_chainFrom_21 rfl (lv_at hl 2 rfl) ?_
          refine lv_aload_n hx hb dX3_chainFrom_22 rfl (lv_at hl 0 rfl) ?_
          refine lv_iload_n hx hb dX3_chainFrom_23 rfl (lv_at hl 3 rfl) ?_
          refine zc_ri (As := [.int (iI ((i : Nat) : Int))]) (rest := [.int (iI (zCf b g L j i))]) hF (c_X3_chainFrom_1 l D cI M MB MR ME MZ MT n b mr me mq mt th rc wo wy po fe wh wi mu g L i (by omega) (by assumption) (by assumption) (by assumption) (by assumption) (by omega) (by omega)) (cwV 1 hts gX3_chainFrom_X3_chainFrom rfl rfl rfl (by decide +kernel) ⟨Nat.le_of_ble_eq_true rfl, Nat.le_of_ble_eq_true rfl⟩) hK hP [0, 1, 2, 3, 4, 5] rfl 0 rfl 0 rfl rfl rfl rfl hl.1 rfl (Nat.le_of_ble_eq_true rfl) dX3_chainFrom_24 ⟨Nat.zero_le _, Nat.zero_le _⟩ ?_
          refine zr_max (rest := []) hx hb (hml.trans hl.1.symm) hown (hts (.methodLink RX3 116 Lib.Math.max.name) (by decide +kernel)) (hts (.static Lib.Math.max.name) (by decide +kernel)) (hts (.initialized "java/lang/Math") (by decide +kernel)) (hts (.code Lib.Math.max.name Lib.Math.max.code 2 (some .int)) (by decide +kernel)) (Nat.le_of_ble_eq_true rfl) (Nat.le_of_ble_eq_true rfl) (Nat.zero_le _) (Nat.zero_le _) (zB_of (by omega) (by omega)) (zB_of (by omega) (by omega)) dX3_chainFrom_27 ?_
          refine lv_istore_n (lv' := [(2, .int (iI (max (zCf b g L j i) (L i)))), (0, .ref M), (1, .int (iI ((j : Nat) : Int))), (3, .int (iI ((i : Nat) : Int)))]) hx hb dX3_chainFrom_30 rfl hl (by decide) rfl (fun ls hl => ?_)
          refine zr_iinc (lv2 := [(3, .int (iI (((i : Nat) : Int) + 1))), (2, .int (iI (max (zCf b g L j i) (L i)))), (0, .ref M), (1, .int (iI ((j : Nat) : Int)))]) hx hb dX3_chainFrom_31 hl (k0 := 3) rfl (by decide) rfl (fun ls hl => ?_)
          have hl : lv_has ls 4 [(3, .int (iI ((i + 1 : Nat) : Int))), (2, .int (iI (max (zCf b g L j i) (L i)))), (0, .ref M), (1, .int (iI ((j : Nat) : Int)))] := hl
          refine lv_goto (tgt := 4) hx hb dX3_chainFrom_34 (by decide) ?_
          have hl : lv_has ls 4 [(3, .int (iI ((i + 1 : Nat) : Int))), (2, .int (iI (zCf b g L j (i + 1)))), (0, .ref M), (1, .int (iI ((j : Nat) : Int)))] := by rw [show (zCf b g L j (i + 1)) = (max (zCf b g L j i) (L i)) from by show (if zEn b g j i then max (zCf b g L j i) (L i) else zCf b g L j i) = _; exact if_pos c2]; exact hl
          exact ih_LC (i + 1) (by omega) (by omega) _ (lv_sub hl [2, 3, 1, 0] rfl)
  have hl : lv_has ls 4 [(3, .int (iI ((0 : Nat) : Int))), (2, .int (iI (zCf b g L j 0))), (0, .ref M), (1, .int (iI ((j : Nat) : Int)))] := by rw [show (zCf b g L j 0) = ((0 : Nat) : Int) from rfl]; exact hl
  exact LC ((n - (0)) + 1) (0) (Nat.lt_succ_self _) (by omega) _ (lv_sub hl [2, 3, 1, 0] rfl)
set_option maxHeartbeats 4000000 in
set_option maxRecDepth 100000 in
/-- X3_chainFrom -/
theorem c_X3_chainFrom_3 (l : Launch) (D : va_G) (cI : ClassId) (M MB MR ME MZ MT n : Nat) (b mr me mq mt : Nat → Int) (th rc wo wy po fe wh wi mu : Int) (g : Nat → Nat) (L : Nat → Int) (j : Nat) (hn : n ≤ 6) (hb0 : ∀ k, 0 ≤ b k ∧ b k ≤ 999) (hro : ∀ j, j < n → mr j = ((g j : Nat) : Int)) (hgn : ∀ j, j < n → g j < n) (hL : zIsL n b g L) (hj : j < n) (hq : L j ≤ 3) : zRi l yX3_chainFrom wsX3_chainFrom 4 90 D cI [.ref M, .int (iI ((j : Nat) : Int))] [(M, .inr (3, [.int (iI (th)), .int (iI ((n : Nat) : Int)), .int (iI (rc)), .ref MB, .ref MR, .ref ME, .ref MZ, .int (iI (wo)), .int (iI (wy)), .int (iI (po)), .ref MT, .int (iI (fe)), .int (iI (wh)), .int (iI (wi)), .int (iI (mu))])), (MB, zArr cI 36 b), (MR, zArr cI 6 mr), (ME, zArr cI 6 me), (MZ, zArr cI 6 mq), (MT, zArr cI 6 mt)] (iI (L j)) := by
  refine zRi_of (cc := cX3_chainFrom) (maxL := 4) (rt := .int) (by decide) rfl (Nat.le_of_ble_eq_true rfl) ?_
  intro p e s m args below meth c ls hF hr hlocks hP hK hl
  have hF : zFix p m c cX3_chainFrom 4 s args wsX3_chainFrom RX3 := hF
  obtain ⟨hx, hb, hml, hown, hts⟩ := id hF
  have hP : va_P D vwCl [(M, .inr (3, [.int (iI (th)), .int (iI ((n : Nat) : Int)), .int (iI (rc)), .ref MB, .ref MR, .ref ME, .ref MZ, .int (iI (wo)), .int (iI (wy)), .int (iI (po)), .ref MT, .int (iI (fe)), .int (iI (wh)), .int (iI (wi)), .int (iI (mu))])), (MB, zArr cI 36 b), (MR, zArr cI 6 mr), (ME, zArr cI 6 me), (MZ, zArr cI 6 mq), (MT, zArr cI 6 mt)] s.heap := hP
  have hl : lv_has ls 4 [(0, .ref M), (1, .int (iI ((j : Nat) : Int)))] := hl
  refine zr_ic (n := ((0 : Nat) : Int)) hx hb dX3_chainFrom_0 ?_
  refine lv_istore_n (lv' := [(2, .int (iI ((0 : Nat) : Int))), (0, .ref M), (1, .int (iI ((j : Nat) : Int)))]) hx hb dX3_chainFrom_1 rfl hl (by decide) rfl (fun ls hl => ?_)
  refine zr_ic (n := ((0 : Nat) : Int)) hx hb dX3_chainFrom_2 ?_
  refine lv_istore_n (lv' := [(3, .int (iI ((0 : Nat) : Int))), (2, .int (iI ((0 : Nat) : Int))), (0, .ref M), (1, .int (iI ((j : Nat) : Int)))]) hx hb dX3_chainFrom_3 rfl hl (by decide) rfl (fun ls hl => ?_)
  have LC : ∀ (k0 : Nat) (i : Nat), n - i < k0 → (hi : i ≤ n) → ∀ (ls : Array Slot), lv_has ls 4 [(0, .ref M), (1, .int (iI ((j : Nat) : Int))), (2, .int (iI (zCf b g L j i))), (3, .int (iI ((i : Nat) : Int)))] → W p l e (zRm 4 90) s m args below meth c s.heap [] 0 0 (MQ below (vp_Si (fun x => x = (iI (L j)))) args s 0 0 (fun _ => False)) (F0 m 4 ls []) := by
    intro k0
    induction k0 with
    | zero => intro i hk; exact absurd hk (Nat.not_lt_zero _)
    | succ k0 ih_LC =>
      intro i hk hi ls hl
      refine lv_iload_n hx hb dX3_chainFrom_4 rfl (lv_at hl 3 rfl) ?_
      refine lv_aload_n hx hb dX3_chainFrom_5 rfl (lv_at hl 0 rfl) ?_
      refine va_get (D := D) (ci := 3) (v := .int (iI ((n : Nat) : Int))) (C := RX3) (T := TX3) (N := 15) hx hb hts (by decide +kernel) hown hK hP 0 rfl rfl 1 (by decide) (hts (.fieldLink RX3 38 "RentHarmonyModel" "lodgers" "I") (by decide +kernel)) (fun _ h9 => h9) rfl dX3_chainFrom_6 ?_
      refine zr_icmp_ge (tgt := 37) hx hb dX3_chainFrom_9 (by decide) (zB_of (by omega) (by omega)) (zB_of (by omega) (by omega)) (fun c1 => ?_) (fun c1 => ?_)
      · have e9 : i = n := by omega
        refine lv_iload_n hx hb dX3_chainFrom_37 rfl (lv_at hl 2 rfl) ?_
        refine zr_ic (n := ((1 : Nat) : Int)) hx hb dX3_chainFrom_38 ?_
        refine zr_add hx hb dX3_chainFrom_39 ?_
        exact zRi_ret hx hb hr hlocks dX3_chainFrom_40 (by rw [e9]; exact congrArg iI (zCf_L hL hj))
      · refine lv_aload_n hx hb dX3_chainFrom_12 rfl (lv_at hl 0 rfl) ?_
        refine lv_iload_n hx hb dX3_chainFrom_13 rfl (lv_at hl 1 rfl) ?_
        refine lv_iload_n hx hb dX3_chainFrom_14 rfl (lv_at hl 3 rfl) ?_
        refine zc_ri (As := [.int (iI ((j : Nat) : Int)), .int (iI ((i : Nat) : Int))]) (rest := []) hF (c_X3_isEnvy l D cI M MB MR ME MZ MT n b mr me mq mt th rc wo wy po fe wh wi mu g j i (by omega) (by assumption) (by assumption) (by assumption) (by omega) (by omega)) (cwV 2 hts gX3_chainFrom_X3_isEnvy rfl rfl rfl (by decide +kernel) ⟨Nat.le_of_ble_eq_true rfl, Nat.le_of_ble_eq_true rfl⟩) hK hP [0, 1, 2, 3, 4, 5] rfl 0 rfl 0 rfl rfl rfl rfl hl.1 rfl (Nat.le_of_ble_eq_true rfl) dX3_chainFrom_15 ⟨Nat.zero_le _, Nat.zero_le _⟩ ?_
        refine zr_ifB_eq (tgt := 31) hx hb dX3_chainFrom_18 (by decide)  (fun c2 => ?_) (fun c2 => ?_)
        · refine zr_iinc (lv2 := [(3, .int (iI (((i : Nat) : Int) + 1))), (0, .ref M), (1, .int (iI ((j : Nat) : Int))), (2, .int (iI (zCf b g L j i)))]) hx hb dX3_chainFrom_31 hl (k0 := 3) rfl (by decide) rfl (fun ls hl => ?_)
          have hl : lv_has ls 4 [(3, .int (iI ((i + 1 : Nat) : Int))), (0, .ref M), (1, .int (iI ((j : Nat) : Int))), (2, .int (iI (zCf b g L j i)))] := hl
          refine lv_goto (tgt := 4) hx hb dX3_chainFrom_34 (by decide) ?_
          have hl : lv_has ls 4 [(3, .int (iI ((i + 1 : Nat) : Int))), (0, .ref M), (1, .int (iI ((j : Nat) : Int))), (2, .int (iI (zCf b g L j (i + 1))))] := by rw [show (zCf b g L j (i + 1)) = (zCf b g L j i) from by show (if zEn b g j i then max (zCf b g L j i) (L i) else zCf b g L j i) = _; exact if_neg c2]; exact hl
          exact ih_LC (i + 1) (by omega) (by omega) _ (lv_sub hl [1, 2, 3, 0] rfl)
        · have hm1 := zCf_le (b := b) (g := g) (L := L) (a := j) (M := 10) (by decide) i (fun c hc _ => by have := (hL.1 c (by omega)).2; omega)
          have hm2 := hL.1 i (by omega)
          have hm3 := hL.2.1 j i hj (by omega) c2
          refine lv_iload_n hx hb dX3_chainFrom_21 rfl (lv_at hl 2 rfl) ?_
          refine lv_aload_n hx hb dX3_chainFrom_22 rfl (lv_at hl 0 rfl) ?_
          refine lv_iload_n hx hb dX3_chainFrom_23 rfl (lv_at hl 3 rfl) ?_
          refine zc_ri (As := [.int (iI ((i : Nat) : Int))]) (rest := [.int (iI (zCf b g L j i))]) hF (c_X3_chainFrom_2 l D cI M MB MR ME MZ MT n b mr me mq mt th rc wo wy po fe wh wi mu g L i (by omega) (by assumption) (by assumption) (by assumption) (by assumption) (by omega) (by omega)) (cwV 1 hts gX3_chainFrom_X3_chainFrom rfl rfl rfl (by decide +kernel) ⟨Nat.le_of_ble_eq_true rfl, Nat.le_of_ble_eq_true rfl⟩) hK hP [0, 1, 2, 3, 4, 5] rfl 0 rfl 0 rfl rfl rfl rfl hl.1 rfl (Nat.le_of_ble_eq_true rfl) dX3_chainFrom_24 ⟨Nat.zero_le _, Nat.zero_le _⟩ ?_
          refine zr_max (rest := []) hx hb (hml.trans hl.1.symm) hown (hts (.methodLink RX3 116 Lib.Math.max.name) (by decide +kernel)) (hts (.static Lib.Math.max.name) (by decide +kernel)) (hts (.initialized "java/lang/Math") (by decide +kernel)) (hts (.code Lib.Math.max.name Lib.Math.max.code 2 (some .int)) (by decide +kernel)) (Nat.le_of_ble_eq_true rfl) (Nat.le_of_ble_eq_true rfl) (Nat.zero_le _) (Nat.zero_le _) (zB_of (by omega) (by omega)) (zB_of (by omega) (by omega)) dX3_chainFrom_27 ?_
          refine lv_istore_n (lv' := [(2, .int (iI (max (zCf b g L j i) (L i)))), (0, .ref M), (1, .int (iI ((j : Nat) : Int))), (3, .int (iI ((i : Nat) : Int)))]) hx hb dX3_chainFrom_30 rfl hl (by decide) rfl (fun ls hl => ?_)
          refine zr_iinc (lv2 := [(3, .int (iI (((i : Nat) : Int) + 1))), (2, .int (iI (max (zCf b g L j i) (L i)))), (0, .ref M), (1, .int (iI ((j : Nat) : Int)))]) hx hb dX3_chainFrom_31 hl (k0 := 3) rfl (by decide) rfl (fun ls hl => ?_)
          have hl : lv_has ls 4 [(3, .int (iI ((i + 1 : Nat) : Int))), (2, .int (iI (max (zCf b g L j i) (L i)))), (0, .ref M), (1, .int (iI ((j : Nat) : Int)))] := hl
          refine lv_goto (tgt := 4) hx hb dX3_chainFrom_34 (by decide) ?_
          have hl : lv_has ls 4 [(3, .int (iI ((i + 1 : Nat) : Int))), (2, .int (iI (zCf b g L j (i + 1)))), (0, .ref M), (1, .int (iI ((j : Nat) : Int)))] := by rw [show (zCf b g L j (i + 1)) = (max (zCf b g L j i) (L i)) from by show (if zEn b g j i then max (zCf b g L j i) (L i) else zCf b g L j i) = _; exact if_pos c2]; exact hl
          exact ih_LC (i + 1) (by omega) (by omega) _ (lv_sub hl [2, 3, 1, 0] rfl)
  have hl : lv_has ls 4 [(3, .int (iI ((0 : Nat) : Int))), (2, .int (iI (zCf b g L j 0))), (0, .ref M), (1, .int (iI ((j : Nat) : Int)))] := by rw [show (zCf b g L j 0) = ((0 : Nat) : Int) from rfl]; exact hl
  exact LC ((n - (0)) + 1) (0) (Nat.lt_succ_self _) (by omega) _ (lv_sub hl [2, 3, 1, 0] rfl)
set_option maxHeartbeats 4000000 in
set_option maxRecDepth 100000 in
/-- X3_chainFrom -/
theorem c_X3_chainFrom_4 (l : Launch) (D : va_G) (cI : ClassId) (M MB MR ME MZ MT n : Nat) (b mr me mq mt : Nat → Int) (th rc wo wy po fe wh wi mu : Int) (g : Nat → Nat) (L : Nat → Int) (j : Nat) (hn : n ≤ 6) (hb0 : ∀ k, 0 ≤ b k ∧ b k ≤ 999) (hro : ∀ j, j < n → mr j = ((g j : Nat) : Int)) (hgn : ∀ j, j < n → g j < n) (hL : zIsL n b g L) (hj : j < n) (hq : L j ≤ 4) : zRi l yX3_chainFrom wsX3_chainFrom 5 113 D cI [.ref M, .int (iI ((j : Nat) : Int))] [(M, .inr (3, [.int (iI (th)), .int (iI ((n : Nat) : Int)), .int (iI (rc)), .ref MB, .ref MR, .ref ME, .ref MZ, .int (iI (wo)), .int (iI (wy)), .int (iI (po)), .ref MT, .int (iI (fe)), .int (iI (wh)), .int (iI (wi)), .int (iI (mu))])), (MB, zArr cI 36 b), (MR, zArr cI 6 mr), (ME, zArr cI 6 me), (MZ, zArr cI 6 mq), (MT, zArr cI 6 mt)] (iI (L j)) := by
  refine zRi_of (cc := cX3_chainFrom) (maxL := 4) (rt := .int) (by decide) rfl (Nat.le_of_ble_eq_true rfl) ?_
  intro p e s m args below meth c ls hF hr hlocks hP hK hl
  have hF : zFix p m c cX3_chainFrom 4 s args wsX3_chainFrom RX3 := hF
  obtain ⟨hx, hb, hml, hown, hts⟩ := id hF
  have hP : va_P D vwCl [(M, .inr (3, [.int (iI (th)), .int (iI ((n : Nat) : Int)), .int (iI (rc)), .ref MB, .ref MR, .ref ME, .ref MZ, .int (iI (wo)), .int (iI (wy)), .int (iI (po)), .ref MT, .int (iI (fe)), .int (iI (wh)), .int (iI (wi)), .int (iI (mu))])), (MB, zArr cI 36 b), (MR, zArr cI 6 mr), (ME, zArr cI 6 me), (MZ, zArr cI 6 mq), (MT, zArr cI 6 mt)] s.heap := hP
  have hl : lv_has ls 4 [(0, .ref M), (1, .int (iI ((j : Nat) : Int)))] := hl
  refine zr_ic (n := ((0 : Nat) : Int)) hx hb dX3_chainFrom_0 ?_
  refine lv_istore_n (lv' := [(2, .int (iI ((0 : Nat) : Int))), (0, .ref M), (1, .int (iI ((j : Nat) : Int)))]) hx hb dX3_chainFrom_1 rfl hl (by decide) rfl (fun ls hl => ?_)
  refine zr_ic (n := ((0 : Nat) : Int)) hx hb dX3_chainFrom_2 ?_
  refine lv_istore_n (lv' := [(3, .int (iI ((0 : Nat) : Int))), (2, .int (iI ((0 : Nat) : Int))), (0, .ref M), (1, .int (iI ((j : Nat) : Int)))]) hx hb dX3_chainFrom_3 rfl hl (by decide) rfl (fun ls hl => ?_)
  have LC : ∀ (k0 : Nat) (i : Nat), n - i < k0 → (hi : i ≤ n) → ∀ (ls : Array Slot), lv_has ls 4 [(0, .ref M), (1, .int (iI ((j : Nat) : Int))), (2, .int (iI (zCf b g L j i))), (3, .int (iI ((i : Nat) : Int)))] → W p l e (zRm 5 113) s m args below meth c s.heap [] 0 0 (MQ below (vp_Si (fun x => x = (iI (L j)))) args s 0 0 (fun _ => False)) (F0 m 4 ls []) := by
    intro k0
    induction k0 with
    | zero => intro i hk; exact absurd hk (Nat.not_lt_zero _)
    | succ k0 ih_LC =>
      intro i hk hi ls hl
      refine lv_iload_n hx hb dX3_chainFrom_4 rfl (lv_at hl 3 rfl) ?_
      refine lv_aload_n hx hb dX3_chainFrom_5 rfl (lv_at hl 0 rfl) ?_
      refine va_get (D := D) (ci := 3) (v := .int (iI ((n : Nat) : Int))) (C := RX3) (T := TX3) (N := 15) hx hb hts (by decide +kernel) hown hK hP 0 rfl rfl 1 (by decide) (hts (.fieldLink RX3 38 "RentHarmonyModel" "lodgers" "I") (by decide +kernel)) (fun _ h9 => h9) rfl dX3_chainFrom_6 ?_
      refine zr_icmp_ge (tgt := 37) hx hb dX3_chainFrom_9 (by decide) (zB_of (by omega) (by omega)) (zB_of (by omega) (by omega)) (fun c1 => ?_) (fun c1 => ?_)
      · have e9 : i = n := by omega
        refine lv_iload_n hx hb dX3_chainFrom_37 rfl (lv_at hl 2 rfl) ?_
        refine zr_ic (n := ((1 : Nat) : Int)) hx hb dX3_chainFrom_38 ?_
        refine zr_add hx hb dX3_chainFrom_39 ?_
        exact zRi_ret hx hb hr hlocks dX3_chainFrom_40 (by rw [e9]; exact congrArg iI (zCf_L hL hj))
      · refine lv_aload_n hx hb dX3_chainFrom_12 rfl (lv_at hl 0 rfl) ?_
        refine lv_iload_n hx hb dX3_chainFrom_13 rfl (lv_at hl 1 rfl) ?_
        refine lv_iload_n hx hb dX3_chainFrom_14 rfl (lv_at hl 3 rfl) ?_
        refine zc_ri (As := [.int (iI ((j : Nat) : Int)), .int (iI ((i : Nat) : Int))]) (rest := []) hF (c_X3_isEnvy l D cI M MB MR ME MZ MT n b mr me mq mt th rc wo wy po fe wh wi mu g j i (by omega) (by assumption) (by assumption) (by assumption) (by omega) (by omega)) (cwV 2 hts gX3_chainFrom_X3_isEnvy rfl rfl rfl (by decide +kernel) ⟨Nat.le_of_ble_eq_true rfl, Nat.le_of_ble_eq_true rfl⟩) hK hP [0, 1, 2, 3, 4, 5] rfl 0 rfl 0 rfl rfl rfl rfl hl.1 rfl (Nat.le_of_ble_eq_true rfl) dX3_chainFrom_15 ⟨Nat.zero_le _, Nat.zero_le _⟩ ?_
        refine zr_ifB_eq (tgt := 31) hx hb dX3_chainFrom_18 (by decide)  (fun c2 => ?_) (fun c2 => ?_)
        · refine zr_iinc (lv2 := [(3, .int (iI (((i : Nat) : Int) + 1))), (0, .ref M), (1, .int (iI ((j : Nat) : Int))), (2, .int (iI (zCf b g L j i)))]) hx hb dX3_chainFrom_31 hl (k0 := 3) rfl (by decide) rfl (fun ls hl => ?_)
          have hl : lv_has ls 4 [(3, .int (iI ((i + 1 : Nat) : Int))), (0, .ref M), (1, .int (iI ((j : Nat) : Int))), (2, .int (iI (zCf b g L j i)))] := hl
          refine lv_goto (tgt := 4) hx hb dX3_chainFrom_34 (by decide) ?_
          have hl : lv_has ls 4 [(3, .int (iI ((i + 1 : Nat) : Int))), (0, .ref M), (1, .int (iI ((j : Nat) : Int))), (2, .int (iI (zCf b g L j (i + 1))))] := by rw [show (zCf b g L j (i + 1)) = (zCf b g L j i) from by show (if zEn b g j i then max (zCf b g L j i) (L i) else zCf b g L j i) = _; exact if_neg c2]; exact hl
          exact ih_LC (i + 1) (by omega) (by omega) _ (lv_sub hl [1, 2, 3, 0] rfl)
        · have hm1 := zCf_le (b := b) (g := g) (L := L) (a := j) (M := 10) (by decide) i (fun c hc _ => by have := (hL.1 c (by omega)).2; omega)
          have hm2 := hL.1 i (by omega)
          have hm3 := hL.2.1 j i hj (by omega) c2
          refine lv_iload_n hx hb dX3_chainFrom_21 rfl (lv_at hl 2 rfl) ?_
          refine lv_aload_n hx hb dX3_chainFrom_22 rfl (lv_at hl 0 rfl) ?_
          refine lv_iload_n hx hb dX3_chainFrom_23 rfl (lv_at hl 3 rfl) ?_
          refine zc_ri (As := [.int (iI ((i : Nat) : Int))]) (rest := [.int (iI (zCf b g L j i))]) hF (c_X3_chainFrom_3 l D cI M MB MR ME MZ MT n b mr me mq mt th rc wo wy po fe wh wi mu g L i (by omega) (by assumption) (by assumption) (by assumption) (by assumption) (by omega) (by omega)) (cwV 1 hts gX3_chainFrom_X3_chainFrom rfl rfl rfl (by decide +kernel) ⟨Nat.le_of_ble_eq_true rfl, Nat.le_of_ble_eq_true rfl⟩) hK hP [0, 1, 2, 3, 4, 5] rfl 0 rfl 0 rfl rfl rfl rfl hl.1 rfl (Nat.le_of_ble_eq_true rfl) dX3_chainFrom_24 ⟨Nat.zero_le _, Nat.zero_le _⟩ ?_
          refine zr_max (rest := []) hx hb (hml.trans hl.1.symm) hown (hts (.methodLink RX3 116 Lib.Math.max.name) (by decide +kernel)) (hts (.static Lib.Math.max.name) (by decide +kernel)) (hts (.initialized "java/lang/Math") (by decide +kernel)) (hts (.code Lib.Math.max.name Lib.Math.max.code 2 (some .int)) (by decide +kernel)) (Nat.le_of_ble_eq_true rfl) (Nat.le_of_ble_eq_true rfl) (Nat.zero_le _) (Nat.zero_le _) (zB_of (by omega) (by omega)) (zB_of (by omega) (by omega)) dX3_chainFrom_27 ?_
          refine lv_istore_n (lv' := [(2, .int (iI (max (zCf b g L j i) (L i)))), (0, .ref M), (1, .int (iI ((j : Nat) : Int))), (3, .int (iI ((i : Nat) : Int)))]) hx hb dX3_chainFrom_30 rfl hl (by decide) rfl (fun ls hl => ?_)
          refine zr_iinc (lv2 := [(3, .int (iI (((i : Nat) : Int) + 1))), (2, .int (iI (max (zCf b g L j i) (L i)))), (0, .ref M), (1, .int (iI ((j : Nat) : Int)))]) hx hb dX3_chainFrom_31 hl (k0 := 3) rfl (by decide) rfl (fun ls hl => ?_)
          have hl : lv_has ls 4 [(3, .int (iI ((i + 1 : Nat) : Int))), (2, .int (iI (max (zCf b g L j i) (L i)))), (0, .ref M), (1, .int (iI ((j : Nat) : Int)))] := hl
          refine lv_goto (tgt := 4) hx hb dX3_chainFrom_34 (by decide) ?_
          have hl : lv_has ls 4 [(3, .int (iI ((i + 1 : Nat) : Int))), (2, .int (iI (zCf b g L j (i + 1)))), (0, .ref M), (1, .int (iI ((j : Nat) : Int)))] := by rw [show (zCf b g L j (i + 1)) = (max (zCf b g L j i) (L i)) from by show (if zEn b g j i then max (zCf b g L j i) (L i) else zCf b g L j i) = _; exact if_pos c2]; exact hl
          exact ih_LC (i + 1) (by omega) (by omega) _ (lv_sub hl [2, 3, 1, 0] rfl)
  have hl : lv_has ls 4 [(3, .int (iI ((0 : Nat) : Int))), (2, .int (iI (zCf b g L j 0))), (0, .ref M), (1, .int (iI ((j : Nat) : Int)))] := by rw [show (zCf b g L j 0) = ((0 : Nat) : Int) from rfl]; exact hl
  exact LC ((n - (0)) + 1) (0) (Nat.lt_succ_self _) (by omega) _ (lv_sub hl [2, 3, 1, 0] rfl)
set_option maxHeartbeats 4000000 in
set_option maxRecDepth 100000 in
/-- X3_chainFrom -/
theorem c_X3_chainFrom_5 (l : Launch) (D : va_G) (cI : ClassId) (M MB MR ME MZ MT n : Nat) (b mr me mq mt : Nat → Int) (th rc wo wy po fe wh wi mu : Int) (g : Nat → Nat) (L : Nat → Int) (j : Nat) (hn : n ≤ 6) (hb0 : ∀ k, 0 ≤ b k ∧ b k ≤ 999) (hro : ∀ j, j < n → mr j = ((g j : Nat) : Int)) (hgn : ∀ j, j < n → g j < n) (hL : zIsL n b g L) (hj : j < n) (hq : L j ≤ 5) : zRi l yX3_chainFrom wsX3_chainFrom 6 136 D cI [.ref M, .int (iI ((j : Nat) : Int))] [(M, .inr (3, [.int (iI (th)), .int (iI ((n : Nat) : Int)), .int (iI (rc)), .ref MB, .ref MR, .ref ME, .ref MZ, .int (iI (wo)), .int (iI (wy)), .int (iI (po)), .ref MT, .int (iI (fe)), .int (iI (wh)), .int (iI (wi)), .int (iI (mu))])), (MB, zArr cI 36 b), (MR, zArr cI 6 mr), (ME, zArr cI 6 me), (MZ, zArr cI 6 mq), (MT, zArr cI 6 mt)] (iI (L j)) := by
  refine zRi_of (cc := cX3_chainFrom) (maxL := 4) (rt := .int) (by decide) rfl (Nat.le_of_ble_eq_true rfl) ?_
  intro p e s m args below meth c ls hF hr hlocks hP hK hl
  have hF : zFix p m c cX3_chainFrom 4 s args wsX3_chainFrom RX3 := hF
  obtain ⟨hx, hb, hml, hown, hts⟩ := id hF
  have hP : va_P D vwCl [(M, .inr (3, [.int (iI (th)), .int (iI ((n : Nat) : Int)), .int (iI (rc)), .ref MB, .ref MR, .ref ME, .ref MZ, .int (iI (wo)), .int (iI (wy)), .int (iI (po)), .ref MT, .int (iI (fe)), .int (iI (wh)), .int (iI (wi)), .int (iI (mu))])), (MB, zArr cI 36 b), (MR, zArr cI 6 mr), (ME, zArr cI 6 me), (MZ, zArr cI 6 mq), (MT, zArr cI 6 mt)] s.heap := hP
  have hl : lv_has ls 4 [(0, .ref M), (1, .int (iI ((j : Nat) : Int)))] := hl
  refine zr_ic (n := ((0 : Nat) : Int)) hx hb dX3_chainFrom_0 ?_
  refine lv_istore_n (lv' := [(2, .int (iI ((0 : Nat) : Int))), (0, .ref M), (1, .int (iI ((j : Nat) : Int)))]) hx hb dX3_chainFrom_1 rfl hl (by decide) rfl (fun ls hl => ?_)
  refine zr_ic (n := ((0 : Nat) : Int)) hx hb dX3_chainFrom_2 ?_
  refine lv_istore_n (lv' := [(3, .int (iI ((0 : Nat) : Int))), (2, .int (iI ((0 : Nat) : Int))), (0, .ref M), (1, .int (iI ((j : Nat) : Int)))]) hx hb dX3_chainFrom_3 rfl hl (by decide) rfl (fun ls hl => ?_)
  have LC : ∀ (k0 : Nat) (i : Nat), n - i < k0 → (hi : i ≤ n) → ∀ (ls : Array Slot), lv_has ls 4 [(0, .ref M), (1, .int (iI ((j : Nat) : Int))), (2, .int (iI (zCf b g L j i))), (3, .int (iI ((i : Nat) : Int)))] → W p l e (zRm 6 136) s m args below meth c s.heap [] 0 0 (MQ below (vp_Si (fun x => x = (iI (L j)))) args s 0 0 (fun _ => False)) (F0 m 4 ls []) := by
    intro k0
    induction k0 with
    | zero => intro i hk; exact absurd hk (Nat.not_lt_zero _)
    | succ k0 ih_LC =>
      intro i hk hi ls hl
      refine lv_iload_n hx hb dX3_chainFrom_4 rfl (lv_at hl 3 rfl) ?_
      refine lv_aload_n hx hb dX3_chainFrom_5 rfl (lv_at hl 0 rfl) ?_
      refine va_get (D := D) (ci := 3) (v := .int (iI ((n : Nat) : Int))) (C := RX3) (T := TX3) (N := 15) hx hb hts (by decide +kernel) hown hK hP 0 rfl rfl 1 (by decide) (hts (.fieldLink RX3 38 "RentHarmonyModel" "lodgers" "I") (by decide +kernel)) (fun _ h9 => h9) rfl dX3_chainFrom_6 ?_
      refine zr_icmp_ge (tgt := 37) hx hb dX3_chainFrom_9 (by decide) (zB_of (by omega) (by omega)) (zB_of (by omega) (by omega)) (fun c1 => ?_) (fun c1 => ?_)
      · have e9 : i = n := by omega
        refine lv_iload_n hx hb dX3_chainFrom_37 rfl (lv_at hl 2 rfl) ?_
        refine zr_ic (n := ((1 : Nat) : Int)) hx hb dX3_chainFrom_38 ?_
        refine zr_add hx hb dX3_chainFrom_39 ?_
        exact zRi_ret hx hb hr hlocks dX3_chainFrom_40 (by rw [e9]; exact congrArg iI (zCf_L hL hj))
      · refine lv_aload_n hx hb dX3_chainFrom_12 rfl (lv_at hl 0 rfl) ?_
        refine lv_iload_n hx hb dX3_chainFrom_13 rfl (lv_at hl 1 rfl) ?_
        refine lv_iload_n hx hb dX3_chainFrom_14 rfl (lv_at hl 3 rfl) ?_
        refine zc_ri (As := [.int (iI ((j : Nat) : Int)), .int (iI ((i : Nat) : Int))]) (rest := []) hF (c_X3_isEnvy l D cI M MB MR ME MZ MT n b mr me mq mt th rc wo wy po fe wh wi mu g j i (by omega) (by assumption) (by assumption) (by assumption) (by omega) (by omega)) (cwV 2 hts gX3_chainFrom_X3_isEnvy rfl rfl rfl (by decide +kernel) ⟨Nat.le_of_ble_eq_true rfl, Nat.le_of_ble_eq_true rfl⟩) hK hP [0, 1, 2, 3, 4, 5] rfl 0 rfl 0 rfl rfl rfl rfl hl.1 rfl (Nat.le_of_ble_eq_true rfl) dX3_chainFrom_15 ⟨Nat.zero_le _, Nat.zero_le _⟩ ?_
        refine zr_ifB_eq (tgt := 31) hx hb dX3_chainFrom_18 (by decide)  (fun c2 => ?_) (fun c2 => ?_)
        · refine zr_iinc (lv2 := [(3, .int (iI (((i : Nat) : Int) + 1))), (0, .ref M), (1, .int (iI ((j : Nat) : Int))), (2, .int (iI (zCf b g L j i)))]) hx hb dX3_chainFrom_31 hl (k0 := 3) rfl (by decide) rfl (fun ls hl => ?_)
          have hl : lv_has ls 4 [(3, .int (iI ((i + 1 : Nat) : Int))), (0, .ref M), (1, .int (iI ((j : Nat) : Int))), (2, .int (iI (zCf b g L j i)))] := hl
          refine lv_goto (tgt := 4) hx hb dX3_chainFrom_34 (by decide) ?_
          have hl : lv_has ls 4 [(3, .int (iI ((i + 1 : Nat) : Int))), (0, .ref M), (1, .int (iI ((j : Nat) : Int))), (2, .int (iI (zCf b g L j (i + 1))))] := by rw [show (zCf b g L j (i + 1)) = (zCf b g L j i) from by show (if zEn b g j i then max (zCf b g L j i) (L i) else zCf b g L j i) = _; exact if_neg c2]; exact hl
          exact ih_LC (i + 1) (by omega) (by omega) _ (lv_sub hl [1, 2, 3, 0] rfl)
        · have hm1 := zCf_le (b := b) (g := g) (L := L) (a := j) (M := 10) (by decide) i (fun c hc _ => by have := (hL.1 c (by omega)).2; omega)
          have hm2 := hL.1 i (by omega)
          have hm3 := hL.2.1 j i hj (by omega) c2
          refine lv_iload_n hx hb dX3_chainFrom_21 rfl (lv_at hl 2 rfl) ?_
          refine lv_aload_n hx hb dX3_chainFrom_22 rfl (lv_at hl 0 rfl) ?_
          refine lv_iload_n hx hb dX3_chainFrom_23 rfl (lv_at hl 3 rfl) ?_
          refine zc_ri (As := [.int (iI ((i : Nat) : Int))]) (rest := [.int (iI (zCf b g L j i))]) hF (c_X3_chainFrom_4 l D cI M MB MR ME MZ MT n b mr me mq mt th rc wo wy po fe wh wi mu g L i (by omega) (by assumption) (by assumption) (by assumption) (by assumption) (by omega) (by omega)) (cwV 1 hts gX3_chainFrom_X3_chainFrom rfl rfl rfl (by decide +kernel) ⟨Nat.le_of_ble_eq_true rfl, Nat.le_of_ble_eq_true rfl⟩) hK hP [0, 1, 2, 3, 4, 5] rfl 0 rfl 0 rfl rfl rfl rfl hl.1 rfl (Nat.le_of_ble_eq_true rfl) dX3_chainFrom_24 ⟨Nat.zero_le _, Nat.zero_le _⟩ ?_
          refine zr_max (rest := []) hx hb (hml.trans hl.1.symm) hown (hts (.methodLink RX3 116 Lib.Math.max.name) (by decide +kernel)) (hts (.static Lib.Math.max.name) (by decide +kernel)) (hts (.initialized "java/lang/Math") (by decide +kernel)) (hts (.code Lib.Math.max.name Lib.Math.max.code 2 (some .int)) (by decide +kernel)) (Nat.le_of_ble_eq_true rfl) (Nat.le_of_ble_eq_true rfl) (Nat.zero_le _) (Nat.zero_le _) (zB_of (by omega) (by omega)) (zB_of (by omega) (by omega)) dX3_chainFrom_27 ?_
          refine lv_istore_n (lv' := [(2, .int (iI (max (zCf b g L j i) (L i)))), (0, .ref M), (1, .int (iI ((j : Nat) : Int))), (3, .int (iI ((i : Nat) : Int)))]) hx hb dX3_chainFrom_30 rfl hl (by decide) rfl (fun ls hl => ?_)
          refine zr_iinc (lv2 := [(3, .int (iI (((i : Nat) : Int) + 1))), (2, .int (iI (max (zCf b g L j i) (L i)))), (0, .ref M), (1, .int (iI ((j : Nat) : Int)))]) hx hb dX3_chainFrom_31 hl (k0 := 3) rfl (by decide) rfl (fun ls hl => ?_)
          have hl : lv_has ls 4 [(3, .int (iI ((i + 1 : Nat) : Int))), (2, .int (iI (max (zCf b g L j i) (L i)))), (0, .ref M), (1, .int (iI ((j : Nat) : Int)))] := hl
          refine lv_goto (tgt := 4) hx hb dX3_chainFrom_34 (by decide) ?_
          have hl : lv_has ls 4 [(3, .int (iI ((i + 1 : Nat) : Int))), (2, .int (iI (zCf b g L j (i + 1)))), (0, .ref M), (1, .int (iI ((j : Nat) : Int)))] := by rw [show (zCf b g L j (i + 1)) = (max (zCf b g L j i) (L i)) from by show (if zEn b g j i then max (zCf b g L j i) (L i) else zCf b g L j i) = _; exact if_pos c2]; exact hl
          exact ih_LC (i + 1) (by omega) (by omega) _ (lv_sub hl [2, 3, 1, 0] rfl)
  have hl : lv_has ls 4 [(3, .int (iI ((0 : Nat) : Int))), (2, .int (iI (zCf b g L j 0))), (0, .ref M), (1, .int (iI ((j : Nat) : Int)))] := by rw [show (zCf b g L j 0) = ((0 : Nat) : Int) from rfl]; exact hl
  exact LC ((n - (0)) + 1) (0) (Nat.lt_succ_self _) (by omega) _ (lv_sub hl [2, 3, 1, 0] rfl)
set_option maxHeartbeats 4000000 in
set_option maxRecDepth 100000 in
/-- X3_chainFrom -/
theorem c_X3_chainFrom_6 (l : Launch) (D : va_G) (cI : ClassId) (M MB MR ME MZ MT n : Nat) (b mr me mq mt : Nat → Int) (th rc wo wy po fe wh wi mu : Int) (g : Nat → Nat) (L : Nat → Int) (j : Nat) (hn : n ≤ 6) (hb0 : ∀ k, 0 ≤ b k ∧ b k ≤ 999) (hro : ∀ j, j < n → mr j = ((g j : Nat) : Int)) (hgn : ∀ j, j < n → g j < n) (hL : zIsL n b g L) (hj : j < n) (hq : L j ≤ 6) : zRi l yX3_chainFrom wsX3_chainFrom 7 159 D cI [.ref M, .int (iI ((j : Nat) : Int))] [(M, .inr (3, [.int (iI (th)), .int (iI ((n : Nat) : Int)), .int (iI (rc)), .ref MB, .ref MR, .ref ME, .ref MZ, .int (iI (wo)), .int (iI (wy)), .int (iI (po)), .ref MT, .int (iI (fe)), .int (iI (wh)), .int (iI (wi)), .int (iI (mu))])), (MB, zArr cI 36 b), (MR, zArr cI 6 mr), (ME, zArr cI 6 me), (MZ, zArr cI 6 mq), (MT, zArr cI 6 mt)] (iI (L j)) := by
  refine zRi_of (cc := cX3_chainFrom) (maxL := 4) (rt := .int) (by decide) rfl (Nat.le_of_ble_eq_true rfl) ?_
  intro p e s m args below meth c ls hF hr hlocks hP hK hl
  have hF : zFix p m c cX3_chainFrom 4 s args wsX3_chainFrom RX3 := hF
  obtain ⟨hx, hb, hml, hown, hts⟩ := id hF
  have hP : va_P D vwCl [(M, .inr (3, [.int (iI (th)), .int (iI ((n : Nat) : Int)), .int (iI (rc)), .ref MB, .ref MR, .ref ME, .ref MZ, .int (iI (wo)), .int (iI (wy)), .int (iI (po)), .ref MT, .int (iI (fe)), .int (iI (wh)), .int (iI (wi)), .int (iI (mu))])), (MB, zArr cI 36 b), (MR, zArr cI 6 mr), (ME, zArr cI 6 me), (MZ, zArr cI 6 mq), (MT, zArr cI 6 mt)] s.heap := hP
  have hl : lv_has ls 4 [(0, .ref M), (1, .int (iI ((j : Nat) : Int)))] := hl
  refine zr_ic (n := ((0 : Nat) : Int)) hx hb dX3_chainFrom_0 ?_
  refine lv_istore_n (lv' := [(2, .int (iI ((0 : Nat) : Int))), (0, .ref M), (1, .int (iI ((j : Nat) : Int)))]) hx hb dX3_chainFrom_1 rfl hl (by decide) rfl (fun ls hl => ?_)
  refine zr_ic (n := ((0 : Nat) : Int)) hx hb dX3_chainFrom_2 ?_
  refine lv_istore_n (lv' := [(3, .int (iI ((0 : Nat) : Int))), (2, .int (iI ((0 : Nat) : Int))), (0, .ref M), (1, .int (iI ((j : Nat) : Int)))]) hx hb dX3_chainFrom_3 rfl hl (by decide) rfl (fun ls hl => ?_)
  have LC : ∀ (k0 : Nat) (i : Nat), n - i < k0 → (hi : i ≤ n) → ∀ (ls : Array Slot), lv_has ls 4 [(0, .ref M), (1, .int (iI ((j : Nat) : Int))), (2, .int (iI (zCf b g L j i))), (3, .int (iI ((i : Nat) : Int)))] → W p l e (zRm 7 159) s m args below meth c s.heap [] 0 0 (MQ below (vp_Si (fun x => x = (iI (L j)))) args s 0 0 (fun _ => False)) (F0 m 4 ls []) := by
    intro k0
    induction k0 with
    | zero => intro i hk; exact absurd hk (Nat.not_lt_zero _)
    | succ k0 ih_LC =>
      intro i hk hi ls hl
      refine lv_iload_n hx hb dX3_chainFrom_4 rfl (lv_at hl 3 rfl) ?_
      refine lv_aload_n hx hb dX3_chainFrom_5 rfl (lv_at hl 0 rfl) ?_
      refine va_get (D := D) (ci := 3) (v := .int (iI ((n : Nat) : Int))) (C := RX3) (T := TX3) (N := 15) hx hb hts (by decide +kernel) hown hK hP 0 rfl rfl 1 (by decide) (hts (.fieldLink RX3 38 "RentHarmonyModel" "lodgers" "I") (by decide +kernel)) (fun _ h9 => h9) rfl dX3_chainFrom_6 ?_
      refine zr_icmp_ge (tgt := 37) hx hb dX3_chainFrom_9 (by decide) (zB_of (by omega) (by omega)) (zB_of (by omega) (by omega)) (fun c1 => ?_) (fun c1 => ?_)
      · have e9 : i = n := by omega
        refine lv_iload_n hx hb dX3_chainFrom_37 rfl (lv_at hl 2 rfl) ?_
        refine zr_ic (n := ((1 : Nat) : Int)) hx hb dX3_chainFrom_38 ?_
        refine zr_add hx hb dX3_chainFrom_39 ?_
        exact zRi_ret hx hb hr hlocks dX3_chainFrom_40 (by rw [e9]; exact congrArg iI (zCf_L hL hj))
      · refine lv_aload_n hx hb dX3_chainFrom_12 rfl (lv_at hl 0 rfl) ?_
        refine lv_iload_n hx hb dX3_chainFrom_13 rfl (lv_at hl 1 rfl) ?_
        refine lv_iload_n hx hb dX3_chainFrom_14 rfl (lv_at hl 3 rfl) ?_
        refine zc_ri (As := [.int (iI ((j : Nat) : Int)), .int (iI ((i : Nat) : Int))]) (rest := []) hF (c_X3_isEnvy l D cI M MB MR ME MZ MT n b mr me mq mt th rc wo wy po fe wh wi mu g j i (by omega) (by assumption) (by assumption) (by assumption) (by omega) (by omega)) (cwV 2 hts gX3_chainFrom_X3_isEnvy rfl rfl rfl (by decide +kernel) ⟨Nat.le_of_ble_eq_true rfl, Nat.le_of_ble_eq_true rfl⟩) hK hP [0, 1, 2, 3, 4, 5] rfl 0 rfl 0 rfl rfl rfl rfl hl.1 rfl (Nat.le_of_ble_eq_true rfl) dX3_chainFrom_15 ⟨Nat.zero_le _, Nat.zero_le _⟩ ?_
        refine zr_ifB_eq (tgt := 31) hx hb dX3_chainFrom_18 (by decide)  (fun c2 => ?_) (fun c2 => ?_)
        · refine zr_iinc (lv2 := [(3, .int (iI (((i : Nat) : Int) + 1))), (0, .ref M), (1, .int (iI ((j : Nat) : Int))), (2, .int (iI (zCf b g L j i)))]) hx hb dX3_chainFrom_31 hl (k0 := 3) rfl (by decide) rfl (fun ls hl => ?_)
          have hl : lv_has ls 4 [(3, .int (iI ((i + 1 : Nat) : Int))), (0, .ref M), (1, .int (iI ((j : Nat) : Int))), (2, .int (iI (zCf b g L j i)))] := hl
          refine lv_goto (tgt := 4) hx hb dX3_chainFrom_34 (by decide) ?_
          have hl : lv_has ls 4 [(3, .int (iI ((i + 1 : Nat) : Int))), (0, .ref M), (1, .int (iI ((j : Nat) : Int))), (2, .int (iI (zCf b g L j (i + 1))))] := by rw [show (zCf b g L j (i + 1)) = (zCf b g L j i) from by show (if zEn b g j i then max (zCf b g L j i) (L i) else zCf b g L j i) = _; exact if_neg c2]; exact hl
          exact ih_LC (i + 1) (by omega) (by omega) _ (lv_sub hl [1, 2, 3, 0] rfl)
        · have hm1 := zCf_le (b := b) (g := g) (L := L) (a := j) (M := 10) (by decide) i (fun c hc _ => by have := (hL.1 c (by omega)).2; omega)
          have hm2 := hL.1 i (by omega)
          have hm3 := hL.2.1 j i hj (by omega) c2
          refine lv_iload_n hx hb dX3_chainFrom_21 rfl (lv_at hl 2 rfl) ?_
          refine lv_aload_n hx hb dX3_chainFrom_22 rfl (lv_at hl 0 rfl) ?_
          refine lv_iload_n hx hb dX3_chainFrom_23 rfl (lv_at hl 3 rfl) ?_
          refine zc_ri (As := [.int (iI ((i : Nat) : Int))]) (rest := [.int (iI (zCf b g L j i))]) hF (c_X3_chainFrom_5 l D cI M MB MR ME MZ MT n b mr me mq mt th rc wo wy po fe wh wi mu g L i (by omega) (by assumption) (by assumption) (by assumption) (by assumption) (by omega) (by omega)) (cwV 1 hts gX3_chainFrom_X3_chainFrom rfl rfl rfl (by decide +kernel) ⟨Nat.le_of_ble_eq_true rfl, Nat.le_of_ble_eq_true rfl⟩) hK hP [0, 1, 2, 3, 4, 5] rfl 0 rfl 0 rfl rfl rfl rfl hl.1 rfl (Nat.le_of_ble_eq_true rfl) dX3_chainFrom_24 ⟨Nat.zero_le _, Nat.zero_le _⟩ ?_
          refine zr_max (rest := []) hx hb (hml.trans hl.1.symm) hown (hts (.methodLink RX3 116 Lib.Math.max.name) (by decide +kernel)) (hts (.static Lib.Math.max.name) (by decide +kernel)) (hts (.initialized "java/lang/Math") (by decide +kernel)) (hts (.code Lib.Math.max.name Lib.Math.max.code 2 (some .int)) (by decide +kernel)) (Nat.le_of_ble_eq_true rfl) (Nat.le_of_ble_eq_true rfl) (Nat.zero_le _) (Nat.zero_le _) (zB_of (by omega) (by omega)) (zB_of (by omega) (by omega)) dX3_chainFrom_27 ?_
          refine lv_istore_n (lv' := [(2, .int (iI (max (zCf b g L j i) (L i)))), (0, .ref M), (1, .int (iI ((j : Nat) : Int))), (3, .int (iI ((i : Nat) : Int)))]) hx hb dX3_chainFrom_30 rfl hl (by decide) rfl (fun ls hl => ?_)
          refine zr_iinc (lv2 := [(3, .int (iI (((i : Nat) : Int) + 1))), (2, .int (iI (max (zCf b g L j i) (L i)))), (0, .ref M), (1, .int (iI ((j : Nat) : Int)))]) hx hb dX3_chainFrom_31 hl (k0 := 3) rfl (by decide) rfl (fun ls hl => ?_)
          have hl : lv_has ls 4 [(3, .int (iI ((i + 1 : Nat) : Int))), (2, .int (iI (max (zCf b g L j i) (L i)))), (0, .ref M), (1, .int (iI ((j : Nat) : Int)))] := hl
          refine lv_goto (tgt := 4) hx hb dX3_chainFrom_34 (by decide) ?_
          have hl : lv_has ls 4 [(3, .int (iI ((i + 1 : Nat) : Int))), (2, .int (iI (zCf b g L j (i + 1)))), (0, .ref M), (1, .int (iI ((j : Nat) : Int)))] := by rw [show (zCf b g L j (i + 1)) = (max (zCf b g L j i) (L i)) from by show (if zEn b g j i then max (zCf b g L j i) (L i) else zCf b g L j i) = _; exact if_pos c2]; exact hl
          exact ih_LC (i + 1) (by omega) (by omega) _ (lv_sub hl [2, 3, 1, 0] rfl)
  have hl : lv_has ls 4 [(3, .int (iI ((0 : Nat) : Int))), (2, .int (iI (zCf b g L j 0))), (0, .ref M), (1, .int (iI ((j : Nat) : Int)))] := by rw [show (zCf b g L j 0) = ((0 : Nat) : Int) from rfl]; exact hl
  exact LC ((n - (0)) + 1) (0) (Nat.lt_succ_self _) (by omega) _ (lv_sub hl [2, 3, 1, 0] rfl)
set_option maxHeartbeats 4000000 in
set_option maxRecDepth 100000 in
/-- X3_come -/
theorem c_X3_come_full (l : Launch) (D : va_G) (cI : ClassId) (M MB MR ME MZ MT n : Nat) (b mr me mq mt : Nat → Int) (th rc wo wy po mu : Int)  (hn : n ≤ 6) (hf : n = 6) : zWi (S := Unit) l yX3_come wsX3_come 1 21 D cI [.ref M] [(M, .inr (3, [.int (iI (th)), .int (iI ((n : Nat) : Int)), .int (iI (rc)), .ref MB, .ref MR, .ref ME, .ref MZ, .int (iI (wo)), .int (iI (wy)), .int (iI (po)), .ref MT, .int (iI (-1)), .int (iI (-1)), .int (iI (-1)), .int (iI (mu))])), (MB, zArr cI 36 b), (MR, zArr cI 6 mr), (ME, zArr cI 6 me), (MZ, zArr cI 6 mq), (MT, zArr cI 6 mt)] (fun r _ => r = iI 0) (fun _ => [(M, .inr (3, [.int (iI (((1 : Nat) : Int))), .int (iI ((n : Nat) : Int)), .int (iI (rc)), .ref MB, .ref MR, .ref ME, .ref MZ, .int (iI (wo)), .int (iI (wy)), .int (iI (po)), .ref MT, .int (iI (-1)), .int (iI (-1)), .int (iI (-1)), .int (iI (mu))])), (MB, zArr cI 36 b), (MR, zArr cI 6 mr), (ME, zArr cI 6 me), (MZ, zArr cI 6 mq), (MT, zArr cI 6 mt)]) := by
  refine zWi_of (cc := cX3_come) (maxL := 2) (rt := .int) (by decide) rfl (Nat.le_of_ble_eq_true rfl) ?_
  intro p e s m args below meth c ls A hF hr hlocks hP hK hD hS hl
  have hF : zFix p m c cX3_come 2 s args wsX3_come RX3 := hF
  obtain ⟨hx, hb, hml, hown, hts⟩ := id hF
  have hP : va_P D vwCl [(M, .inr (3, [.int (iI (th)), .int (iI ((n : Nat) : Int)), .int (iI (rc)), .ref MB, .ref MR, .ref ME, .ref MZ, .int (iI (wo)), .int (iI (wy)), .int (iI (po)), .ref MT, .int (iI (-1)), .int (iI (-1)), .int (iI (-1)), .int (iI (mu))])), (MB, zArr cI 36 b), (MR, zArr cI 6 mr), (ME, zArr cI 6 me), (MZ, zArr cI 6 mq), (MT, zArr cI 6 mt)] s.heap := hP
  have hD : va_D A [(M, .inr (3, [.int (iI (th)), .int (iI ((n : Nat) : Int)), .int (iI (rc)), .ref MB, .ref MR, .ref ME, .ref MZ, .int (iI (wo)), .int (iI (wy)), .int (iI (po)), .ref MT, .int (iI (-1)), .int (iI (-1)), .int (iI (-1)), .int (iI (mu))])), (MB, zArr cI 36 b), (MR, zArr cI 6 mr), (ME, zArr cI 6 me), (MZ, zArr cI 6 mq), (MT, zArr cI 6 mt)] := hD
  skip
  have hl : lv_has ls 2 [(0, .ref M)] := hl
  refine lv_aload_n hx hb dX3_come_0 rfl (lv_at hl 0 rfl) ?_
  refine zr_ic (n := ((0 : Nat) : Int)) hx hb dX3_come_1 ?_
  refine va_put (D := D) (ci := 3) (v := .int (iI ((0 : Nat) : Int))) (ty := .int) (C := RX3) (T := TX3) (N := 15) hx hb hts (by decide +kernel) tyX3 tyX3_ok nmX3 hown hK hP hD hS 0 rfl rfl 0 (by decide) (hts (.fieldLink RX3 35 "RentHarmonyModel" "thrown" "I") (by decide +kernel)) (fun _ h9 => h9) rfl (by decide +kernel) rfl rfl (Nat.le_of_ble_eq_true rfl) dX3_come_2 (fun H locs hP hD hS => ?_)
  have hP : va_P D vwCl [(M, .inr (3, [.int (iI ((0 : Nat) : Int)), .int (iI ((n : Nat) : Int)), .int (iI (rc)), .ref MB, .ref MR, .ref ME, .ref MZ, .int (iI (wo)), .int (iI (wy)), .int (iI (po)), .ref MT, .int (iI (-1)), .int (iI (-1)), .int (iI (-1)), .int (iI (mu))])), (MB, zArr cI 36 b), (MR, zArr cI 6 mr), (ME, zArr cI 6 me), (MZ, zArr cI 6 mq), (MT, zArr cI 6 mt)] H := hP
  have hD : va_D A [(M, .inr (3, [.int (iI ((0 : Nat) : Int)), .int (iI ((n : Nat) : Int)), .int (iI (rc)), .ref MB, .ref MR, .ref ME, .ref MZ, .int (iI (wo)), .int (iI (wy)), .int (iI (po)), .ref MT, .int (iI (-1)), .int (iI (-1)), .int (iI (-1)), .int (iI (mu))])), (MB, zArr cI 36 b), (MR, zArr cI 6 mr), (ME, zArr cI 6 me), (MZ, zArr cI 6 mq), (MT, zArr cI 6 mt)] := hD
  refine lv_aload_n hx hb dX3_come_5 rfl (lv_at hl 0 rfl) ?_
  refine va_get (D := D) (ci := 3) (v := .int (iI ((n : Nat) : Int))) (C := RX3) (T := TX3) (N := 15) hx hb hts (by decide +kernel) hown hK hP 0 rfl rfl 1 (by decide) (hts (.fieldLink RX3 38 "RentHarmonyModel" "lodgers" "I") (by decide +kernel)) (fun _ h9 => h9) rfl dX3_come_6 ?_
  refine zr_bi (n := ((6 : Nat) : Int)) hx hb dX3_come_9 rfl ?_
  refine zr_icmp_ne (tgt := 20) hx hb dX3_come_11 (by decide) (zB_of (by omega) (by omega)) (zB_of (by omega) (by omega)) (fun c1 => ?_) (fun c1 => ?_)
  · exact absurd c1 (by omega)
  · refine lv_aload_n hx hb dX3_come_14 rfl (lv_at hl 0 rfl) ?_
    refine zr_ic (n := ((1 : Nat) : Int)) hx hb dX3_come_15 ?_
    refine zc_wi (As := [.int (iI ((1 : Nat) : Int))]) (rest := []) hF (c_X3_fail l D cI M MB MR ME MZ MT n b mr me mq mt ((0 : Nat) : Int) rc wo wy po (-1) (-1) (-1) mu ((1 : Nat) : Int) ) (cwV 1 hts gX3_come_X3_fail rfl rfl rfl (by decide +kernel) ⟨Nat.le_of_ble_eq_true rfl, Nat.le_of_ble_eq_true rfl⟩) hK hP hD hS [0, 1, 2, 3, 4, 5] rfl rfl (fun _ => rfl) 0 rfl 0 rfl rfl rfl rfl hl.1 rfl (Nat.le_of_ble_eq_true rfl) dX3_come_16 ⟨Nat.zero_le _, Nat.zero_le _⟩ (fun r3 u2 H locs hw hP hD hS => ?_)
    subst hw
    have hP : va_P D vwCl [(M, .inr (3, [.int (iI (((1 : Nat) : Int))), .int (iI ((n : Nat) : Int)), .int (iI (rc)), .ref MB, .ref MR, .ref ME, .ref MZ, .int (iI (wo)), .int (iI (wy)), .int (iI (po)), .ref MT, .int (iI (-1)), .int (iI (-1)), .int (iI (-1)), .int (iI (mu))])), (MB, zArr cI 36 b), (MR, zArr cI 6 mr), (ME, zArr cI 6 me), (MZ, zArr cI 6 mq), (MT, zArr cI 6 mt)] H := hP
    have hD : va_D A [(M, .inr (3, [.int (iI (((1 : Nat) : Int))), .int (iI ((n : Nat) : Int)), .int (iI (rc)), .ref MB, .ref MR, .ref ME, .ref MZ, .int (iI (wo)), .int (iI (wy)), .int (iI (po)), .ref MT, .int (iI (-1)), .int (iI (-1)), .int (iI (-1)), .int (iI (mu))])), (MB, zArr cI 36 b), (MR, zArr cI 6 mr), (ME, zArr cI 6 me), (MZ, zArr cI 6 mq), (MT, zArr cI 6 mt)] := hD
    exact zWi_ret hx hb hr hlocks hS dX3_come_19 () rfl hP
set_option maxHeartbeats 4000000 in
set_option maxRecDepth 100000 in
/-- X3_come -/
theorem c_X3_come_ok (l : Launch) (D : va_G) (cI : ClassId) (M MB MR ME MZ MT n : Nat) (b mr me mq mt : Nat → Int) (th rc wo wy po mu : Int)  (hn : n ≤ 6) (hb0 : ∀ k, 0 ≤ b k ∧ b k ≤ 999) (hrc : 0 ≤ rc ∧ rc ≤ 5999) (hmu : 0 ≤ mu ∧ mu ≤ 1) (hf : n < 6) : zWi (S := Unit) l yX3_come wsX3_come 0 0 D cI [.ref M] [(M, .inr (3, [.int (iI (th)), .int (iI ((n : Nat) : Int)), .int (iI (rc)), .ref MB, .ref MR, .ref ME, .ref MZ, .int (iI (wo)), .int (iI (wy)), .int (iI (po)), .ref MT, .int (iI (-1)), .int (iI (-1)), .int (iI (-1)), .int (iI (mu))])), (MB, zArr cI 36 b), (MR, zArr cI 6 mr), (ME, zArr cI 6 me), (MZ, zArr cI 6 mq), (MT, zArr cI 6 mt)] (fun r _ => r = iI ((n : Nat) : Int)) (fun u8 => [(M, .inr (3, [.int (iI (((0 : Nat) : Int))), .int (iI ((n + 1 : Nat) : Int)), .int (iI (rc)), .ref MB, .ref MR, .ref ME, .ref MZ, .int (iI (wo)), .int (iI (wy)), .int (iI (po)), .ref MT, .int (iI (-1)), .int (iI (-1)), .int (iI (-1)), .int (iI (mu))])), (MB, zArr cI 36 (zGr b n (n + 1))), (MR, zArr cI 6 mr), (ME, zArr cI 6 me), (MZ, zArr cI 6 mq), (MT, zArr cI 6 mt)]) := by
  refine zWi_of (cc := cX3_come) (maxL := 2) (rt := .int) (by decide) rfl (Nat.le_of_ble_eq_true rfl) ?_
  intro p e s m args below meth c ls A hF hr hlocks hP hK hD hS hl
  have hF : zFix p m c cX3_come 2 s args wsX3_come RX3 := hF
  obtain ⟨hx, hb, hml, hown, hts⟩ := id hF
  have hP : va_P D vwCl [(M, .inr (3, [.int (iI (th)), .int (iI ((n : Nat) : Int)), .int (iI (rc)), .ref MB, .ref MR, .ref ME, .ref MZ, .int (iI (wo)), .int (iI (wy)), .int (iI (po)), .ref MT, .int (iI (-1)), .int (iI (-1)), .int (iI (-1)), .int (iI (mu))])), (MB, zArr cI 36 b), (MR, zArr cI 6 mr), (ME, zArr cI 6 me), (MZ, zArr cI 6 mq), (MT, zArr cI 6 mt)] s.heap := hP
  have hD : va_D A [(M, .inr (3, [.int (iI (th)), .int (iI ((n : Nat) : Int)), .int (iI (rc)), .ref MB, .ref MR, .ref ME, .ref MZ, .int (iI (wo)), .int (iI (wy)), .int (iI (po)), .ref MT, .int (iI (-1)), .int (iI (-1)), .int (iI (-1)), .int (iI (mu))])), (MB, zArr cI 36 b), (MR, zArr cI 6 mr), (ME, zArr cI 6 me), (MZ, zArr cI 6 mq), (MT, zArr cI 6 mt)] := hD
  skip
  have hl : lv_has ls 2 [(0, .ref M)] := hl
  refine lv_aload_n hx hb dX3_come_0 rfl (lv_at hl 0 rfl) ?_
  refine zr_ic (n := ((0 : Nat) : Int)) hx hb dX3_come_1 ?_
  refine va_put (D := D) (ci := 3) (v := .int (iI ((0 : Nat) : Int))) (ty := .int) (C := RX3) (T := TX3) (N := 15) hx hb hts (by decide +kernel) tyX3 tyX3_ok nmX3 hown hK hP hD hS 0 rfl rfl 0 (by decide) (hts (.fieldLink RX3 35 "RentHarmonyModel" "thrown" "I") (by decide +kernel)) (fun _ h9 => h9) rfl (by decide +kernel) rfl rfl (Nat.le_of_ble_eq_true rfl) dX3_come_2 (fun H locs hP hD hS => ?_)
  have hP : va_P D vwCl [(M, .inr (3, [.int (iI ((0 : Nat) : Int)), .int (iI ((n : Nat) : Int)), .int (iI (rc)), .ref MB, .ref MR, .ref ME, .ref MZ, .int (iI (wo)), .int (iI (wy)), .int (iI (po)), .ref MT, .int (iI (-1)), .int (iI (-1)), .int (iI (-1)), .int (iI (mu))])), (MB, zArr cI 36 b), (MR, zArr cI 6 mr), (ME, zArr cI 6 me), (MZ, zArr cI 6 mq), (MT, zArr cI 6 mt)] H := hP
  have hD : va_D A [(M, .inr (3, [.int (iI ((0 : Nat) : Int)), .int (iI ((n : Nat) : Int)), .int (iI (rc)), .ref MB, .ref MR, .ref ME, .ref MZ, .int (iI (wo)), .int (iI (wy)), .int (iI (po)), .ref MT, .int (iI (-1)), .int (iI (-1)), .int (iI (-1)), .int (iI (mu))])), (MB, zArr cI 36 b), (MR, zArr cI 6 mr), (ME, zArr cI 6 me), (MZ, zArr cI 6 mq), (MT, zArr cI 6 mt)] := hD
  refine lv_aload_n hx hb dX3_come_5 rfl (lv_at hl 0 rfl) ?_
  refine va_get (D := D) (ci := 3) (v := .int (iI ((n : Nat) : Int))) (C := RX3) (T := TX3) (N := 15) hx hb hts (by decide +kernel) hown hK hP 0 rfl rfl 1 (by decide) (hts (.fieldLink RX3 38 "RentHarmonyModel" "lodgers" "I") (by decide +kernel)) (fun _ h9 => h9) rfl dX3_come_6 ?_
  refine zr_bi (n := ((6 : Nat) : Int)) hx hb dX3_come_9 rfl ?_
  refine zr_icmp_ne (tgt := 20) hx hb dX3_come_11 (by decide) (zB_of (by omega) (by omega)) (zB_of (by omega) (by omega)) (fun c1 => ?_) (fun c1 => ?_)
  · refine zr_ic (n := ((0 : Nat) : Int)) hx hb dX3_come_20 ?_
    refine lv_istore_n (lv' := [(1, .int (iI ((0 : Nat) : Int))), (0, .ref M)]) hx hb dX3_come_21 rfl hl (by decide) rfl (fun ls hl => ?_)
    have LG : ∀ (k0 : Nat) (i : Nat), n + 1 - i < k0 → (hi : i ≤ n + 1) → ∀ (H : Heap) (locs : List Loc), va_P D vwCl [(M, .inr (3, [.int (iI ((0 : Nat) : Int)), .int (iI ((n : Nat) : Int)), .int (iI (rc)), .ref MB, .ref MR, .ref ME, .ref MZ, .int (iI (wo)), .int (iI (wy)), .int (iI (po)), .ref MT, .int (iI (-1)), .int (iI (-1)), .int (iI (-1)), .int (iI (mu))])), (MB, zArr cI 36 (zGr b n i)), (MR, zArr cI 6 mr), (ME, zArr cI 6 me), (MZ, zArr cI 6 mq), (MT, zArr cI 6 mt)] H → va_D A [(M, .inr (3, [.int (iI ((0 : Nat) : Int)), .int (iI ((n : Nat) : Int)), .int (iI (rc)), .ref MB, .ref MR, .ref ME, .ref MZ, .int (iI (wo)), .int (iI (wy)), .int (iI (po)), .ref MT, .int (iI (-1)), .int (iI (-1)), .int (iI (-1)), .int (iI (mu))])), (MB, zArr cI 36 (zGr b n i)), (MR, zArr cI 6 mr), (ME, zArr cI 6 me), (MZ, zArr cI 6 mq), (MT, zArr cI 6 mt)] → va_S A s.heap H locs → ∀ (ls : Array Slot), lv_has ls 2 [(0, .ref M), (1, .int (iI ((i : Nat) : Int)))] → W p l e (zRm 0 0) s m args below meth c H locs 0 0 (MQ below (va_Qi (S := Unit) (fun r _ => r = iI ((n : Nat) : Int)) (fun u9 t9 => va_P D vwCl ((fun u8 => [(M, .inr (3, [.int (iI (((0 : Nat) : Int))), .int (iI ((n + 1 : Nat) : Int)), .int (iI (rc)), .ref MB, .ref MR, .ref ME, .ref MZ, .int (iI (wo)), .int (iI (wy)), .int (iI (po)), .ref MT, .int (iI (-1)), .int (iI (-1)), .int (iI (-1)), .int (iI (mu))])), (MB, zArr cI 36 (zGr b n (n + 1))), (MR, zArr cI 6 mr), (ME, zArr cI 6 me), (MZ, zArr cI 6 mq), (MT, zArr cI 6 mt)]) u9) t9.heap) A) args s 0 0 A) (F0 m 22 ls []) := by
      intro k0
      induction k0 with
      | zero => intro i hk; exact absurd hk (Nat.not_lt_zero _)
      | succ k0 ih_LG =>
        intro i hk hi H locs hP hD hS ls hl
        refine lv_iload_n hx hb dX3_come_22 rfl (lv_at hl 1 rfl) ?_
        refine lv_aload_n hx hb dX3_come_23 rfl (lv_at hl 0 rfl) ?_
        refine va_get (D := D) (ci := 3) (v := .int (iI ((n : Nat) : Int))) (C := RX3) (T := TX3) (N := 15) hx hb hts (by decide +kernel) hown hK hP 0 rfl rfl 1 (by decide) (hts (.fieldLink RX3 38 "RentHarmonyModel" "lodgers" "I") (by decide +kernel)) (fun _ h9 => h9) rfl dX3_come_24 ?_
        refine zr_icmp_gt (tgt := 66) hx hb dX3_come_27 (by decide) (zB_of (by omega) (by omega)) (zB_of (by omega) (by omega)) (fun c2 => ?_) (fun c2 => ?_)
        · refine lv_aload_n hx hb dX3_come_66 rfl (lv_at hl 0 rfl) ?_
          refine lv_dup hx hb dX3_come_67 rfl ?_
          refine va_get (D := D) (ci := 3) (v := .int (iI ((n : Nat) : Int))) (C := RX3) (T := TX3) (N := 15) hx hb hts (by decide +kernel) hown hK hP 0 rfl rfl 1 (by decide) (hts (.fieldLink RX3 38 "RentHarmonyModel" "lodgers" "I") (by decide +kernel)) (fun _ h9 => h9) rfl dX3_come_68 ?_
          refine zr_ic (n := ((1 : Nat) : Int)) hx hb dX3_come_71 ?_
          refine zr_addN (x := n) (y := 1) hx hb dX3_come_72 ?_
          refine zr_topi (show ((n + 1 : Nat) : Int) = ((n + 1 : Nat) : Int) from (by omega)) ?_
          refine va_put (D := D) (ci := 3) (v := .int (iI ((n + 1 : Nat) : Int))) (ty := .int) (C := RX3) (T := TX3) (N := 15) hx hb hts (by decide +kernel) tyX3 tyX3_ok nmX3 hown hK hP hD hS 0 rfl rfl 1 (by decide) (hts (.fieldLink RX3 38 "RentHarmonyModel" "lodgers" "I") (by decide +kernel)) (fun _ h9 => h9) rfl (by decide +kernel) rfl rfl (Nat.le_of_ble_eq_true rfl) dX3_come_73 (fun H locs hP hD hS => ?_)
          have hP : va_P D vwCl [(M, .inr (3, [.int (iI ((0 : Nat) : Int)), .int (iI ((n + 1 : Nat) : Int)), .int (iI (rc)), .ref MB, .ref MR, .ref ME, .ref MZ, .int (iI (wo)), .int (iI (wy)), .int (iI (po)), .ref MT, .int (iI (-1)), .int (iI (-1)), .int (iI (-1)), .int (iI (mu))])), (MB, zArr cI 36 (zGr b n i)), (MR, zArr cI 6 mr), (ME, zArr cI 6 me), (MZ, zArr cI 6 mq), (MT, zArr cI 6 mt)] H := hP
          have hD : va_D A [(M, .inr (3, [.int (iI ((0 : Nat) : Int)), .int (iI ((n + 1 : Nat) : Int)), .int (iI (rc)), .ref MB, .ref MR, .ref ME, .ref MZ, .int (iI (wo)), .int (iI (wy)), .int (iI (po)), .ref MT, .int (iI (-1)), .int (iI (-1)), .int (iI (-1)), .int (iI (mu))])), (MB, zArr cI 36 (zGr b n i)), (MR, zArr cI 6 mr), (ME, zArr cI 6 me), (MZ, zArr cI 6 mq), (MT, zArr cI 6 mt)] := hD
          refine lv_aload_n hx hb dX3_come_76 rfl (lv_at hl 0 rfl) ?_
          refine va_get (D := D) (ci := 3) (v := .int (iI ((n + 1 : Nat) : Int))) (C := RX3) (T := TX3) (N := 15) hx hb hts (by decide +kernel) hown hK hP 0 rfl rfl 1 (by decide) (hts (.fieldLink RX3 38 "RentHarmonyModel" "lodgers" "I") (by decide +kernel)) (fun _ h9 => h9) rfl dX3_come_77 ?_
          refine zr_ic (n := ((1 : Nat) : Int)) hx hb dX3_come_80 ?_
          refine zr_sub hx hb dX3_come_81 ?_
          refine zr_topi (show (((n + 1 : Nat) : Int) - ((1 : Nat) : Int)) = ((n : Nat) : Int) from (by omega)) ?_
          exact zWi_ret hx hb hr hlocks hS dX3_come_82 () rfl (by have e9 : i = n + 1 := (by omega); rw [e9] at hP; exact hP)
        · refine lv_aload_n hx hb dX3_come_30 rfl (lv_at hl 0 rfl) ?_
          refine va_get (D := D) (ci := 3) (v := .ref MB) (C := RX3) (T := TX3) (N := 15) hx hb hts (by decide +kernel) hown hK hP 0 rfl rfl 3 (by decide) (hts (.fieldLink RX3 9 "RentHarmonyModel" "bids" "[I") (by decide +kernel)) (fun _ h9 => h9) rfl dX3_come_31 ?_
          refine zr_bi (n := ((6 : Nat) : Int)) hx hb dX3_come_34 rfl ?_
          refine lv_iload_n hx hb dX3_come_36 rfl (lv_at hl 1 rfl) ?_
          refine zr_mulN (x := 6) (y := i) hx hb dX3_come_37 ?_
          refine lv_aload_n hx hb dX3_come_38 rfl (lv_at hl 0 rfl) ?_
          refine va_get (D := D) (ci := 3) (v := .int (iI ((n : Nat) : Int))) (C := RX3) (T := TX3) (N := 15) hx hb hts (by decide +kernel) hown hK hP 0 rfl rfl 1 (by decide) (hts (.fieldLink RX3 38 "RentHarmonyModel" "lodgers" "I") (by decide +kernel)) (fun _ h9 => h9) rfl dX3_come_39 ?_
          refine zr_addN (x := 6 * i) (y := n) hx hb dX3_come_42 ?_
          refine zr_ic (n := ((0 : Nat) : Int)) hx hb dX3_come_43 ?_
          refine zr_iast hx hb hK hP hD hS 1 0 rfl rfl ((6 * i) + n) (by omega) (by omega) (by omega) dX3_come_44 (fun H locs hP hD hS => ?_)
          have hP : va_P D vwCl [(M, .inr (3, [.int (iI ((0 : Nat) : Int)), .int (iI ((n : Nat) : Int)), .int (iI (rc)), .ref MB, .ref MR, .ref ME, .ref MZ, .int (iI (wo)), .int (iI (wy)), .int (iI (po)), .ref MT, .int (iI (-1)), .int (iI (-1)), .int (iI (-1)), .int (iI (mu))])), (MB, zArr cI 36 (uZ (zGr b n i) ((6 * i) + n) ((0 : Nat) : Int))), (MR, zArr cI 6 mr), (ME, zArr cI 6 me), (MZ, zArr cI 6 mq), (MT, zArr cI 6 mt)] H := hP
          have hD : va_D A [(M, .inr (3, [.int (iI ((0 : Nat) : Int)), .int (iI ((n : Nat) : Int)), .int (iI (rc)), .ref MB, .ref MR, .ref ME, .ref MZ, .int (iI (wo)), .int (iI (wy)), .int (iI (po)), .ref MT, .int (iI (-1)), .int (iI (-1)), .int (iI (-1)), .int (iI (mu))])), (MB, zArr cI 36 (uZ (zGr b n i) ((6 * i) + n) ((0 : Nat) : Int))), (MR, zArr cI 6 mr), (ME, zArr cI 6 me), (MZ, zArr cI 6 mq), (MT, zArr cI 6 mt)] := hD
          refine lv_aload_n hx hb dX3_come_45 rfl (lv_at hl 0 rfl) ?_
          refine va_get (D := D) (ci := 3) (v := .ref MB) (C := RX3) (T := TX3) (N := 15) hx hb hts (by decide +kernel) hown hK hP 0 rfl rfl 3 (by decide) (hts (.fieldLink RX3 9 "RentHarmonyModel" "bids" "[I") (by decide +kernel)) (fun _ h9 => h9) rfl dX3_come_46 ?_
          refine zr_bi (n := ((6 : Nat) : Int)) hx hb dX3_come_49 rfl ?_
          refine lv_aload_n hx hb dX3_come_51 rfl (lv_at hl 0 rfl) ?_
          refine va_get (D := D) (ci := 3) (v := .int (iI ((n : Nat) : Int))) (C := RX3) (T := TX3) (N := 15) hx hb hts (by decide +kernel) hown hK hP 0 rfl rfl 1 (by decide) (hts (.fieldLink RX3 38 "RentHarmonyModel" "lodgers" "I") (by decide +kernel)) (fun _ h9 => h9) rfl dX3_come_52 ?_
          refine zr_mulN (x := 6) (y := n) hx hb dX3_come_55 ?_
          refine lv_iload_n hx hb dX3_come_56 rfl (lv_at hl 1 rfl) ?_
          refine zr_addN (x := 6 * n) (y := i) hx hb dX3_come_57 ?_
          refine zr_ic (n := ((0 : Nat) : Int)) hx hb dX3_come_58 ?_
          refine zr_iast hx hb hK hP hD hS 1 0 rfl rfl ((6 * n) + i) (by omega) (by omega) (by omega) dX3_come_59 (fun H locs hP hD hS => ?_)
          have hP : va_P D vwCl [(M, .inr (3, [.int (iI ((0 : Nat) : Int)), .int (iI ((n : Nat) : Int)), .int (iI (rc)), .ref MB, .ref MR, .ref ME, .ref MZ, .int (iI (wo)), .int (iI (wy)), .int (iI (po)), .ref MT, .int (iI (-1)), .int (iI (-1)), .int (iI (-1)), .int (iI (mu))])), (MB, zArr cI 36 (uZ (uZ (zGr b n i) ((6 * i) + n) ((0 : Nat) : Int)) ((6 * n) + i) ((0 : Nat) : Int))), (MR, zArr cI 6 mr), (ME, zArr cI 6 me), (MZ, zArr cI 6 mq), (MT, zArr cI 6 mt)] H := hP
          have hD : va_D A [(M, .inr (3, [.int (iI ((0 : Nat) : Int)), .int (iI ((n : Nat) : Int)), .int (iI (rc)), .ref MB, .ref MR, .ref ME, .ref MZ, .int (iI (wo)), .int (iI (wy)), .int (iI (po)), .ref MT, .int (iI (-1)), .int (iI (-1)), .int (iI (-1)), .int (iI (mu))])), (MB, zArr cI 36 (uZ (uZ (zGr b n i) ((6 * i) + n) ((0 : Nat) : Int)) ((6 * n) + i) ((0 : Nat) : Int))), (MR, zArr cI 6 mr), (ME, zArr cI 6 me), (MZ, zArr cI 6 mq), (MT, zArr cI 6 mt)] := hD
          refine zr_iinc (lv2 := [(1, .int (iI (((i : Nat) : Int) + 1))), (0, .ref M)]) hx hb dX3_come_60 hl (k0 := 1) rfl (by decide) rfl (fun ls hl => ?_)
          have hl : lv_has ls 2 [(1, .int (iI ((i + 1 : Nat) : Int))), (0, .ref M)] := hl
          refine lv_goto (tgt := 22) hx hb dX3_come_63 (by decide) ?_
          have hP : va_P D vwCl [(M, .inr (3, [.int (iI ((0 : Nat) : Int)), .int (iI ((n : Nat) : Int)), .int (iI (rc)), .ref MB, .ref MR, .ref ME, .ref MZ, .int (iI (wo)), .int (iI (wy)), .int (iI (po)), .ref MT, .int (iI (-1)), .int (iI (-1)), .int (iI (-1)), .int (iI (mu))])), (MB, zArr cI 36 (zGr b n (i + 1))), (MR, zArr cI 6 mr), (ME, zArr cI 6 me), (MZ, zArr cI 6 mq), (MT, zArr cI 6 mt)] H := by rw [← zGr_m]; exact hP
          have hD : va_D A [(M, .inr (3, [.int (iI ((0 : Nat) : Int)), .int (iI ((n : Nat) : Int)), .int (iI (rc)), .ref MB, .ref MR, .ref ME, .ref MZ, .int (iI (wo)), .int (iI (wy)), .int (iI (po)), .ref MT, .int (iI (-1)), .int (iI (-1)), .int (iI (-1)), .int (iI (mu))])), (MB, zArr cI 36 (zGr b n (i + 1))), (MR, zArr cI 6 mr), (ME, zArr cI 6 me), (MZ, zArr cI 6 mq), (MT, zArr cI 6 mt)] := by rw [← zGr_m]; exact hD
          exact ih_LG (i + 1) (by omega) (by omega) _ _ hP hD hS _ (lv_sub hl [1, 0] rfl)
    exact LG ((n + 1 - (0)) + 1) (0) (Nat.lt_succ_self _) (Nat.zero_le _) _ _ hP hD hS _ (lv_sub hl [1, 0] rfl)
  · exact absurd c1 (by omega)
set_option maxHeartbeats 4000000 in
set_option maxRecDepth 100000 in
/-- X3_bid -/
theorem c_X3_bid_bad1 (l : Launch) (D : va_G) (cI : ClassId) (M MB MR ME MZ MT n : Nat) (b mr me mq mt : Nat → Int) (th rc wo wy po mu : Int) (z1 z2 v : Int) (hn : n ≤ 6) (hz1 : zB z1) (hz2 : zB z2) (hbad : ¬ ((0 ≤ z1 ∧ z1 < (n : Int)) ∧ 0 ≤ z2 ∧ z2 < (n : Int))) : zWi (S := Unit) l yX3_bid wsX3_bid 2 43 D cI [.ref M, .int (iI (z1)), .int (iI (z2)), .int (iI (v))] [(M, .inr (3, [.int (iI (th)), .int (iI ((n : Nat) : Int)), .int (iI (rc)), .ref MB, .ref MR, .ref ME, .ref MZ, .int (iI (wo)), .int (iI (wy)), .int (iI (po)), .ref MT, .int (iI (-1)), .int (iI (-1)), .int (iI (-1)), .int (iI (mu))])), (MB, zArr cI 36 b), (MR, zArr cI 6 mr), (ME, zArr cI 6 me), (MZ, zArr cI 6 mq), (MT, zArr cI 6 mt)] (fun r _ => r = iI 0) (fun _ => [(M, .inr (3, [.int (iI (((1 : Nat) : Int))), .int (iI ((n : Nat) : Int)), .int (iI (rc)), .ref MB, .ref MR, .ref ME, .ref MZ, .int (iI (wo)), .int (iI (wy)), .int (iI (po)), .ref MT, .int (iI (-1)), .int (iI (-1)), .int (iI (-1)), .int (iI (mu))])), (MB, zArr cI 36 b), (MR, zArr cI 6 mr), (ME, zArr cI 6 me), (MZ, zArr cI 6 mq), (MT, zArr cI 6 mt)]) := by
  refine zWi_of (cc := cX3_bid) (maxL := 5) (rt := .int) (by decide) rfl (Nat.le_of_ble_eq_true rfl) ?_
  intro p e s m args below meth c ls A hF hr hlocks hP hK hD hS hl
  have hF : zFix p m c cX3_bid 5 s args wsX3_bid RX3 := hF
  obtain ⟨hx, hb, hml, hown, hts⟩ := id hF
  have hP : va_P D vwCl [(M, .inr (3, [.int (iI (th)), .int (iI ((n : Nat) : Int)), .int (iI (rc)), .ref MB, .ref MR, .ref ME, .ref MZ, .int (iI (wo)), .int (iI (wy)), .int (iI (po)), .ref MT, .int (iI (-1)), .int (iI (-1)), .int (iI (-1)), .int (iI (mu))])), (MB, zArr cI 36 b), (MR, zArr cI 6 mr), (ME, zArr cI 6 me), (MZ, zArr cI 6 mq), (MT, zArr cI 6 mt)] s.heap := hP
  have hD : va_D A [(M, .inr (3, [.int (iI (th)), .int (iI ((n : Nat) : Int)), .int (iI (rc)), .ref MB, .ref MR, .ref ME, .ref MZ, .int (iI (wo)), .int (iI (wy)), .int (iI (po)), .ref MT, .int (iI (-1)), .int (iI (-1)), .int (iI (-1)), .int (iI (mu))])), (MB, zArr cI 36 b), (MR, zArr cI 6 mr), (ME, zArr cI 6 me), (MZ, zArr cI 6 mq), (MT, zArr cI 6 mt)] := hD
  skip
  have hl : lv_has ls 5 [(0, .ref M), (1, .int (iI (z1))), (2, .int (iI (z2))), (3, .int (iI (v)))] := hl
  refine lv_aload_n hx hb dX3_bid_0 rfl (lv_at hl 0 rfl) ?_
  refine zr_ic (n := ((0 : Nat) : Int)) hx hb dX3_bid_1 ?_
  refine va_put (D := D) (ci := 3) (v := .int (iI ((0 : Nat) : Int))) (ty := .int) (C := RX3) (T := TX3) (N := 15) hx hb hts (by decide +kernel) tyX3 tyX3_ok nmX3 hown hK hP hD hS 0 rfl rfl 0 (by decide) (hts (.fieldLink RX3 35 "RentHarmonyModel" "thrown" "I") (by decide +kernel)) (fun _ h9 => h9) rfl (by decide +kernel) rfl rfl (Nat.le_of_ble_eq_true rfl) dX3_bid_2 (fun H locs hP hD hS => ?_)
  have hP : va_P D vwCl [(M, .inr (3, [.int (iI ((0 : Nat) : Int)), .int (iI ((n : Nat) : Int)), .int (iI (rc)), .ref MB, .ref MR, .ref ME, .ref MZ, .int (iI (wo)), .int (iI (wy)), .int (iI (po)), .ref MT, .int (iI (-1)), .int (iI (-1)), .int (iI (-1)), .int (iI (mu))])), (MB, zArr cI 36 b), (MR, zArr cI 6 mr), (ME, zArr cI 6 me), (MZ, zArr cI 6 mq), (MT, zArr cI 6 mt)] H := hP
  have hD : va_D A [(M, .inr (3, [.int (iI ((0 : Nat) : Int)), .int (iI ((n : Nat) : Int)), .int (iI (rc)), .ref MB, .ref MR, .ref ME, .ref MZ, .int (iI (wo)), .int (iI (wy)), .int (iI (po)), .ref MT, .int (iI (-1)), .int (iI (-1)), .int (iI (-1)), .int (iI (mu))])), (MB, zArr cI 36 b), (MR, zArr cI 6 mr), (ME, zArr cI 6 me), (MZ, zArr cI 6 mq), (MT, zArr cI 6 mt)] := hD
  refine lv_aload_n hx hb dX3_bid_5 rfl (lv_at hl 0 rfl) ?_
  refine lv_iload_n hx hb dX3_bid_6 rfl (lv_at hl 1 rfl) ?_
  refine zc_ri (As := [.int (iI (z1))]) (rest := []) hF (c_X3_isOne l D cI M MB MR ME MZ MT n b mr me mq mt ((0 : Nat) : Int) rc wo wy po (-1) (-1) (-1) mu z1 (by omega) hz1) (cwV 1 hts gX3_bid_X3_isOne rfl rfl rfl (by decide +kernel) ⟨Nat.le_of_ble_eq_true rfl, Nat.le_of_ble_eq_true rfl⟩) hK hP [0, 1, 2, 3, 4, 5] rfl 0 rfl 0 rfl rfl rfl rfl hl.1 rfl (Nat.le_of_ble_eq_true rfl) dX3_bid_7 ⟨Nat.zero_le _, Nat.zero_le _⟩ ?_
  refine zr_ifB_eq (tgt := 21) hx hb dX3_bid_10 (by decide)  (fun c1 => ?_) (fun c1 => ?_)
  · refine lv_aload_n hx hb dX3_bid_21 rfl (lv_at hl 0 rfl) ?_
    refine zr_ic (n := ((1 : Nat) : Int)) hx hb dX3_bid_22 ?_
    refine zc_wi (As := [.int (iI ((1 : Nat) : Int))]) (rest := []) hF (c_X3_fail l D cI M MB MR ME MZ MT n b mr me mq mt ((0 : Nat) : Int) rc wo wy po (-1) (-1) (-1) mu ((1 : Nat) : Int) ) (cwV 1 hts gX3_bid_X3_fail rfl rfl rfl (by decide +kernel) ⟨Nat.le_of_ble_eq_true rfl, Nat.le_of_ble_eq_true rfl⟩) hK hP hD hS [0, 1, 2, 3, 4, 5] rfl rfl (fun _ => rfl) 0 rfl 0 rfl rfl rfl rfl hl.1 rfl (Nat.le_of_ble_eq_true rfl) dX3_bid_23 ⟨Nat.zero_le _, Nat.zero_le _⟩ (fun r3 u2 H locs hw hP hD hS => ?_)
    subst hw
    have hP : va_P D vwCl [(M, .inr (3, [.int (iI (((1 : Nat) : Int))), .int (iI ((n : Nat) : Int)), .int (iI (rc)), .ref MB, .ref MR, .ref ME, .ref MZ, .int (iI (wo)), .int (iI (wy)), .int (iI (po)), .ref MT, .int (iI (-1)), .int (iI (-1)), .int (iI (-1)), .int (iI (mu))])), (MB, zArr cI 36 b), (MR, zArr cI 6 mr), (ME, zArr cI 6 me), (MZ, zArr cI 6 mq), (MT, zArr cI 6 mt)] H := hP
    have hD : va_D A [(M, .inr (3, [.int (iI (((1 : Nat) : Int))), .int (iI ((n : Nat) : Int)), .int (iI (rc)), .ref MB, .ref MR, .ref ME, .ref MZ, .int (iI (wo)), .int (iI (wy)), .int (iI (po)), .ref MT, .int (iI (-1)), .int (iI (-1)), .int (iI (-1)), .int (iI (mu))])), (MB, zArr cI 36 b), (MR, zArr cI 6 mr), (ME, zArr cI 6 me), (MZ, zArr cI 6 mq), (MT, zArr cI 6 mt)] := hD
    exact zWi_ret hx hb hr hlocks hS dX3_bid_26 () rfl hP
  · refine lv_aload_n hx hb dX3_bid_13 rfl (lv_at hl 0 rfl) ?_
    refine lv_iload_n hx hb dX3_bid_14 rfl (lv_at hl 2 rfl) ?_
    refine zc_ri (As := [.int (iI (z2))]) (rest := []) hF (c_X3_isOne l D cI M MB MR ME MZ MT n b mr me mq mt ((0 : Nat) : Int) rc wo wy po (-1) (-1) (-1) mu z2 (by omega) hz2) (cwV 1 hts gX3_bid_X3_isOne rfl rfl rfl (by decide +kernel) ⟨Nat.le_of_ble_eq_true rfl, Nat.le_of_ble_eq_true rfl⟩) hK hP [0, 1, 2, 3, 4, 5] rfl 0 rfl 0 rfl rfl rfl rfl hl.1 rfl (Nat.le_of_ble_eq_true rfl) dX3_bid_15 ⟨Nat.zero_le _, Nat.zero_le _⟩ ?_
    refine zr_ifB_ne (tgt := 27) hx hb dX3_bid_18 (by decide)  (fun c4 => ?_) (fun c4 => ?_)
    · exact absurd ⟨c1, c4⟩ hbad
    · refine lv_aload_n hx hb dX3_bid_21 rfl (lv_at hl 0 rfl) ?_
      refine zr_ic (n := ((1 : Nat) : Int)) hx hb dX3_bid_22 ?_
      refine zc_wi (As := [.int (iI ((1 : Nat) : Int))]) (rest := []) hF (c_X3_fail l D cI M MB MR ME MZ MT n b mr me mq mt ((0 : Nat) : Int) rc wo wy po (-1) (-1) (-1) mu ((1 : Nat) : Int) ) (cwV 1 hts gX3_bid_X3_fail rfl rfl rfl (by decide +kernel) ⟨Nat.le_of_ble_eq_true rfl, Nat.le_of_ble_eq_true rfl⟩) hK hP hD hS [0, 1, 2, 3, 4, 5] rfl rfl (fun _ => rfl) 0 rfl 0 rfl rfl rfl rfl hl.1 rfl (Nat.le_of_ble_eq_true rfl) dX3_bid_23 ⟨Nat.zero_le _, Nat.zero_le _⟩ (fun r6 u5 H locs hw hP hD hS => ?_)
      subst hw
      have hP : va_P D vwCl [(M, .inr (3, [.int (iI (((1 : Nat) : Int))), .int (iI ((n : Nat) : Int)), .int (iI (rc)), .ref MB, .ref MR, .ref ME, .ref MZ, .int (iI (wo)), .int (iI (wy)), .int (iI (po)), .ref MT, .int (iI (-1)), .int (iI (-1)), .int (iI (-1)), .int (iI (mu))])), (MB, zArr cI 36 b), (MR, zArr cI 6 mr), (ME, zArr cI 6 me), (MZ, zArr cI 6 mq), (MT, zArr cI 6 mt)] H := hP
      have hD : va_D A [(M, .inr (3, [.int (iI (((1 : Nat) : Int))), .int (iI ((n : Nat) : Int)), .int (iI (rc)), .ref MB, .ref MR, .ref ME, .ref MZ, .int (iI (wo)), .int (iI (wy)), .int (iI (po)), .ref MT, .int (iI (-1)), .int (iI (-1)), .int (iI (-1)), .int (iI (mu))])), (MB, zArr cI 36 b), (MR, zArr cI 6 mr), (ME, zArr cI 6 me), (MZ, zArr cI 6 mq), (MT, zArr cI 6 mt)] := hD
      exact zWi_ret hx hb hr hlocks hS dX3_bid_26 () rfl hP
set_option maxHeartbeats 4000000 in
set_option maxRecDepth 100000 in
/-- X3_bid -/
theorem c_X3_bid_bad2 (l : Launch) (D : va_G) (cI : ClassId) (M MB MR ME MZ MT n : Nat) (b mr me mq mt : Nat → Int) (th rc wo wy po mu : Int) (x y : Nat) (v : Int) (hn : n ≤ 6) (hx0 : x < n) (hy0 : y < n) (hv : zB v) (hbad : ¬ (0 ≤ v ∧ v ≤ 999)) : zWi (S := Unit) l yX3_bid wsX3_bid 2 43 D cI [.ref M, .int (iI ((x : Nat) : Int)), .int (iI ((y : Nat) : Int)), .int (iI (v))] [(M, .inr (3, [.int (iI (th)), .int (iI ((n : Nat) : Int)), .int (iI (rc)), .ref MB, .ref MR, .ref ME, .ref MZ, .int (iI (wo)), .int (iI (wy)), .int (iI (po)), .ref MT, .int (iI (-1)), .int (iI (-1)), .int (iI (-1)), .int (iI (mu))])), (MB, zArr cI 36 b), (MR, zArr cI 6 mr), (ME, zArr cI 6 me), (MZ, zArr cI 6 mq), (MT, zArr cI 6 mt)] (fun r _ => r = iI 0) (fun _ => [(M, .inr (3, [.int (iI (((2 : Nat) : Int))), .int (iI ((n : Nat) : Int)), .int (iI (rc)), .ref MB, .ref MR, .ref ME, .ref MZ, .int (iI (wo)), .int (iI (wy)), .int (iI (po)), .ref MT, .int (iI (-1)), .int (iI (-1)), .int (iI (-1)), .int (iI (mu))])), (MB, zArr cI 36 b), (MR, zArr cI 6 mr), (ME, zArr cI 6 me), (MZ, zArr cI 6 mq), (MT, zArr cI 6 mt)]) := by
  refine zWi_of (cc := cX3_bid) (maxL := 5) (rt := .int) (by decide) rfl (Nat.le_of_ble_eq_true rfl) ?_
  intro p e s m args below meth c ls A hF hr hlocks hP hK hD hS hl
  have hF : zFix p m c cX3_bid 5 s args wsX3_bid RX3 := hF
  obtain ⟨hx, hb, hml, hown, hts⟩ := id hF
  have hP : va_P D vwCl [(M, .inr (3, [.int (iI (th)), .int (iI ((n : Nat) : Int)), .int (iI (rc)), .ref MB, .ref MR, .ref ME, .ref MZ, .int (iI (wo)), .int (iI (wy)), .int (iI (po)), .ref MT, .int (iI (-1)), .int (iI (-1)), .int (iI (-1)), .int (iI (mu))])), (MB, zArr cI 36 b), (MR, zArr cI 6 mr), (ME, zArr cI 6 me), (MZ, zArr cI 6 mq), (MT, zArr cI 6 mt)] s.heap := hP
  have hD : va_D A [(M, .inr (3, [.int (iI (th)), .int (iI ((n : Nat) : Int)), .int (iI (rc)), .ref MB, .ref MR, .ref ME, .ref MZ, .int (iI (wo)), .int (iI (wy)), .int (iI (po)), .ref MT, .int (iI (-1)), .int (iI (-1)), .int (iI (-1)), .int (iI (mu))])), (MB, zArr cI 36 b), (MR, zArr cI 6 mr), (ME, zArr cI 6 me), (MZ, zArr cI 6 mq), (MT, zArr cI 6 mt)] := hD
  skip
  have hl : lv_has ls 5 [(0, .ref M), (1, .int (iI ((x : Nat) : Int))), (2, .int (iI ((y : Nat) : Int))), (3, .int (iI (v)))] := hl
  refine lv_aload_n hx hb dX3_bid_0 rfl (lv_at hl 0 rfl) ?_
  refine zr_ic (n := ((0 : Nat) : Int)) hx hb dX3_bid_1 ?_
  refine va_put (D := D) (ci := 3) (v := .int (iI ((0 : Nat) : Int))) (ty := .int) (C := RX3) (T := TX3) (N := 15) hx hb hts (by decide +kernel) tyX3 tyX3_ok nmX3 hown hK hP hD hS 0 rfl rfl 0 (by decide) (hts (.fieldLink RX3 35 "RentHarmonyModel" "thrown" "I") (by decide +kernel)) (fun _ h9 => h9) rfl (by decide +kernel) rfl rfl (Nat.le_of_ble_eq_true rfl) dX3_bid_2 (fun H locs hP hD hS => ?_)
  have hP : va_P D vwCl [(M, .inr (3, [.int (iI ((0 : Nat) : Int)), .int (iI ((n : Nat) : Int)), .int (iI (rc)), .ref MB, .ref MR, .ref ME, .ref MZ, .int (iI (wo)), .int (iI (wy)), .int (iI (po)), .ref MT, .int (iI (-1)), .int (iI (-1)), .int (iI (-1)), .int (iI (mu))])), (MB, zArr cI 36 b), (MR, zArr cI 6 mr), (ME, zArr cI 6 me), (MZ, zArr cI 6 mq), (MT, zArr cI 6 mt)] H := hP
  have hD : va_D A [(M, .inr (3, [.int (iI ((0 : Nat) : Int)), .int (iI ((n : Nat) : Int)), .int (iI (rc)), .ref MB, .ref MR, .ref ME, .ref MZ, .int (iI (wo)), .int (iI (wy)), .int (iI (po)), .ref MT, .int (iI (-1)), .int (iI (-1)), .int (iI (-1)), .int (iI (mu))])), (MB, zArr cI 36 b), (MR, zArr cI 6 mr), (ME, zArr cI 6 me), (MZ, zArr cI 6 mq), (MT, zArr cI 6 mt)] := hD
  refine lv_aload_n hx hb dX3_bid_5 rfl (lv_at hl 0 rfl) ?_
  refine lv_iload_n hx hb dX3_bid_6 rfl (lv_at hl 1 rfl) ?_
  refine zc_ri (As := [.int (iI ((x : Nat) : Int))]) (rest := []) hF (c_X3_isOne l D cI M MB MR ME MZ MT n b mr me mq mt ((0 : Nat) : Int) rc wo wy po (-1) (-1) (-1) mu ((x : Nat) : Int) (by omega) (zB_of (by omega) (by omega))) (cwV 1 hts gX3_bid_X3_isOne rfl rfl rfl (by decide +kernel) ⟨Nat.le_of_ble_eq_true rfl, Nat.le_of_ble_eq_true rfl⟩) hK hP [0, 1, 2, 3, 4, 5] rfl 0 rfl 0 rfl rfl rfl rfl hl.1 rfl (Nat.le_of_ble_eq_true rfl) dX3_bid_7 ⟨Nat.zero_le _, Nat.zero_le _⟩ ?_
  refine zr_ifB_eq (tgt := 21) hx hb dX3_bid_10 (by decide)  (fun c1 => ?_) (fun c1 => ?_)
  · exact absurd (by omega) c1
  · refine lv_aload_n hx hb dX3_bid_13 rfl (lv_at hl 0 rfl) ?_
    refine lv_iload_n hx hb dX3_bid_14 rfl (lv_at hl 2 rfl) ?_
    refine zc_ri (As := [.int (iI ((y : Nat) : Int))]) (rest := []) hF (c_X3_isOne l D cI M MB MR ME MZ MT n b mr me mq mt ((0 : Nat) : Int) rc wo wy po (-1) (-1) (-1) mu ((y : Nat) : Int) (by omega) (zB_of (by omega) (by omega))) (cwV 1 hts gX3_bid_X3_isOne rfl rfl rfl (by decide +kernel) ⟨Nat.le_of_ble_eq_true rfl, Nat.le_of_ble_eq_true rfl⟩) hK hP [0, 1, 2, 3, 4, 5] rfl 0 rfl 0 rfl rfl rfl rfl hl.1 rfl (Nat.le_of_ble_eq_true rfl) dX3_bid_15 ⟨Nat.zero_le _, Nat.zero_le _⟩ ?_
    refine zr_ifB_ne (tgt := 27) hx hb dX3_bid_18 (by decide)  (fun c2 => ?_) (fun c2 => ?_)
    · refine lv_iload_n hx hb dX3_bid_27 rfl (lv_at hl 3 rfl) ?_
      refine zr_ic (n := ((0 : Nat) : Int)) hx hb dX3_bid_28 ?_
      refine zr_si (n := ((999 : Nat) : Int)) hx hb dX3_bid_29 rfl ?_
      refine zc_riS (As := [.int (iI (v)), .int (iI ((0 : Nat) : Int)), .int (iI ((999 : Nat) : Int))]) (rest := []) hF (c_X3_isIn l D cI v ((0 : Nat) : Int) ((999 : Nat) : Int) hv (zB_of (by omega) (by omega)) (zB_of (by omega) (by omega))) (va_cwS 3 hts gX3_bid_X3_isIn rfl rfl rfl (by decide +kernel) ⟨Nat.le_of_ble_eq_true rfl, Nat.le_of_ble_eq_true rfl⟩) hK hP [] rfl 0 rfl rfl hl.1 rfl (Nat.le_of_ble_eq_true rfl) dX3_bid_32 ⟨Nat.zero_le _, Nat.zero_le _⟩ ?_
      refine zr_ifB_ne (tgt := 44) hx hb dX3_bid_35 (by decide)  (fun c3 => ?_) (fun c3 => ?_)
      · exact absurd c3 hbad
      · refine lv_aload_n hx hb dX3_bid_38 rfl (lv_at hl 0 rfl) ?_
        refine zr_ic (n := ((2 : Nat) : Int)) hx hb dX3_bid_39 ?_
        refine zc_wi (As := [.int (iI ((2 : Nat) : Int))]) (rest := []) hF (c_X3_fail l D cI M MB MR ME MZ MT n b mr me mq mt ((0 : Nat) : Int) rc wo wy po (-1) (-1) (-1) mu ((2 : Nat) : Int) ) (cwV 1 hts gX3_bid_X3_fail rfl rfl rfl (by decide +kernel) ⟨Nat.le_of_ble_eq_true rfl, Nat.le_of_ble_eq_true rfl⟩) hK hP hD hS [0, 1, 2, 3, 4, 5] rfl rfl (fun _ => rfl) 0 rfl 0 rfl rfl rfl rfl hl.1 rfl (Nat.le_of_ble_eq_true rfl) dX3_bid_40 ⟨Nat.zero_le _, Nat.zero_le _⟩ (fun r5 u4 H locs hw hP hD hS => ?_)
        subst hw
        have hP : va_P D vwCl [(M, .inr (3, [.int (iI (((2 : Nat) : Int))), .int (iI ((n : Nat) : Int)), .int (iI (rc)), .ref MB, .ref MR, .ref ME, .ref MZ, .int (iI (wo)), .int (iI (wy)), .int (iI (po)), .ref MT, .int (iI (-1)), .int (iI (-1)), .int (iI (-1)), .int (iI (mu))])), (MB, zArr cI 36 b), (MR, zArr cI 6 mr), (ME, zArr cI 6 me), (MZ, zArr cI 6 mq), (MT, zArr cI 6 mt)] H := hP
        have hD : va_D A [(M, .inr (3, [.int (iI (((2 : Nat) : Int))), .int (iI ((n : Nat) : Int)), .int (iI (rc)), .ref MB, .ref MR, .ref ME, .ref MZ, .int (iI (wo)), .int (iI (wy)), .int (iI (po)), .ref MT, .int (iI (-1)), .int (iI (-1)), .int (iI (-1)), .int (iI (mu))])), (MB, zArr cI 36 b), (MR, zArr cI 6 mr), (ME, zArr cI 6 me), (MZ, zArr cI 6 mq), (MT, zArr cI 6 mt)] := hD
        exact zWi_ret hx hb hr hlocks hS dX3_bid_43 () rfl hP
    · exact absurd (by omega) c2
set_option maxHeartbeats 4000000 in
set_option maxRecDepth 100000 in
/-- X3_bid -/
theorem c_X3_bid_ok (l : Launch) (D : va_G) (cI : ClassId) (M MB MR ME MZ MT n : Nat) (b mr me mq mt : Nat → Int) (th rc wo wy po mu : Int) (x y : Nat) (v : Int) (hn : n ≤ 6) (hb0 : ∀ k, 0 ≤ b k ∧ b k ≤ 999) (hrc : 0 ≤ rc ∧ rc ≤ 5999) (hmu : 0 ≤ mu ∧ mu ≤ 1) (hx0 : x < n) (hy0 : y < n) (hv : 0 ≤ v ∧ v ≤ 999) : zWi (S := Unit) l yX3_bid wsX3_bid 2 43 D cI [.ref M, .int (iI ((x : Nat) : Int)), .int (iI ((y : Nat) : Int)), .int (iI (v))] [(M, .inr (3, [.int (iI (th)), .int (iI ((n : Nat) : Int)), .int (iI (rc)), .ref MB, .ref MR, .ref ME, .ref MZ, .int (iI (wo)), .int (iI (wy)), .int (iI (po)), .ref MT, .int (iI (-1)), .int (iI (-1)), .int (iI (-1)), .int (iI (mu))])), (MB, zArr cI 36 b), (MR, zArr cI 6 mr), (ME, zArr cI 6 me), (MZ, zArr cI 6 mq), (MT, zArr cI 6 mt)] (fun r _ => r = iI (b (x * 6 + y))) (fun u8 => [(M, .inr (3, [.int (iI (((0 : Nat) : Int))), .int (iI ((n : Nat) : Int)), .int (iI (rc)), .ref MB, .ref MR, .ref ME, .ref MZ, .int (iI (wo)), .int (iI (wy)), .int (iI (po)), .ref MT, .int (iI (-1)), .int (iI (-1)), .int (iI (-1)), .int (iI (mu))])), (MB, zArr cI 36 (uZ b (x * 6 + y) v)), (MR, zArr cI 6 mr), (ME, zArr cI 6 me), (MZ, zArr cI 6 mq), (MT, zArr cI 6 mt)]) := by
  refine zWi_of (cc := cX3_bid) (maxL := 5) (rt := .int) (by decide) rfl (Nat.le_of_ble_eq_true rfl) ?_
  intro p e s m args below meth c ls A hF hr hlocks hP hK hD hS hl
  have hF : zFix p m c cX3_bid 5 s args wsX3_bid RX3 := hF
  obtain ⟨hx, hb, hml, hown, hts⟩ := id hF
  have hP : va_P D vwCl [(M, .inr (3, [.int (iI (th)), .int (iI ((n : Nat) : Int)), .int (iI (rc)), .ref MB, .ref MR, .ref ME, .ref MZ, .int (iI (wo)), .int (iI (wy)), .int (iI (po)), .ref MT, .int (iI (-1)), .int (iI (-1)), .int (iI (-1)), .int (iI (mu))])), (MB, zArr cI 36 b), (MR, zArr cI 6 mr), (ME, zArr cI 6 me), (MZ, zArr cI 6 mq), (MT, zArr cI 6 mt)] s.heap := hP
  have hD : va_D A [(M, .inr (3, [.int (iI (th)), .int (iI ((n : Nat) : Int)), .int (iI (rc)), .ref MB, .ref MR, .ref ME, .ref MZ, .int (iI (wo)), .int (iI (wy)), .int (iI (po)), .ref MT, .int (iI (-1)), .int (iI (-1)), .int (iI (-1)), .int (iI (mu))])), (MB, zArr cI 36 b), (MR, zArr cI 6 mr), (ME, zArr cI 6 me), (MZ, zArr cI 6 mq), (MT, zArr cI 6 mt)] := hD
  skip
  have hl : lv_has ls 5 [(0, .ref M), (1, .int (iI ((x : Nat) : Int))), (2, .int (iI ((y : Nat) : Int))), (3, .int (iI (v)))] := hl
  refine lv_aload_n hx hb dX3_bid_0 rfl (lv_at hl 0 rfl) ?_
  refine zr_ic (n := ((0 : Nat) : Int)) hx hb dX3_bid_1 ?_
  refine va_put (D := D) (ci := 3) (v := .int (iI ((0 : Nat) : Int))) (ty := .int) (C := RX3) (T := TX3) (N := 15) hx hb hts (by decide +kernel) tyX3 tyX3_ok nmX3 hown hK hP hD hS 0 rfl rfl 0 (by decide) (hts (.fieldLink RX3 35 "RentHarmonyModel" "thrown" "I") (by decide +kernel)) (fun _ h9 => h9) rfl (by decide +kernel) rfl rfl (Nat.le_of_ble_eq_true rfl) dX3_bid_2 (fun H locs hP hD hS => ?_)
  have hP : va_P D vwCl [(M, .inr (3, [.int (iI ((0 : Nat) : Int)), .int (iI ((n : Nat) : Int)), .int (iI (rc)), .ref MB, .ref MR, .ref ME, .ref MZ, .int (iI (wo)), .int (iI (wy)), .int (iI (po)), .ref MT, .int (iI (-1)), .int (iI (-1)), .int (iI (-1)), .int (iI (mu))])), (MB, zArr cI 36 b), (MR, zArr cI 6 mr), (ME, zArr cI 6 me), (MZ, zArr cI 6 mq), (MT, zArr cI 6 mt)] H := hP
  have hD : va_D A [(M, .inr (3, [.int (iI ((0 : Nat) : Int)), .int (iI ((n : Nat) : Int)), .int (iI (rc)), .ref MB, .ref MR, .ref ME, .ref MZ, .int (iI (wo)), .int (iI (wy)), .int (iI (po)), .ref MT, .int (iI (-1)), .int (iI (-1)), .int (iI (-1)), .int (iI (mu))])), (MB, zArr cI 36 b), (MR, zArr cI 6 mr), (ME, zArr cI 6 me), (MZ, zArr cI 6 mq), (MT, zArr cI 6 mt)] := hD
  refine lv_aload_n hx hb dX3_bid_5 rfl (lv_at hl 0 rfl) ?_
  refine lv_iload_n hx hb dX3_bid_6 rfl (lv_at hl 1 rfl) ?_
  refine zc_ri (As := [.int (iI ((x : Nat) : Int))]) (rest := []) hF (c_X3_isOne l D cI M MB MR ME MZ MT n b mr me mq mt ((0 : Nat) : Int) rc wo wy po (-1) (-1) (-1) mu ((x : Nat) : Int) (by omega) (zB_of (by omega) (by omega))) (cwV 1 hts gX3_bid_X3_isOne rfl rfl rfl (by decide +kernel) ⟨Nat.le_of_ble_eq_true rfl, Nat.le_of_ble_eq_true rfl⟩) hK hP [0, 1, 2, 3, 4, 5] rfl 0 rfl 0 rfl rfl rfl rfl hl.1 rfl (Nat.le_of_ble_eq_true rfl) dX3_bid_7 ⟨Nat.zero_le _, Nat.zero_le _⟩ ?_
  refine zr_ifB_eq (tgt := 21) hx hb dX3_bid_10 (by decide)  (fun c1 => ?_) (fun c1 => ?_)
  · exact absurd (by omega) c1
  · refine lv_aload_n hx hb dX3_bid_13 rfl (lv_at hl 0 rfl) ?_
    refine lv_iload_n hx hb dX3_bid_14 rfl (lv_at hl 2 rfl) ?_
    refine zc_ri (As := [.int (iI ((y : Nat) : Int))]) (rest := []) hF (c_X3_isOne l D cI M MB MR ME MZ MT n b mr me mq mt ((0 : Nat) : Int) rc wo wy po (-1) (-1) (-1) mu ((y : Nat) : Int) (by omega) (zB_of (by omega) (by omega))) (cwV 1 hts gX3_bid_X3_isOne rfl rfl rfl (by decide +kernel) ⟨Nat.le_of_ble_eq_true rfl, Nat.le_of_ble_eq_true rfl⟩) hK hP [0, 1, 2, 3, 4, 5] rfl 0 rfl 0 rfl rfl rfl rfl hl.1 rfl (Nat.le_of_ble_eq_true rfl) dX3_bid_15 ⟨Nat.zero_le _, Nat.zero_le _⟩ ?_
    refine zr_ifB_ne (tgt := 27) hx hb dX3_bid_18 (by decide)  (fun c2 => ?_) (fun c2 => ?_)
    · refine lv_iload_n hx hb dX3_bid_27 rfl (lv_at hl 3 rfl) ?_
      refine zr_ic (n := ((0 : Nat) : Int)) hx hb dX3_bid_28 ?_
      refine zr_si (n := ((999 : Nat) : Int)) hx hb dX3_bid_29 rfl ?_
      refine zc_riS (As := [.int (iI (v)), .int (iI ((0 : Nat) : Int)), .int (iI ((999 : Nat) : Int))]) (rest := []) hF (c_X3_isIn l D cI v ((0 : Nat) : Int) ((999 : Nat) : Int) (zB_of (by omega) (by omega)) (zB_of (by omega) (by omega)) (zB_of (by omega) (by omega))) (va_cwS 3 hts gX3_bid_X3_isIn rfl rfl rfl (by decide +kernel) ⟨Nat.le_of_ble_eq_true rfl, Nat.le_of_ble_eq_true rfl⟩) hK hP [] rfl 0 rfl rfl hl.1 rfl (Nat.le_of_ble_eq_true rfl) dX3_bid_32 ⟨Nat.zero_le _, Nat.zero_le _⟩ ?_
      refine zr_ifB_ne (tgt := 44) hx hb dX3_bid_35 (by decide)  (fun c3 => ?_) (fun c3 => ?_)
      · refine lv_aload_n hx hb dX3_bid_44 rfl (lv_at hl 0 rfl) ?_
        refine lv_iload_n hx hb dX3_bid_45 rfl (lv_at hl 1 rfl) ?_
        refine lv_iload_n hx hb dX3_bid_46 rfl (lv_at hl 2 rfl) ?_
        refine zc_ri (As := [.int (iI ((x : Nat) : Int)), .int (iI ((y : Nat) : Int))]) (rest := []) hF (c_X3_bi l D cI M MB MR ME MZ MT n b mr me mq mt ((0 : Nat) : Int) rc wo wy po (-1) (-1) (-1) mu x y (by omega) (by omega)) (cwV 2 hts gX3_bid_X3_bi rfl rfl rfl (by decide +kernel) ⟨Nat.le_of_ble_eq_true rfl, Nat.le_of_ble_eq_true rfl⟩) hK hP [0, 1, 2, 3, 4, 5] rfl 0 rfl 0 rfl rfl rfl rfl hl.1 rfl (Nat.le_of_ble_eq_true rfl) dX3_bid_47 ⟨Nat.zero_le _, Nat.zero_le _⟩ ?_
        refine lv_istore (lv' := [(4, .int (iI (b (x * 6 + y)))), (0, .ref M), (1, .int (iI ((x : Nat) : Int))), (2, .int (iI ((y : Nat) : Int))), (3, .int (iI (v)))]) hx hb dX3_bid_50 hl (by decide) rfl (fun ls hl => ?_)
        refine lv_aload_n hx hb dX3_bid_52 rfl (lv_at hl 1 rfl) ?_
        refine va_get (D := D) (ci := 3) (v := .ref MB) (C := RX3) (T := TX3) (N := 15) hx hb hts (by decide +kernel) hown hK hP 0 rfl rfl 3 (by decide) (hts (.fieldLink RX3 9 "RentHarmonyModel" "bids" "[I") (by decide +kernel)) (fun _ h9 => h9) rfl dX3_bid_53 ?_
        refine zr_bi (n := ((6 : Nat) : Int)) hx hb dX3_bid_56 rfl ?_
        refine lv_iload_n hx hb dX3_bid_58 rfl (lv_at hl 2 rfl) ?_
        refine zr_mulN (x := 6) (y := x) hx hb dX3_bid_59 ?_
        refine lv_iload_n hx hb dX3_bid_60 rfl (lv_at hl 3 rfl) ?_
        refine zr_addN (x := 6 * x) (y := y) hx hb dX3_bid_61 ?_
        refine lv_iload_n hx hb dX3_bid_62 rfl (lv_at hl 4 rfl) ?_
        refine zr_iast hx hb hK hP hD hS 1 0 rfl rfl ((6 * x) + y) (by omega) (by omega) (by omega) dX3_bid_63 (fun H locs hP hD hS => ?_)
        have hP : va_P D vwCl [(M, .inr (3, [.int (iI ((0 : Nat) : Int)), .int (iI ((n : Nat) : Int)), .int (iI (rc)), .ref MB, .ref MR, .ref ME, .ref MZ, .int (iI (wo)), .int (iI (wy)), .int (iI (po)), .ref MT, .int (iI (-1)), .int (iI (-1)), .int (iI (-1)), .int (iI (mu))])), (MB, zArr cI 36 (uZ b ((6 * x) + y) v)), (MR, zArr cI 6 mr), (ME, zArr cI 6 me), (MZ, zArr cI 6 mq), (MT, zArr cI 6 mt)] H := hP
        have hD : va_D A [(M, .inr (3, [.int (iI ((0 : Nat) : Int)), .int (iI ((n : Nat) : Int)), .int (iI (rc)), .ref MB, .ref MR, .ref ME, .ref MZ, .int (iI (wo)), .int (iI (wy)), .int (iI (po)), .ref MT, .int (iI (-1)), .int (iI (-1)), .int (iI (-1)), .int (iI (mu))])), (MB, zArr cI 36 (uZ b ((6 * x) + y) v)), (MR, zArr cI 6 mr), (ME, zArr cI 6 me), (MZ, zArr cI 6 mq), (MT, zArr cI 6 mt)] := hD
        refine lv_iload hx hb dX3_bid_64 (lv_at hl 0 rfl) ?_
        exact zWi_ret hx hb hr hlocks hS dX3_bid_66 () rfl (by rw [show x * 6 + y = 6 * x + y by omega]; exact hP)
      · exact absurd (by omega) c3
    · exact absurd (by omega) c2
set_option maxHeartbeats 4000000 in
set_option maxRecDepth 100000 in
/-- X3_rent -/
theorem c_X3_rent_bad (l : Launch) (D : va_G) (cI : ClassId) (M MB MR ME MZ MT n : Nat) (b mr me mq mt : Nat → Int) (th rc wo wy po mu : Int) (v : Int) (hn : n ≤ 6) (hv : zB v) (hbad : ¬ (0 ≤ v ∧ v ≤ 5999)) : zWi (S := Unit) l yX3_rent wsX3_rent 1 22 D cI [.ref M, .int (iI (v))] [(M, .inr (3, [.int (iI (th)), .int (iI ((n : Nat) : Int)), .int (iI (rc)), .ref MB, .ref MR, .ref ME, .ref MZ, .int (iI (wo)), .int (iI (wy)), .int (iI (po)), .ref MT, .int (iI (-1)), .int (iI (-1)), .int (iI (-1)), .int (iI (mu))])), (MB, zArr cI 36 b), (MR, zArr cI 6 mr), (ME, zArr cI 6 me), (MZ, zArr cI 6 mq), (MT, zArr cI 6 mt)] (fun r _ => r = iI 0) (fun _ => [(M, .inr (3, [.int (iI (((1 : Nat) : Int))), .int (iI ((n : Nat) : Int)), .int (iI (rc)), .ref MB, .ref MR, .ref ME, .ref MZ, .int (iI (wo)), .int (iI (wy)), .int (iI (po)), .ref MT, .int (iI (-1)), .int (iI (-1)), .int (iI (-1)), .int (iI (mu))])), (MB, zArr cI 36 b), (MR, zArr cI 6 mr), (ME, zArr cI 6 me), (MZ, zArr cI 6 mq), (MT, zArr cI 6 mt)]) := by
  refine zWi_of (cc := cX3_rent) (maxL := 3) (rt := .int) (by decide) rfl (Nat.le_of_ble_eq_true rfl) ?_
  intro p e s m args below meth c ls A hF hr hlocks hP hK hD hS hl
  have hF : zFix p m c cX3_rent 3 s args wsX3_rent RX3 := hF
  obtain ⟨hx, hb, hml, hown, hts⟩ := id hF
  have hP : va_P D vwCl [(M, .inr (3, [.int (iI (th)), .int (iI ((n : Nat) : Int)), .int (iI (rc)), .ref MB, .ref MR, .ref ME, .ref MZ, .int (iI (wo)), .int (iI (wy)), .int (iI (po)), .ref MT, .int (iI (-1)), .int (iI (-1)), .int (iI (-1)), .int (iI (mu))])), (MB, zArr cI 36 b), (MR, zArr cI 6 mr), (ME, zArr cI 6 me), (MZ, zArr cI 6 mq), (MT, zArr cI 6 mt)] s.heap := hP
  have hD : va_D A [(M, .inr (3, [.int (iI (th)), .int (iI ((n : Nat) : Int)), .int (iI (rc)), .ref MB, .ref MR, .ref ME, .ref MZ, .int (iI (wo)), .int (iI (wy)), .int (iI (po)), .ref MT, .int (iI (-1)), .int (iI (-1)), .int (iI (-1)), .int (iI (mu))])), (MB, zArr cI 36 b), (MR, zArr cI 6 mr), (ME, zArr cI 6 me), (MZ, zArr cI 6 mq), (MT, zArr cI 6 mt)] := hD
  skip
  have hl : lv_has ls 3 [(0, .ref M), (1, .int (iI (v)))] := hl
  refine lv_aload_n hx hb dX3_rent_0 rfl (lv_at hl 0 rfl) ?_
  refine zr_ic (n := ((0 : Nat) : Int)) hx hb dX3_rent_1 ?_
  refine va_put (D := D) (ci := 3) (v := .int (iI ((0 : Nat) : Int))) (ty := .int) (C := RX3) (T := TX3) (N := 15) hx hb hts (by decide +kernel) tyX3 tyX3_ok nmX3 hown hK hP hD hS 0 rfl rfl 0 (by decide) (hts (.fieldLink RX3 35 "RentHarmonyModel" "thrown" "I") (by decide +kernel)) (fun _ h9 => h9) rfl (by decide +kernel) rfl rfl (Nat.le_of_ble_eq_true rfl) dX3_rent_2 (fun H locs hP hD hS => ?_)
  have hP : va_P D vwCl [(M, .inr (3, [.int (iI ((0 : Nat) : Int)), .int (iI ((n : Nat) : Int)), .int (iI (rc)), .ref MB, .ref MR, .ref ME, .ref MZ, .int (iI (wo)), .int (iI (wy)), .int (iI (po)), .ref MT, .int (iI (-1)), .int (iI (-1)), .int (iI (-1)), .int (iI (mu))])), (MB, zArr cI 36 b), (MR, zArr cI 6 mr), (ME, zArr cI 6 me), (MZ, zArr cI 6 mq), (MT, zArr cI 6 mt)] H := hP
  have hD : va_D A [(M, .inr (3, [.int (iI ((0 : Nat) : Int)), .int (iI ((n : Nat) : Int)), .int (iI (rc)), .ref MB, .ref MR, .ref ME, .ref MZ, .int (iI (wo)), .int (iI (wy)), .int (iI (po)), .ref MT, .int (iI (-1)), .int (iI (-1)), .int (iI (-1)), .int (iI (mu))])), (MB, zArr cI 36 b), (MR, zArr cI 6 mr), (ME, zArr cI 6 me), (MZ, zArr cI 6 mq), (MT, zArr cI 6 mt)] := hD
  refine lv_iload_n hx hb dX3_rent_5 rfl (lv_at hl 1 rfl) ?_
  refine zr_ic (n := ((0 : Nat) : Int)) hx hb dX3_rent_6 ?_
  refine zr_si (n := ((5999 : Nat) : Int)) hx hb dX3_rent_7 rfl ?_
  refine zc_riS (As := [.int (iI (v)), .int (iI ((0 : Nat) : Int)), .int (iI ((5999 : Nat) : Int))]) (rest := []) hF (c_X3_isIn l D cI v ((0 : Nat) : Int) ((5999 : Nat) : Int) hv (zB_of (by omega) (by omega)) (zB_of (by omega) (by omega))) (va_cwS 3 hts gX3_rent_X3_isIn rfl rfl rfl (by decide +kernel) ⟨Nat.le_of_ble_eq_true rfl, Nat.le_of_ble_eq_true rfl⟩) hK hP [] rfl 0 rfl rfl hl.1 rfl (Nat.le_of_ble_eq_true rfl) dX3_rent_10 ⟨Nat.zero_le _, Nat.zero_le _⟩ ?_
  refine zr_ifB_ne (tgt := 22) hx hb dX3_rent_13 (by decide)  (fun c1 => ?_) (fun c1 => ?_)
  · exact absurd c1 hbad
  · refine lv_aload_n hx hb dX3_rent_16 rfl (lv_at hl 0 rfl) ?_
    refine zr_ic (n := ((1 : Nat) : Int)) hx hb dX3_rent_17 ?_
    refine zc_wi (As := [.int (iI ((1 : Nat) : Int))]) (rest := []) hF (c_X3_fail l D cI M MB MR ME MZ MT n b mr me mq mt ((0 : Nat) : Int) rc wo wy po (-1) (-1) (-1) mu ((1 : Nat) : Int) ) (cwV 1 hts gX3_rent_X3_fail rfl rfl rfl (by decide +kernel) ⟨Nat.le_of_ble_eq_true rfl, Nat.le_of_ble_eq_true rfl⟩) hK hP hD hS [0, 1, 2, 3, 4, 5] rfl rfl (fun _ => rfl) 0 rfl 0 rfl rfl rfl rfl hl.1 rfl (Nat.le_of_ble_eq_true rfl) dX3_rent_18 ⟨Nat.zero_le _, Nat.zero_le _⟩ (fun r3 u2 H locs hw hP hD hS => ?_)
    subst hw
    have hP : va_P D vwCl [(M, .inr (3, [.int (iI (((1 : Nat) : Int))), .int (iI ((n : Nat) : Int)), .int (iI (rc)), .ref MB, .ref MR, .ref ME, .ref MZ, .int (iI (wo)), .int (iI (wy)), .int (iI (po)), .ref MT, .int (iI (-1)), .int (iI (-1)), .int (iI (-1)), .int (iI (mu))])), (MB, zArr cI 36 b), (MR, zArr cI 6 mr), (ME, zArr cI 6 me), (MZ, zArr cI 6 mq), (MT, zArr cI 6 mt)] H := hP
    have hD : va_D A [(M, .inr (3, [.int (iI (((1 : Nat) : Int))), .int (iI ((n : Nat) : Int)), .int (iI (rc)), .ref MB, .ref MR, .ref ME, .ref MZ, .int (iI (wo)), .int (iI (wy)), .int (iI (po)), .ref MT, .int (iI (-1)), .int (iI (-1)), .int (iI (-1)), .int (iI (mu))])), (MB, zArr cI 36 b), (MR, zArr cI 6 mr), (ME, zArr cI 6 me), (MZ, zArr cI 6 mq), (MT, zArr cI 6 mt)] := hD
    exact zWi_ret hx hb hr hlocks hS dX3_rent_21 () rfl hP
set_option maxHeartbeats 4000000 in
set_option maxRecDepth 100000 in
/-- X3_rent -/
theorem c_X3_rent_ok (l : Launch) (D : va_G) (cI : ClassId) (M MB MR ME MZ MT n : Nat) (b mr me mq mt : Nat → Int) (th rc wo wy po mu : Int) (v : Int) (hn : n ≤ 6) (hb0 : ∀ k, 0 ≤ b k ∧ b k ≤ 999) (hrc : 0 ≤ rc ∧ rc ≤ 5999) (hmu : 0 ≤ mu ∧ mu ≤ 1) (hv : 0 ≤ v ∧ v ≤ 5999) : zWi (S := Unit) l yX3_rent wsX3_rent 1 22 D cI [.ref M, .int (iI (v))] [(M, .inr (3, [.int (iI (th)), .int (iI ((n : Nat) : Int)), .int (iI (rc)), .ref MB, .ref MR, .ref ME, .ref MZ, .int (iI (wo)), .int (iI (wy)), .int (iI (po)), .ref MT, .int (iI (-1)), .int (iI (-1)), .int (iI (-1)), .int (iI (mu))])), (MB, zArr cI 36 b), (MR, zArr cI 6 mr), (ME, zArr cI 6 me), (MZ, zArr cI 6 mq), (MT, zArr cI 6 mt)] (fun r _ => r = iI rc) (fun u8 => [(M, .inr (3, [.int (iI (((0 : Nat) : Int))), .int (iI ((n : Nat) : Int)), .int (iI (v)), .ref MB, .ref MR, .ref ME, .ref MZ, .int (iI (wo)), .int (iI (wy)), .int (iI (po)), .ref MT, .int (iI (-1)), .int (iI (-1)), .int (iI (-1)), .int (iI (mu))])), (MB, zArr cI 36 b), (MR, zArr cI 6 mr), (ME, zArr cI 6 me), (MZ, zArr cI 6 mq), (MT, zArr cI 6 mt)]) := by
  refine zWi_of (cc := cX3_rent) (maxL := 3) (rt := .int) (by decide) rfl (Nat.le_of_ble_eq_true rfl) ?_
  intro p e s m args below meth c ls A hF hr hlocks hP hK hD hS hl
  have hF : zFix p m c cX3_rent 3 s args wsX3_rent RX3 := hF
  obtain ⟨hx, hb, hml, hown, hts⟩ := id hF
  have hP : va_P D vwCl [(M, .inr (3, [.int (iI (th)), .int (iI ((n : Nat) : Int)), .int (iI (rc)), .ref MB, .ref MR, .ref ME, .ref MZ, .int (iI (wo)), .int (iI (wy)), .int (iI (po)), .ref MT, .int (iI (-1)), .int (iI (-1)), .int (iI (-1)), .int (iI (mu))])), (MB, zArr cI 36 b), (MR, zArr cI 6 mr), (ME, zArr cI 6 me), (MZ, zArr cI 6 mq), (MT, zArr cI 6 mt)] s.heap := hP
  have hD : va_D A [(M, .inr (3, [.int (iI (th)), .int (iI ((n : Nat) : Int)), .int (iI (rc)), .ref MB, .ref MR, .ref ME, .ref MZ, .int (iI (wo)), .int (iI (wy)), .int (iI (po)), .ref MT, .int (iI (-1)), .int (iI (-1)), .int (iI (-1)), .int (iI (mu))])), (MB, zArr cI 36 b), (MR, zArr cI 6 mr), (ME, zArr cI 6 me), (MZ, zArr cI 6 mq), (MT, zArr cI 6 mt)] := hD
  skip
  have hl : lv_has ls 3 [(0, .ref M), (1, .int (iI (v)))] := hl
  refine lv_aload_n hx hb dX3_rent_0 rfl (lv_at hl 0 rfl) ?_
  refine zr_ic (n := ((0 : Nat) : Int)) hx hb dX3_rent_1 ?_
  refine va_put (D := D) (ci := 3) (v := .int (iI ((0 : Nat) : Int))) (ty := .int) (C := RX3) (T := TX3) (N := 15) hx hb hts (by decide +kernel) tyX3 tyX3_ok nmX3 hown hK hP hD hS 0 rfl rfl 0 (by decide) (hts (.fieldLink RX3 35 "RentHarmonyModel" "thrown" "I") (by decide +kernel)) (fun _ h9 => h9) rfl (by decide +kernel) rfl rfl (Nat.le_of_ble_eq_true rfl) dX3_rent_2 (fun H locs hP hD hS => ?_)
  have hP : va_P D vwCl [(M, .inr (3, [.int (iI ((0 : Nat) : Int)), .int (iI ((n : Nat) : Int)), .int (iI (rc)), .ref MB, .ref MR, .ref ME, .ref MZ, .int (iI (wo)), .int (iI (wy)), .int (iI (po)), .ref MT, .int (iI (-1)), .int (iI (-1)), .int (iI (-1)), .int (iI (mu))])), (MB, zArr cI 36 b), (MR, zArr cI 6 mr), (ME, zArr cI 6 me), (MZ, zArr cI 6 mq), (MT, zArr cI 6 mt)] H := hP
  have hD : va_D A [(M, .inr (3, [.int (iI ((0 : Nat) : Int)), .int (iI ((n : Nat) : Int)), .int (iI (rc)), .ref MB, .ref MR, .ref ME, .ref MZ, .int (iI (wo)), .int (iI (wy)), .int (iI (po)), .ref MT, .int (iI (-1)), .int (iI (-1)), .int (iI (-1)), .int (iI (mu))])), (MB, zArr cI 36 b), (MR, zArr cI 6 mr), (ME, zArr cI 6 me), (MZ, zArr cI 6 mq), (MT, zArr cI 6 mt)] := hD
  refine lv_iload_n hx hb dX3_rent_5 rfl (lv_at hl 1 rfl) ?_
  refine zr_ic (n := ((0 : Nat) : Int)) hx hb dX3_rent_6 ?_
  refine zr_si (n := ((5999 : Nat) : Int)) hx hb dX3_rent_7 rfl ?_
  refine zc_riS (As := [.int (iI (v)), .int (iI ((0 : Nat) : Int)), .int (iI ((5999 : Nat) : Int))]) (rest := []) hF (c_X3_isIn l D cI v ((0 : Nat) : Int) ((5999 : Nat) : Int) (zB_of (by omega) (by omega)) (zB_of (by omega) (by omega)) (zB_of (by omega) (by omega))) (va_cwS 3 hts gX3_rent_X3_isIn rfl rfl rfl (by decide +kernel) ⟨Nat.le_of_ble_eq_true rfl, Nat.le_of_ble_eq_true rfl⟩) hK hP [] rfl 0 rfl rfl hl.1 rfl (Nat.le_of_ble_eq_true rfl) dX3_rent_10 ⟨Nat.zero_le _, Nat.zero_le _⟩ ?_
  refine zr_ifB_ne (tgt := 22) hx hb dX3_rent_13 (by decide)  (fun c1 => ?_) (fun c1 => ?_)
  · refine lv_aload_n hx hb dX3_rent_22 rfl (lv_at hl 0 rfl) ?_
    refine va_get (D := D) (ci := 3) (v := .int (iI (rc))) (C := RX3) (T := TX3) (N := 15) hx hb hts (by decide +kernel) hown hK hP 0 rfl rfl 2 (by decide) (hts (.fieldLink RX3 57 "RentHarmonyModel" "rent" "I") (by decide +kernel)) (fun _ h9 => h9) rfl dX3_rent_23 ?_
    refine lv_istore_n (lv' := [(2, .int (iI (rc))), (0, .ref M), (1, .int (iI (v)))]) hx hb dX3_rent_26 rfl hl (by decide) rfl (fun ls hl => ?_)
    refine lv_aload_n hx hb dX3_rent_27 rfl (lv_at hl 1 rfl) ?_
    refine lv_iload_n hx hb dX3_rent_28 rfl (lv_at hl 2 rfl) ?_
    refine va_put (D := D) (ci := 3) (v := .int (iI (v))) (ty := .int) (C := RX3) (T := TX3) (N := 15) hx hb hts (by decide +kernel) tyX3 tyX3_ok nmX3 hown hK hP hD hS 0 rfl rfl 2 (by decide) (hts (.fieldLink RX3 57 "RentHarmonyModel" "rent" "I") (by decide +kernel)) (fun _ h9 => h9) rfl (by decide +kernel) rfl rfl (Nat.le_of_ble_eq_true rfl) dX3_rent_29 (fun H locs hP hD hS => ?_)
    have hP : va_P D vwCl [(M, .inr (3, [.int (iI ((0 : Nat) : Int)), .int (iI ((n : Nat) : Int)), .int (iI (v)), .ref MB, .ref MR, .ref ME, .ref MZ, .int (iI (wo)), .int (iI (wy)), .int (iI (po)), .ref MT, .int (iI (-1)), .int (iI (-1)), .int (iI (-1)), .int (iI (mu))])), (MB, zArr cI 36 b), (MR, zArr cI 6 mr), (ME, zArr cI 6 me), (MZ, zArr cI 6 mq), (MT, zArr cI 6 mt)] H := hP
    have hD : va_D A [(M, .inr (3, [.int (iI ((0 : Nat) : Int)), .int (iI ((n : Nat) : Int)), .int (iI (v)), .ref MB, .ref MR, .ref ME, .ref MZ, .int (iI (wo)), .int (iI (wy)), .int (iI (po)), .ref MT, .int (iI (-1)), .int (iI (-1)), .int (iI (-1)), .int (iI (mu))])), (MB, zArr cI 36 b), (MR, zArr cI 6 mr), (ME, zArr cI 6 me), (MZ, zArr cI 6 mq), (MT, zArr cI 6 mt)] := hD
    refine lv_iload_n hx hb dX3_rent_32 rfl (lv_at hl 0 rfl) ?_
    exact zWi_ret hx hb hr hlocks hS dX3_rent_33 () rfl hP
  · exact absurd (by omega) c1
set_option maxHeartbeats 4000000 in
set_option maxRecDepth 100000 in
/-- X3_leave -/
theorem c_X3_leave_bad (l : Launch) (D : va_G) (cI : ClassId) (M MB MR ME MZ MT n : Nat) (b mr me mq mt : Nat → Int) (th rc wo wy po mu : Int) (z1 : Int) (hn : n ≤ 6) (hz1 : zB z1) (hbad : ¬ (0 ≤ z1 ∧ z1 < (n : Int))) : zWi (S := Unit) l yX3_leave wsX3_leave 2 43 D cI [.ref M, .int (iI (z1))] [(M, .inr (3, [.int (iI (th)), .int (iI ((n : Nat) : Int)), .int (iI (rc)), .ref MB, .ref MR, .ref ME, .ref MZ, .int (iI (wo)), .int (iI (wy)), .int (iI (po)), .ref MT, .int (iI (-1)), .int (iI (-1)), .int (iI (-1)), .int (iI (mu))])), (MB, zArr cI 36 b), (MR, zArr cI 6 mr), (ME, zArr cI 6 me), (MZ, zArr cI 6 mq), (MT, zArr cI 6 mt)] (fun r _ => r = iI 0) (fun _ => [(M, .inr (3, [.int (iI (((1 : Nat) : Int))), .int (iI ((n : Nat) : Int)), .int (iI (rc)), .ref MB, .ref MR, .ref ME, .ref MZ, .int (iI (wo)), .int (iI (wy)), .int (iI (po)), .ref MT, .int (iI (-1)), .int (iI (-1)), .int (iI (-1)), .int (iI (mu))])), (MB, zArr cI 36 b), (MR, zArr cI 6 mr), (ME, zArr cI 6 me), (MZ, zArr cI 6 mq), (MT, zArr cI 6 mt)]) := by
  refine zWi_of (cc := cX3_leave) (maxL := 5) (rt := .int) (by decide) rfl (Nat.le_of_ble_eq_true rfl) ?_
  intro p e s m args below meth c ls A hF hr hlocks hP hK hD hS hl
  have hF : zFix p m c cX3_leave 5 s args wsX3_leave RX3 := hF
  obtain ⟨hx, hb, hml, hown, hts⟩ := id hF
  have hP : va_P D vwCl [(M, .inr (3, [.int (iI (th)), .int (iI ((n : Nat) : Int)), .int (iI (rc)), .ref MB, .ref MR, .ref ME, .ref MZ, .int (iI (wo)), .int (iI (wy)), .int (iI (po)), .ref MT, .int (iI (-1)), .int (iI (-1)), .int (iI (-1)), .int (iI (mu))])), (MB, zArr cI 36 b), (MR, zArr cI 6 mr), (ME, zArr cI 6 me), (MZ, zArr cI 6 mq), (MT, zArr cI 6 mt)] s.heap := hP
  have hD : va_D A [(M, .inr (3, [.int (iI (th)), .int (iI ((n : Nat) : Int)), .int (iI (rc)), .ref MB, .ref MR, .ref ME, .ref MZ, .int (iI (wo)), .int (iI (wy)), .int (iI (po)), .ref MT, .int (iI (-1)), .int (iI (-1)), .int (iI (-1)), .int (iI (mu))])), (MB, zArr cI 36 b), (MR, zArr cI 6 mr), (ME, zArr cI 6 me), (MZ, zArr cI 6 mq), (MT, zArr cI 6 mt)] := hD
  skip
  have hl : lv_has ls 5 [(0, .ref M), (1, .int (iI (z1)))] := hl
  refine lv_aload_n hx hb dX3_leave_0 rfl (lv_at hl 0 rfl) ?_
  refine zr_ic (n := ((0 : Nat) : Int)) hx hb dX3_leave_1 ?_
  refine va_put (D := D) (ci := 3) (v := .int (iI ((0 : Nat) : Int))) (ty := .int) (C := RX3) (T := TX3) (N := 15) hx hb hts (by decide +kernel) tyX3 tyX3_ok nmX3 hown hK hP hD hS 0 rfl rfl 0 (by decide) (hts (.fieldLink RX3 35 "RentHarmonyModel" "thrown" "I") (by decide +kernel)) (fun _ h9 => h9) rfl (by decide +kernel) rfl rfl (Nat.le_of_ble_eq_true rfl) dX3_leave_2 (fun H locs hP hD hS => ?_)
  have hP : va_P D vwCl [(M, .inr (3, [.int (iI ((0 : Nat) : Int)), .int (iI ((n : Nat) : Int)), .int (iI (rc)), .ref MB, .ref MR, .ref ME, .ref MZ, .int (iI (wo)), .int (iI (wy)), .int (iI (po)), .ref MT, .int (iI (-1)), .int (iI (-1)), .int (iI (-1)), .int (iI (mu))])), (MB, zArr cI 36 b), (MR, zArr cI 6 mr), (ME, zArr cI 6 me), (MZ, zArr cI 6 mq), (MT, zArr cI 6 mt)] H := hP
  have hD : va_D A [(M, .inr (3, [.int (iI ((0 : Nat) : Int)), .int (iI ((n : Nat) : Int)), .int (iI (rc)), .ref MB, .ref MR, .ref ME, .ref MZ, .int (iI (wo)), .int (iI (wy)), .int (iI (po)), .ref MT, .int (iI (-1)), .int (iI (-1)), .int (iI (-1)), .int (iI (mu))])), (MB, zArr cI 36 b), (MR, zArr cI 6 mr), (ME, zArr cI 6 me), (MZ, zArr cI 6 mq), (MT, zArr cI 6 mt)] := hD
  refine lv_aload_n hx hb dX3_leave_5 rfl (lv_at hl 0 rfl) ?_
  refine lv_iload_n hx hb dX3_leave_6 rfl (lv_at hl 1 rfl) ?_
  refine zc_ri (As := [.int (iI (z1))]) (rest := []) hF (c_X3_isOne l D cI M MB MR ME MZ MT n b mr me mq mt ((0 : Nat) : Int) rc wo wy po (-1) (-1) (-1) mu z1 (by omega) hz1) (cwV 1 hts gX3_leave_X3_isOne rfl rfl rfl (by decide +kernel) ⟨Nat.le_of_ble_eq_true rfl, Nat.le_of_ble_eq_true rfl⟩) hK hP [0, 1, 2, 3, 4, 5] rfl 0 rfl 0 rfl rfl rfl rfl hl.1 rfl (Nat.le_of_ble_eq_true rfl) dX3_leave_7 ⟨Nat.zero_le _, Nat.zero_le _⟩ ?_
  refine zr_ifB_ne (tgt := 19) hx hb dX3_leave_10 (by decide)  (fun c1 => ?_) (fun c1 => ?_)
  · exact absurd c1 hbad
  · refine lv_aload_n hx hb dX3_leave_13 rfl (lv_at hl 0 rfl) ?_
    refine zr_ic (n := ((1 : Nat) : Int)) hx hb dX3_leave_14 ?_
    refine zc_wi (As := [.int (iI ((1 : Nat) : Int))]) (rest := []) hF (c_X3_fail l D cI M MB MR ME MZ MT n b mr me mq mt ((0 : Nat) : Int) rc wo wy po (-1) (-1) (-1) mu ((1 : Nat) : Int) ) (cwV 1 hts gX3_leave_X3_fail rfl rfl rfl (by decide +kernel) ⟨Nat.le_of_ble_eq_true rfl, Nat.le_of_ble_eq_true rfl⟩) hK hP hD hS [0, 1, 2, 3, 4, 5] rfl rfl (fun _ => rfl) 0 rfl 0 rfl rfl rfl rfl hl.1 rfl (Nat.le_of_ble_eq_true rfl) dX3_leave_15 ⟨Nat.zero_le _, Nat.zero_le _⟩ (fun r3 u2 H locs hw hP hD hS => ?_)
    subst hw
    have hP : va_P D vwCl [(M, .inr (3, [.int (iI (((1 : Nat) : Int))), .int (iI ((n : Nat) : Int)), .int (iI (rc)), .ref MB, .ref MR, .ref ME, .ref MZ, .int (iI (wo)), .int (iI (wy)), .int (iI (po)), .ref MT, .int (iI (-1)), .int (iI (-1)), .int (iI (-1)), .int (iI (mu))])), (MB, zArr cI 36 b), (MR, zArr cI 6 mr), (ME, zArr cI 6 me), (MZ, zArr cI 6 mq), (MT, zArr cI 6 mt)] H := hP
    have hD : va_D A [(M, .inr (3, [.int (iI (((1 : Nat) : Int))), .int (iI ((n : Nat) : Int)), .int (iI (rc)), .ref MB, .ref MR, .ref ME, .ref MZ, .int (iI (wo)), .int (iI (wy)), .int (iI (po)), .ref MT, .int (iI (-1)), .int (iI (-1)), .int (iI (-1)), .int (iI (mu))])), (MB, zArr cI 36 b), (MR, zArr cI 6 mr), (ME, zArr cI 6 me), (MZ, zArr cI 6 mq), (MT, zArr cI 6 mt)] := hD
    exact zWi_ret hx hb hr hlocks hS dX3_leave_18 () rfl hP
set_option maxHeartbeats 4000000 in
set_option maxRecDepth 100000 in
/-- X3_leave -/
theorem c_X3_leave_ok (l : Launch) (D : va_G) (cI : ClassId) (M MB MR ME MZ MT n : Nat) (b mr me mq mt : Nat → Int) (th rc wo wy po mu : Int) (x : Nat) (hn : n ≤ 6) (hb0 : ∀ k, 0 ≤ b k ∧ b k ≤ 999) (hrc : 0 ≤ rc ∧ rc ≤ 5999) (hmu : 0 ≤ mu ∧ mu ≤ 1) (hx0 : x < n) : zWi (S := Int × Int × Int × (Nat → Int) × (Nat → Int) × (Nat → Int) × (Nat → Int)) l yX3_leave wsX3_leave 10 234 D cI [.ref M, .int (iI ((x : Nat) : Int))] [(M, .inr (3, [.int (iI (th)), .int (iI ((n : Nat) : Int)), .int (iI (rc)), .ref MB, .ref MR, .ref ME, .ref MZ, .int (iI (wo)), .int (iI (wy)), .int (iI (po)), .ref MT, .int (iI (-1)), .int (iI (-1)), .int (iI (-1)), .int (iI (mu))])), (MB, zArr cI 36 b), (MR, zArr cI 6 mr), (ME, zArr cI 6 me), (MZ, zArr cI 6 mq), (MT, zArr cI 6 mt)] (fun r _ => r = iI ((zRo n b x : Nat) : Int)) (fun u8 => [(M, .inr (3, [.int (iI (((0 : Nat) : Int))), .int (iI ((n - 1 : Nat) : Int)), .int (iI (rc)), .ref MB, .ref MR, .ref ME, .ref MZ, .int (iI (u8.1)), .int (iI (u8.2.1)), .int (iI (u8.2.2.1)), .ref MT, .int (iI (-1)), .int (iI (-1)), .int (iI (-1)), .int (iI (mu))])), (MB, zArr cI 36 (zSh x (zRo n b x) (n - 1) b (n - 1))), (MR, zArr cI 6 u8.2.2.2.1), (ME, zArr cI 6 u8.2.2.2.2.1), (MZ, zArr cI 6 u8.2.2.2.2.2.1), (MT, zArr cI 6 u8.2.2.2.2.2.2)]) := by
  refine zWi_of (cc := cX3_leave) (maxL := 5) (rt := .int) (by decide) rfl (Nat.le_of_ble_eq_true rfl) ?_
  intro p e s m args below meth c ls A hF hr hlocks hP hK hD hS hl
  have hF : zFix p m c cX3_leave 5 s args wsX3_leave RX3 := hF
  obtain ⟨hx, hb, hml, hown, hts⟩ := id hF
  have hP : va_P D vwCl [(M, .inr (3, [.int (iI (th)), .int (iI ((n : Nat) : Int)), .int (iI (rc)), .ref MB, .ref MR, .ref ME, .ref MZ, .int (iI (wo)), .int (iI (wy)), .int (iI (po)), .ref MT, .int (iI (-1)), .int (iI (-1)), .int (iI (-1)), .int (iI (mu))])), (MB, zArr cI 36 b), (MR, zArr cI 6 mr), (ME, zArr cI 6 me), (MZ, zArr cI 6 mq), (MT, zArr cI 6 mt)] s.heap := hP
  have hD : va_D A [(M, .inr (3, [.int (iI (th)), .int (iI ((n : Nat) : Int)), .int (iI (rc)), .ref MB, .ref MR, .ref ME, .ref MZ, .int (iI (wo)), .int (iI (wy)), .int (iI (po)), .ref MT, .int (iI (-1)), .int (iI (-1)), .int (iI (-1)), .int (iI (mu))])), (MB, zArr cI 36 b), (MR, zArr cI 6 mr), (ME, zArr cI 6 me), (MZ, zArr cI 6 mq), (MT, zArr cI 6 mt)] := hD
  skip
  have hl : lv_has ls 5 [(0, .ref M), (1, .int (iI ((x : Nat) : Int)))] := hl
  refine lv_aload_n hx hb dX3_leave_0 rfl (lv_at hl 0 rfl) ?_
  refine zr_ic (n := ((0 : Nat) : Int)) hx hb dX3_leave_1 ?_
  refine va_put (D := D) (ci := 3) (v := .int (iI ((0 : Nat) : Int))) (ty := .int) (C := RX3) (T := TX3) (N := 15) hx hb hts (by decide +kernel) tyX3 tyX3_ok nmX3 hown hK hP hD hS 0 rfl rfl 0 (by decide) (hts (.fieldLink RX3 35 "RentHarmonyModel" "thrown" "I") (by decide +kernel)) (fun _ h9 => h9) rfl (by decide +kernel) rfl rfl (Nat.le_of_ble_eq_true rfl) dX3_leave_2 (fun H locs hP hD hS => ?_)
  have hP : va_P D vwCl [(M, .inr (3, [.int (iI ((0 : Nat) : Int)), .int (iI ((n : Nat) : Int)), .int (iI (rc)), .ref MB, .ref MR, .ref ME, .ref MZ, .int (iI (wo)), .int (iI (wy)), .int (iI (po)), .ref MT, .int (iI (-1)), .int (iI (-1)), .int (iI (-1)), .int (iI (mu))])), (MB, zArr cI 36 b), (MR, zArr cI 6 mr), (ME, zArr cI 6 me), (MZ, zArr cI 6 mq), (MT, zArr cI 6 mt)] H := hP
  have hD : va_D A [(M, .inr (3, [.int (iI ((0 : Nat) : Int)), .int (iI ((n : Nat) : Int)), .int (iI (rc)), .ref MB, .ref MR, .ref ME, .ref MZ, .int (iI (wo)), .int (iI (wy)), .int (iI (po)), .ref MT, .int (iI (-1)), .int (iI (-1)), .int (iI (-1)), .int (iI (mu))])), (MB, zArr cI 36 b), (MR, zArr cI 6 mr), (ME, zArr cI 6 me), (MZ, zArr cI 6 mq), (MT, zArr cI 6 mt)] := hD
  refine lv_aload_n hx hb dX3_leave_5 rfl (lv_at hl 0 rfl) ?_
  refine lv_iload_n hx hb dX3_leave_6 rfl (lv_at hl 1 rfl) ?_
  refine zc_ri (As := [.int (iI ((x : Nat) : Int))]) (rest := []) hF (c_X3_isOne l D cI M MB MR ME MZ MT n b mr me mq mt ((0 : Nat) : Int) rc wo wy po (-1) (-1) (-1) mu ((x : Nat) : Int) (by omega) (zB_of (by omega) (by omega))) (cwV 1 hts gX3_leave_X3_isOne rfl rfl rfl (by decide +kernel) ⟨Nat.le_of_ble_eq_true rfl, Nat.le_of_ble_eq_true rfl⟩) hK hP [0, 1, 2, 3, 4, 5] rfl 0 rfl 0 rfl rfl rfl rfl hl.1 rfl (Nat.le_of_ble_eq_true rfl) dX3_leave_7 ⟨Nat.zero_le _, Nat.zero_le _⟩ ?_
  refine zr_ifB_ne (tgt := 19) hx hb dX3_leave_10 (by decide)  (fun c1 => ?_) (fun c1 => ?_)
  · refine lv_aload_n hx hb dX3_leave_19 rfl (lv_at hl 0 rfl) ?_
    refine zc_wv (As := []) (rest := []) hF (c_X3_settle l D cI M MB MR ME MZ MT n b mr me mq mt ((0 : Nat) : Int) rc wo wy po mu (by omega) (by assumption) (by assumption) (by omega)) (cwV 0 hts gX3_leave_X3_settle rfl rfl rfl (by decide +kernel) ⟨Nat.le_of_ble_eq_true rfl, Nat.le_of_ble_eq_true rfl⟩) hK hP hD hS [0, 1, 2, 3, 4, 5] rfl rfl (fun _ => rfl) 0 rfl 0 rfl rfl rfl rfl hl.1 rfl (Nat.le_of_ble_eq_true rfl) dX3_leave_20 ⟨Nat.zero_le _, Nat.zero_le _⟩ (fun u2 H locs hw hP hD hS => ?_)
    obtain ⟨wo4, wy4, po4, ro4, me4, mq4, mt4⟩ := u2
    have hst4 : zMset n b rc wo4 wy4 po4 ro4 me4 mq4 := hw
    have hP : va_P D vwCl [(M, .inr (3, [.int (iI ((0 : Nat) : Int)), .int (iI ((n : Nat) : Int)), .int (iI (rc)), .ref MB, .ref MR, .ref ME, .ref MZ, .int (iI (wo4)), .int (iI (wy4)), .int (iI (po4)), .ref MT, .int (iI (-1)), .int (iI (-1)), .int (iI (-1)), .int (iI (mu))])), (MB, zArr cI 36 b), (MR, zArr cI 6 ro4), (ME, zArr cI 6 me4), (MZ, zArr cI 6 mq4), (MT, zArr cI 6 mt4)] H := hP
    have hD : va_D A [(M, .inr (3, [.int (iI ((0 : Nat) : Int)), .int (iI ((n : Nat) : Int)), .int (iI (rc)), .ref MB, .ref MR, .ref ME, .ref MZ, .int (iI (wo4)), .int (iI (wy4)), .int (iI (po4)), .ref MT, .int (iI (-1)), .int (iI (-1)), .int (iI (-1)), .int (iI (mu))])), (MB, zArr cI 36 b), (MR, zArr cI 6 ro4), (ME, zArr cI 6 me4), (MZ, zArr cI 6 mq4), (MT, zArr cI 6 mt4)] := hD
    have hro : ∀ j, j < n → ro4 j = ((zRo n b j : Nat) : Int) := hst4.2.2.1
    have hgn := zRo_lt (b := b) hn
    have hmq : ∀ j, j < n → mq4 j = me4 j + (zShare n (zLeft (zWo n b) rc me4 n)) := hst4.2.2.2.2.1
    refine lv_aload_n hx hb dX3_leave_23 rfl (lv_at hl 0 rfl) ?_
    refine va_get (D := D) (ci := 3) (v := .ref MR) (C := RX3) (T := TX3) (N := 15) hx hb hts (by decide +kernel) hown hK hP 0 rfl rfl 4 (by decide) (hts (.fieldLink RX3 13 "RentHarmonyModel" "rooms" "[I") (by decide +kernel)) (fun _ h9 => h9) rfl dX3_leave_24 ?_
    refine lv_iload_n hx hb dX3_leave_27 rfl (lv_at hl 1 rfl) ?_
    refine zr_iald hx hb hK hP 2 0 rfl rfl (x) (by omega) (by omega) (by omega) dX3_leave_28 ?_
    refine zr_topi (show (ro4 (x)) = ((zRo n b x : Nat) : Int) from (hro x (by omega))) ?_
    have hgx := hgn x (by omega)
    refine lv_istore_n (lv' := [(2, .int (iI ((zRo n b x : Nat) : Int))), (0, .ref M), (1, .int (iI ((x : Nat) : Int)))]) hx hb dX3_leave_29 rfl hl (by decide) rfl (fun ls hl => ?_)
    refine zr_ic (n := ((0 : Nat) : Int)) hx hb dX3_leave_30 ?_
    refine lv_istore_n (lv' := [(3, .int (iI ((0 : Nat) : Int))), (2, .int (iI ((zRo n b x : Nat) : Int))), (0, .ref M), (1, .int (iI ((x : Nat) : Int)))]) hx hb dX3_leave_31 rfl hl (by decide) rfl (fun ls hl => ?_)
    have LO : ∀ (k0 : Nat) (k : Nat), n - 1 - k < k0 → (hk1 : k ≤ n - 1) → ∀ (H : Heap) (locs : List Loc), va_P D vwCl [(M, .inr (3, [.int (iI ((0 : Nat) : Int)), .int (iI ((n : Nat) : Int)), .int (iI (rc)), .ref MB, .ref MR, .ref ME, .ref MZ, .int (iI (wo4)), .int (iI (wy4)), .int (iI (po4)), .ref MT, .int (iI (-1)), .int (iI (-1)), .int (iI (-1)), .int (iI (mu))])), (MB, zArr cI 36 (zSh x (zRo n b x) (n - 1) b k)), (MR, zArr cI 6 ro4), (ME, zArr cI 6 me4), (MZ, zArr cI 6 mq4), (MT, zArr cI 6 mt4)] H → va_D A [(M, .inr (3, [.int (iI ((0 : Nat) : Int)), .int (iI ((n : Nat) : Int)), .int (iI (rc)), .ref MB, .ref MR, .ref ME, .ref MZ, .int (iI (wo4)), .int (iI (wy4)), .int (iI (po4)), .ref MT, .int (iI (-1)), .int (iI (-1)), .int (iI (-1)), .int (iI (mu))])), (MB, zArr cI 36 (zSh x (zRo n b x) (n - 1) b k)), (MR, zArr cI 6 ro4), (ME, zArr cI 6 me4), (MZ, zArr cI 6 mq4), (MT, zArr cI 6 mt4)] → va_S A s.heap H locs → ∀ (ls : Array Slot), lv_has ls 5 [(0, .ref M), (1, .int (iI ((x : Nat) : Int))), (2, .int (iI ((zRo n b x : Nat) : Int))), (3, .int (iI ((k : Nat) : Int)))] → W p l e (zRm 10 234) s m args below meth c H locs 0 0 (MQ below (va_Qi (S := Int × Int × Int × (Nat → Int) × (Nat → Int) × (Nat → Int) × (Nat → Int)) (fun r _ => r = iI ((zRo n b x : Nat) : Int)) (fun u9 t9 => va_P D vwCl ((fun u8 => [(M, .inr (3, [.int (iI (((0 : Nat) : Int))), .int (iI ((n - 1 : Nat) : Int)), .int (iI (rc)), .ref MB, .ref MR, .ref ME, .ref MZ, .int (iI (u8.1)), .int (iI (u8.2.1)), .int (iI (u8.2.2.1)), .ref MT, .int (iI (-1)), .int (iI (-1)), .int (iI (-1)), .int (iI (mu))])), (MB, zArr cI 36 (zSh x (zRo n b x) (n - 1) b (n - 1))), (MR, zArr cI 6 u8.2.2.2.1), (ME, zArr cI 6 u8.2.2.2.2.1), (MZ, zArr cI 6 u8.2.2.2.2.2.1), (MT, zArr cI 6 u8.2.2.2.2.2.2)]) u9) t9.heap) A) args s 0 0 A) (F0 m 32 ls []) := by
      intro k0
      induction k0 with
      | zero => intro k hk; exact absurd hk (Nat.not_lt_zero _)
      | succ k0 ih_LO =>
        intro k hk hk1 H locs hP hD hS ls hl
        refine lv_iload_n hx hb dX3_leave_32 rfl (lv_at hl 3 rfl) ?_
        refine lv_aload_n hx hb dX3_leave_33 rfl (lv_at hl 0 rfl) ?_
        refine va_get (D := D) (ci := 3) (v := .int (iI ((n : Nat) : Int))) (C := RX3) (T := TX3) (N := 15) hx hb hts (by decide +kernel) hown hK hP 0 rfl rfl 1 (by decide) (hts (.fieldLink RX3 38 "RentHarmonyModel" "lodgers" "I") (by decide +kernel)) (fun _ h9 => h9) rfl dX3_leave_34 ?_
        refine zr_ic (n := ((1 : Nat) : Int)) hx hb dX3_leave_37 ?_
        refine zr_sub hx hb dX3_leave_38 ?_
        refine zr_icmp_ge (tgt := 111) hx hb dX3_leave_39 (by decide) (zB_of (by omega) (by omega)) (zB_of (by omega) (by omega)) (fun c5 => ?_) (fun c5 => ?_)
        · refine lv_aload_n hx hb dX3_leave_111 rfl (lv_at hl 0 rfl) ?_
          refine lv_dup hx hb dX3_leave_112 rfl ?_
          refine va_get (D := D) (ci := 3) (v := .int (iI ((n : Nat) : Int))) (C := RX3) (T := TX3) (N := 15) hx hb hts (by decide +kernel) hown hK hP 0 rfl rfl 1 (by decide) (hts (.fieldLink RX3 38 "RentHarmonyModel" "lodgers" "I") (by decide +kernel)) (fun _ h9 => h9) rfl dX3_leave_113 ?_
          refine zr_ic (n := ((1 : Nat) : Int)) hx hb dX3_leave_116 ?_
          refine zr_sub hx hb dX3_leave_117 ?_
          refine zr_topi (show (((n : Nat) : Int) - ((1 : Nat) : Int)) = ((n - 1 : Nat) : Int) from (by omega)) ?_
          refine va_put (D := D) (ci := 3) (v := .int (iI ((n - 1 : Nat) : Int))) (ty := .int) (C := RX3) (T := TX3) (N := 15) hx hb hts (by decide +kernel) tyX3 tyX3_ok nmX3 hown hK hP hD hS 0 rfl rfl 1 (by decide) (hts (.fieldLink RX3 38 "RentHarmonyModel" "lodgers" "I") (by decide +kernel)) (fun _ h9 => h9) rfl (by decide +kernel) rfl rfl (Nat.le_of_ble_eq_true rfl) dX3_leave_118 (fun H locs hP hD hS => ?_)
          have hP : va_P D vwCl [(M, .inr (3, [.int (iI ((0 : Nat) : Int)), .int (iI ((n - 1 : Nat) : Int)), .int (iI (rc)), .ref MB, .ref MR, .ref ME, .ref MZ, .int (iI (wo4)), .int (iI (wy4)), .int (iI (po4)), .ref MT, .int (iI (-1)), .int (iI (-1)), .int (iI (-1)), .int (iI (mu))])), (MB, zArr cI 36 (zSh x (zRo n b x) (n - 1) b k)), (MR, zArr cI 6 ro4), (ME, zArr cI 6 me4), (MZ, zArr cI 6 mq4), (MT, zArr cI 6 mt4)] H := hP
          have hD : va_D A [(M, .inr (3, [.int (iI ((0 : Nat) : Int)), .int (iI ((n - 1 : Nat) : Int)), .int (iI (rc)), .ref MB, .ref MR, .ref ME, .ref MZ, .int (iI (wo4)), .int (iI (wy4)), .int (iI (po4)), .ref MT, .int (iI (-1)), .int (iI (-1)), .int (iI (-1)), .int (iI (mu))])), (MB, zArr cI 36 (zSh x (zRo n b x) (n - 1) b k)), (MR, zArr cI 6 ro4), (ME, zArr cI 6 me4), (MZ, zArr cI 6 mq4), (MT, zArr cI 6 mt4)] := hD
          refine lv_iload_n hx hb dX3_leave_121 rfl (lv_at hl 2 rfl) ?_
          exact zWi_ret hx hb hr hlocks hS dX3_leave_122 (wo4, wy4, po4, ro4, me4, mq4, mt4) rfl (by have e9 : k = n - 1 := (by omega); rw [e9] at hP; exact hP)
        · refine zr_ic (n := ((0 : Nat) : Int)) hx hb dX3_leave_42 ?_
          refine lv_istore (lv' := [(4, .int (iI ((0 : Nat) : Int))), (0, .ref M), (1, .int (iI ((x : Nat) : Int))), (2, .int (iI ((zRo n b x : Nat) : Int))), (3, .int (iI ((k : Nat) : Int)))]) hx hb dX3_leave_43 hl (by decide) rfl (fun ls hl => ?_)
          have LI : ∀ (k0 : Nat) (r : Nat), n - 1 - r < k0 → (hr1 : r ≤ n - 1) → ∀ (H : Heap) (locs : List Loc), va_P D vwCl [(M, .inr (3, [.int (iI ((0 : Nat) : Int)), .int (iI ((n : Nat) : Int)), .int (iI (rc)), .ref MB, .ref MR, .ref ME, .ref MZ, .int (iI (wo4)), .int (iI (wy4)), .int (iI (po4)), .ref MT, .int (iI (-1)), .int (iI (-1)), .int (iI (-1)), .int (iI (mu))])), (MB, zArr cI 36 (zSh1 x (zRo n b x) k (zSh x (zRo n b x) (n - 1) b k) r)), (MR, zArr cI 6 ro4), (ME, zArr cI 6 me4), (MZ, zArr cI 6 mq4), (MT, zArr cI 6 mt4)] H → va_D A [(M, .inr (3, [.int (iI ((0 : Nat) : Int)), .int (iI ((n : Nat) : Int)), .int (iI (rc)), .ref MB, .ref MR, .ref ME, .ref MZ, .int (iI (wo4)), .int (iI (wy4)), .int (iI (po4)), .ref MT, .int (iI (-1)), .int (iI (-1)), .int (iI (-1)), .int (iI (mu))])), (MB, zArr cI 36 (zSh1 x (zRo n b x) k (zSh x (zRo n b x) (n - 1) b k) r)), (MR, zArr cI 6 ro4), (ME, zArr cI 6 me4), (MZ, zArr cI 6 mq4), (MT, zArr cI 6 mt4)] → va_S A s.heap H locs → ∀ (ls : Array Slot), lv_has ls 5 [(0, .ref M), (1, .int (iI ((x : Nat) : Int))), (2, .int (iI ((zRo n b x : Nat) : Int))), (3, .int (iI ((k : Nat) : Int))), (4, .int (iI ((r : Nat) : Int)))] → W p l e (zRm 10 234) s m args below meth c H locs 0 0 (MQ below (va_Qi (S := Int × Int × Int × (Nat → Int) × (Nat → Int) × (Nat → Int) × (Nat → Int)) (fun r _ => r = iI ((zRo n b x : Nat) : Int)) (fun u9 t9 => va_P D vwCl ((fun u8 => [(M, .inr (3, [.int (iI (((0 : Nat) : Int))), .int (iI ((n - 1 : Nat) : Int)), .int (iI (rc)), .ref MB, .ref MR, .ref ME, .ref MZ, .int (iI (u8.1)), .int (iI (u8.2.1)), .int (iI (u8.2.2.1)), .ref MT, .int (iI (-1)), .int (iI (-1)), .int (iI (-1)), .int (iI (mu))])), (MB, zArr cI 36 (zSh x (zRo n b x) (n - 1) b (n - 1))), (MR, zArr cI 6 u8.2.2.2.1), (ME, zArr cI 6 u8.2.2.2.2.1), (MZ, zArr cI 6 u8.2.2.2.2.2.1), (MT, zArr cI 6 u8.2.2.2.2.2.2)]) u9) t9.heap) A) args s 0 0 A) (F0 m 45 ls []) := by
            intro k0
            induction k0 with
            | zero => intro r hk; exact absurd hk (Nat.not_lt_zero _)
            | succ k0 ih_LI =>
              intro r hk hr1 H locs hP hD hS ls hl
              refine lv_iload hx hb dX3_leave_45 (lv_at hl 4 rfl) ?_
              refine lv_aload_n hx hb dX3_leave_47 rfl (lv_at hl 0 rfl) ?_
              refine va_get (D := D) (ci := 3) (v := .int (iI ((n : Nat) : Int))) (C := RX3) (T := TX3) (N := 15) hx hb hts (by decide +kernel) hown hK hP 0 rfl rfl 1 (by decide) (hts (.fieldLink RX3 38 "RentHarmonyModel" "lodgers" "I") (by decide +kernel)) (fun _ h9 => h9) rfl dX3_leave_48 ?_
              refine zr_ic (n := ((1 : Nat) : Int)) hx hb dX3_leave_51 ?_
              refine zr_sub hx hb dX3_leave_52 ?_
              refine zr_icmp_ge (tgt := 105) hx hb dX3_leave_53 (by decide) (zB_of (by omega) (by omega)) (zB_of (by omega) (by omega)) (fun c6 => ?_) (fun c6 => ?_)
              · have e8 : r = n - 1 := by omega
                have hP : va_P D vwCl [(M, .inr (3, [.int (iI ((0 : Nat) : Int)), .int (iI ((n : Nat) : Int)), .int (iI (rc)), .ref MB, .ref MR, .ref ME, .ref MZ, .int (iI (wo4)), .int (iI (wy4)), .int (iI (po4)), .ref MT, .int (iI (-1)), .int (iI (-1)), .int (iI (-1)), .int (iI (mu))])), (MB, zArr cI 36 (zSh x (zRo n b x) (n - 1) b (k + 1))), (MR, zArr cI 6 ro4), (ME, zArr cI 6 me4), (MZ, zArr cI 6 mq4), (MT, zArr cI 6 mt4)] H := by rw [e8] at hP; exact hP
                have hD : va_D A [(M, .inr (3, [.int (iI ((0 : Nat) : Int)), .int (iI ((n : Nat) : Int)), .int (iI (rc)), .ref MB, .ref MR, .ref ME, .ref MZ, .int (iI (wo4)), .int (iI (wy4)), .int (iI (po4)), .ref MT, .int (iI (-1)), .int (iI (-1)), .int (iI (-1)), .int (iI (mu))])), (MB, zArr cI 36 (zSh x (zRo n b x) (n - 1) b (k + 1))), (MR, zArr cI 6 ro4), (ME, zArr cI 6 me4), (MZ, zArr cI 6 mq4), (MT, zArr cI 6 mt4)] := by rw [e8] at hD; exact hD
                refine zr_iinc (lv2 := [(3, .int (iI (((k : Nat) : Int) + 1))), (0, .ref M), (1, .int (iI ((x : Nat) : Int))), (2, .int (iI ((zRo n b x : Nat) : Int))), (4, .int (iI ((r : Nat) : Int)))]) hx hb dX3_leave_105 hl (k0 := 3) rfl (by decide) rfl (fun ls hl => ?_)
                have hl : lv_has ls 5 [(3, .int (iI ((k + 1 : Nat) : Int))), (0, .ref M), (1, .int (iI ((x : Nat) : Int))), (2, .int (iI ((zRo n b x : Nat) : Int))), (4, .int (iI ((r : Nat) : Int)))] := hl
                refine lv_goto (tgt := 32) hx hb dX3_leave_108 (by decide) ?_
                exact ih_LO (k + 1) (by omega) (by omega) _ _ hP hD hS _ (lv_sub hl [1, 2, 3, 0] rfl)
              · refine lv_aload_n hx hb dX3_leave_56 rfl (lv_at hl 0 rfl) ?_
                refine va_get (D := D) (ci := 3) (v := .ref MB) (C := RX3) (T := TX3) (N := 15) hx hb hts (by decide +kernel) hown hK hP 0 rfl rfl 3 (by decide) (hts (.fieldLink RX3 9 "RentHarmonyModel" "bids" "[I") (by decide +kernel)) (fun _ h9 => h9) rfl dX3_leave_57 ?_
                refine zr_bi (n := ((6 : Nat) : Int)) hx hb dX3_leave_60 rfl ?_
                refine lv_iload_n hx hb dX3_leave_62 rfl (lv_at hl 3 rfl) ?_
                refine zr_mulN (x := 6) (y := k) hx hb dX3_leave_63 ?_
                refine lv_iload hx hb dX3_leave_64 (lv_at hl 4 rfl) ?_
                refine zr_addN (x := 6 * k) (y := r) hx hb dX3_leave_66 ?_
                refine lv_aload_n hx hb dX3_leave_67 rfl (lv_at hl 0 rfl) ?_
                refine lv_iload_n hx hb dX3_leave_68 rfl (lv_at hl 3 rfl) ?_
                refine lv_iload_n hx hb dX3_leave_69 rfl (lv_at hl 1 rfl) ?_
                refine zr_icmp_ge (tgt := 77) hx hb dX3_leave_70 (by decide) (zB_of (by omega) (by omega)) (zB_of (by omega) (by omega)) (fun c7 => ?_) (fun c7 => ?_)
                · refine lv_iload_n hx hb dX3_leave_77 rfl (lv_at hl 3 rfl) ?_
                  refine zr_ic (n := ((1 : Nat) : Int)) hx hb dX3_leave_78 ?_
                  refine zr_addN (x := k) (y := 1) hx hb dX3_leave_79 ?_
                  refine lv_iload hx hb dX3_leave_80 (lv_at hl 4 rfl) ?_
                  refine lv_iload_n hx hb dX3_leave_82 rfl (lv_at hl 2 rfl) ?_
                  refine zr_icmp_ge (tgt := 91) hx hb dX3_leave_83 (by decide) (zB_of (by omega) (by omega)) (zB_of (by omega) (by omega)) (fun c8 => ?_) (fun c8 => ?_)
                  · refine lv_iload hx hb dX3_leave_91 (lv_at hl 4 rfl) ?_
                    refine zr_ic (n := ((1 : Nat) : Int)) hx hb dX3_leave_93 ?_
                    refine zr_addN (x := r) (y := 1) hx hb dX3_leave_94 ?_
                    refine zc_ri (As := [.int (iI ((k + 1 : Nat) : Int)), .int (iI ((r + 1 : Nat) : Int))]) (rest := [.int (iI (((6 * k) + r : Nat) : Int)), .ref MB]) hF (c_X3_bi l D cI M MB MR ME MZ MT n (zSh1 x (zRo n b x) k (zSh x (zRo n b x) (n - 1) b k) r) ro4 me4 mq4 mt4 ((0 : Nat) : Int) rc wo4 wy4 po4 (-1) (-1) (-1) mu (k + 1) (r + 1) (by omega) (by omega)) (cwV 2 hts gX3_leave_X3_bi rfl rfl rfl (by decide +kernel) ⟨Nat.le_of_ble_eq_true rfl, Nat.le_of_ble_eq_true rfl⟩) hK hP [0, 1, 2, 3, 4, 5] rfl 0 rfl 0 rfl rfl rfl rfl hl.1 rfl (Nat.le_of_ble_eq_true rfl) dX3_leave_95 ⟨Nat.zero_le _, Nat.zero_le _⟩ ?_
                    refine zr_iast hx hb hK hP hD hS 1 0 rfl rfl ((6 * k) + r) (by omega) (by omega) (by omega) dX3_leave_98 (fun H locs hP hD hS => ?_)
                    have hP : va_P D vwCl [(M, .inr (3, [.int (iI ((0 : Nat) : Int)), .int (iI ((n : Nat) : Int)), .int (iI (rc)), .ref MB, .ref MR, .ref ME, .ref MZ, .int (iI (wo4)), .int (iI (wy4)), .int (iI (po4)), .ref MT, .int (iI (-1)), .int (iI (-1)), .int (iI (-1)), .int (iI (mu))])), (MB, zArr cI 36 (uZ (zSh1 x (zRo n b x) k (zSh x (zRo n b x) (n - 1) b k) r) ((6 * k) + r) ((zSh1 x (zRo n b x) k (zSh x (zRo n b x) (n - 1) b k) r) ((k + 1) * 6 + (r + 1))))), (MR, zArr cI 6 ro4), (ME, zArr cI 6 me4), (MZ, zArr cI 6 mq4), (MT, zArr cI 6 mt4)] H := hP
                    have hD : va_D A [(M, .inr (3, [.int (iI ((0 : Nat) : Int)), .int (iI ((n : Nat) : Int)), .int (iI (rc)), .ref MB, .ref MR, .ref ME, .ref MZ, .int (iI (wo4)), .int (iI (wy4)), .int (iI (po4)), .ref MT, .int (iI (-1)), .int (iI (-1)), .int (iI (-1)), .int (iI (mu))])), (MB, zArr cI 36 (uZ (zSh1 x (zRo n b x) k (zSh x (zRo n b x) (n - 1) b k) r) ((6 * k) + r) ((zSh1 x (zRo n b x) k (zSh x (zRo n b x) (n - 1) b k) r) ((k + 1) * 6 + (r + 1))))), (MR, zArr cI 6 ro4), (ME, zArr cI 6 me4), (MZ, zArr cI 6 mq4), (MT, zArr cI 6 mt4)] := hD
                    refine zr_iinc (lv2 := [(4, .int (iI (((r : Nat) : Int) + 1))), (0, .ref M), (1, .int (iI ((x : Nat) : Int))), (2, .int (iI ((zRo n b x : Nat) : Int))), (3, .int (iI ((k : Nat) : Int)))]) hx hb dX3_leave_99 hl (k0 := 4) rfl (by decide) rfl (fun ls hl => ?_)
                    have hl : lv_has ls 5 [(4, .int (iI ((r + 1 : Nat) : Int))), (0, .ref M), (1, .int (iI ((x : Nat) : Int))), (2, .int (iI ((zRo n b x : Nat) : Int))), (3, .int (iI ((k : Nat) : Int)))] := hl
                    refine lv_goto (tgt := 45) hx hb dX3_leave_102 (by decide) ?_
                    have e1 : (if k < x then k else k + 1) = k + 1 := by split <;> omega
                    have e2 : (if r < zRo n b x then r else r + 1) = r + 1 := by split <;> omega
                    have e3 : (zSh1 x (zRo n b x) k (zSh x (zRo n b x) (n - 1) b k) (r + 1)) = (uZ (zSh1 x (zRo n b x) k (zSh x (zRo n b x) (n - 1) b k) r) ((6 * k) + r) ((zSh1 x (zRo n b x) k (zSh x (zRo n b x) (n - 1) b k) r) ((k + 1) * 6 + (r + 1)))) := by show uZ _ _ _ = _; rw [e1, e2, Nat.mul_comm k 6]
                    have hP : va_P D vwCl [(M, .inr (3, [.int (iI ((0 : Nat) : Int)), .int (iI ((n : Nat) : Int)), .int (iI (rc)), .ref MB, .ref MR, .ref ME, .ref MZ, .int (iI (wo4)), .int (iI (wy4)), .int (iI (po4)), .ref MT, .int (iI (-1)), .int (iI (-1)), .int (iI (-1)), .int (iI (mu))])), (MB, zArr cI 36 (zSh1 x (zRo n b x) k (zSh x (zRo n b x) (n - 1) b k) (r + 1))), (MR, zArr cI 6 ro4), (ME, zArr cI 6 me4), (MZ, zArr cI 6 mq4), (MT, zArr cI 6 mt4)] H := by rw [e3]; exact hP
                    have hD : va_D A [(M, .inr (3, [.int (iI ((0 : Nat) : Int)), .int (iI ((n : Nat) : Int)), .int (iI (rc)), .ref MB, .ref MR, .ref ME, .ref MZ, .int (iI (wo4)), .int (iI (wy4)), .int (iI (po4)), .ref MT, .int (iI (-1)), .int (iI (-1)), .int (iI (-1)), .int (iI (mu))])), (MB, zArr cI 36 (zSh1 x (zRo n b x) k (zSh x (zRo n b x) (n - 1) b k) (r + 1))), (MR, zArr cI 6 ro4), (ME, zArr cI 6 me4), (MZ, zArr cI 6 mq4), (MT, zArr cI 6 mt4)] := by rw [e3]; exact hD
                    exact ih_LI (r + 1) (by omega) (by omega) _ _ hP hD hS _ (lv_sub hl [1, 2, 3, 4, 0] rfl)
                  · refine lv_iload hx hb dX3_leave_86 (lv_at hl 4 rfl) ?_
                    refine lv_goto (tgt := 95) hx hb dX3_leave_88 (by decide) ?_
                    refine zc_ri (As := [.int (iI ((k + 1 : Nat) : Int)), .int (iI ((r : Nat) : Int))]) (rest := [.int (iI (((6 * k) + r : Nat) : Int)), .ref MB]) hF (c_X3_bi l D cI M MB MR ME MZ MT n (zSh1 x (zRo n b x) k (zSh x (zRo n b x) (n - 1) b k) r) ro4 me4 mq4 mt4 ((0 : Nat) : Int) rc wo4 wy4 po4 (-1) (-1) (-1) mu (k + 1) r (by omega) (by omega)) (cwV 2 hts gX3_leave_X3_bi rfl rfl rfl (by decide +kernel) ⟨Nat.le_of_ble_eq_true rfl, Nat.le_of_ble_eq_true rfl⟩) hK hP [0, 1, 2, 3, 4, 5] rfl 0 rfl 0 rfl rfl rfl rfl hl.1 rfl (Nat.le_of_ble_eq_true rfl) dX3_leave_95 ⟨Nat.zero_le _, Nat.zero_le _⟩ ?_
                    refine zr_iast hx hb hK hP hD hS 1 0 rfl rfl ((6 * k) + r) (by omega) (by omega) (by omega) dX3_leave_98 (fun H locs hP hD hS => ?_)
                    have hP : va_P D vwCl [(M, .inr (3, [.int (iI ((0 : Nat) : Int)), .int (iI ((n : Nat) : Int)), .int (iI (rc)), .ref MB, .ref MR, .ref ME, .ref MZ, .int (iI (wo4)), .int (iI (wy4)), .int (iI (po4)), .ref MT, .int (iI (-1)), .int (iI (-1)), .int (iI (-1)), .int (iI (mu))])), (MB, zArr cI 36 (uZ (zSh1 x (zRo n b x) k (zSh x (zRo n b x) (n - 1) b k) r) ((6 * k) + r) ((zSh1 x (zRo n b x) k (zSh x (zRo n b x) (n - 1) b k) r) ((k + 1) * 6 + r)))), (MR, zArr cI 6 ro4), (ME, zArr cI 6 me4), (MZ, zArr cI 6 mq4), (MT, zArr cI 6 mt4)] H := hP
                    have hD : va_D A [(M, .inr (3, [.int (iI ((0 : Nat) : Int)), .int (iI ((n : Nat) : Int)), .int (iI (rc)), .ref MB, .ref MR, .ref ME, .ref MZ, .int (iI (wo4)), .int (iI (wy4)), .int (iI (po4)), .ref MT, .int (iI (-1)), .int (iI (-1)), .int (iI (-1)), .int (iI (mu))])), (MB, zArr cI 36 (uZ (zSh1 x (zRo n b x) k (zSh x (zRo n b x) (n - 1) b k) r) ((6 * k) + r) ((zSh1 x (zRo n b x) k (zSh x (zRo n b x) (n - 1) b k) r) ((k + 1) * 6 + r)))), (MR, zArr cI 6 ro4), (ME, zArr cI 6 me4), (MZ, zArr cI 6 mq4), (MT, zArr cI 6 mt4)] := hD
                    refine zr_iinc (lv2 := [(4, .int (iI (((r : Nat) : Int) + 1))), (0, .ref M), (1, .int (iI ((x : Nat) : Int))), (2, .int (iI ((zRo n b x : Nat) : Int))), (3, .int (iI ((k : Nat) : Int)))]) hx hb dX3_leave_99 hl (k0 := 4) rfl (by decide) rfl (fun ls hl => ?_)
                    have hl : lv_has ls 5 [(4, .int (iI ((r + 1 : Nat) : Int))), (0, .ref M), (1, .int (iI ((x : Nat) : Int))), (2, .int (iI ((zRo n b x : Nat) : Int))), (3, .int (iI ((k : Nat) : Int)))] := hl
                    refine lv_goto (tgt := 45) hx hb dX3_leave_102 (by decide) ?_
                    have e1 : (if k < x then k else k + 1) = k + 1 := by split <;> omega
                    have e2 : (if r < zRo n b x then r else r + 1) = r := by split <;> omega
                    have e3 : (zSh1 x (zRo n b x) k (zSh x (zRo n b x) (n - 1) b k) (r + 1)) = (uZ (zSh1 x (zRo n b x) k (zSh x (zRo n b x) (n - 1) b k) r) ((6 * k) + r) ((zSh1 x (zRo n b x) k (zSh x (zRo n b x) (n - 1) b k) r) ((k + 1) * 6 + r))) := by show uZ _ _ _ = _; rw [e1, e2, Nat.mul_comm k 6]
                    have hP : va_P D vwCl [(M, .inr (3, [.int (iI ((0 : Nat) : Int)), .int (iI ((n : Nat) : Int)), .int (iI (rc)), .ref MB, .ref MR, .ref ME, .ref MZ, .int (iI (wo4)), .int (iI (wy4)), .int (iI (po4)), .ref MT, .int (iI (-1)), .int (iI (-1)), .int (iI (-1)), .int (iI (mu))])), (MB, zArr cI 36 (zSh1 x (zRo n b x) k (zSh x (zRo n b x) (n - 1) b k) (r + 1))), (MR, zArr cI 6 ro4), (ME, zArr cI 6 me4), (MZ, zArr cI 6 mq4), (MT, zArr cI 6 mt4)] H := by rw [e3]; exact hP
                    have hD : va_D A [(M, .inr (3, [.int (iI ((0 : Nat) : Int)), .int (iI ((n : Nat) : Int)), .int (iI (rc)), .ref MB, .ref MR, .ref ME, .ref MZ, .int (iI (wo4)), .int (iI (wy4)), .int (iI (po4)), .ref MT, .int (iI (-1)), .int (iI (-1)), .int (iI (-1)), .int (iI (mu))])), (MB, zArr cI 36 (zSh1 x (zRo n b x) k (zSh x (zRo n b x) (n - 1) b k) (r + 1))), (MR, zArr cI 6 ro4), (ME, zArr cI 6 me4), (MZ, zArr cI 6 mq4), (MT, zArr cI 6 mt4)] := by rw [e3]; exact hD
                    exact ih_LI (r + 1) (by omega) (by omega) _ _ hP hD hS _ (lv_sub hl [1, 2, 3, 4, 0] rfl)
                · refine lv_iload_n hx hb dX3_leave_73 rfl (lv_at hl 3 rfl) ?_
                  refine lv_goto (tgt := 80) hx hb dX3_leave_74 (by decide) ?_
                  refine lv_iload hx hb dX3_leave_80 (lv_at hl 4 rfl) ?_
                  refine lv_iload_n hx hb dX3_leave_82 rfl (lv_at hl 2 rfl) ?_
                  refine zr_icmp_ge (tgt := 91) hx hb dX3_leave_83 (by decide) (zB_of (by omega) (by omega)) (zB_of (by omega) (by omega)) (fun c9 => ?_) (fun c9 => ?_)
                  · refine lv_iload hx hb dX3_leave_91 (lv_at hl 4 rfl) ?_
                    refine zr_ic (n := ((1 : Nat) : Int)) hx hb dX3_leave_93 ?_
                    refine zr_addN (x := r) (y := 1) hx hb dX3_leave_94 ?_
                    refine zc_ri (As := [.int (iI ((k : Nat) : Int)), .int (iI ((r + 1 : Nat) : Int))]) (rest := [.int (iI (((6 * k) + r : Nat) : Int)), .ref MB]) hF (c_X3_bi l D cI M MB MR ME MZ MT n (zSh1 x (zRo n b x) k (zSh x (zRo n b x) (n - 1) b k) r) ro4 me4 mq4 mt4 ((0 : Nat) : Int) rc wo4 wy4 po4 (-1) (-1) (-1) mu k (r + 1) (by omega) (by omega)) (cwV 2 hts gX3_leave_X3_bi rfl rfl rfl (by decide +kernel) ⟨Nat.le_of_ble_eq_true rfl, Nat.le_of_ble_eq_true rfl⟩) hK hP [0, 1, 2, 3, 4, 5] rfl 0 rfl 0 rfl rfl rfl rfl hl.1 rfl (Nat.le_of_ble_eq_true rfl) dX3_leave_95 ⟨Nat.zero_le _, Nat.zero_le _⟩ ?_
                    refine zr_iast hx hb hK hP hD hS 1 0 rfl rfl ((6 * k) + r) (by omega) (by omega) (by omega) dX3_leave_98 (fun H locs hP hD hS => ?_)
                    have hP : va_P D vwCl [(M, .inr (3, [.int (iI ((0 : Nat) : Int)), .int (iI ((n : Nat) : Int)), .int (iI (rc)), .ref MB, .ref MR, .ref ME, .ref MZ, .int (iI (wo4)), .int (iI (wy4)), .int (iI (po4)), .ref MT, .int (iI (-1)), .int (iI (-1)), .int (iI (-1)), .int (iI (mu))])), (MB, zArr cI 36 (uZ (zSh1 x (zRo n b x) k (zSh x (zRo n b x) (n - 1) b k) r) ((6 * k) + r) ((zSh1 x (zRo n b x) k (zSh x (zRo n b x) (n - 1) b k) r) (k * 6 + (r + 1))))), (MR, zArr cI 6 ro4), (ME, zArr cI 6 me4), (MZ, zArr cI 6 mq4), (MT, zArr cI 6 mt4)] H := hP
                    have hD : va_D A [(M, .inr (3, [.int (iI ((0 : Nat) : Int)), .int (iI ((n : Nat) : Int)), .int (iI (rc)), .ref MB, .ref MR, .ref ME, .ref MZ, .int (iI (wo4)), .int (iI (wy4)), .int (iI (po4)), .ref MT, .int (iI (-1)), .int (iI (-1)), .int (iI (-1)), .int (iI (mu))])), (MB, zArr cI 36 (uZ (zSh1 x (zRo n b x) k (zSh x (zRo n b x) (n - 1) b k) r) ((6 * k) + r) ((zSh1 x (zRo n b x) k (zSh x (zRo n b x) (n - 1) b k) r) (k * 6 + (r + 1))))), (MR, zArr cI 6 ro4), (ME, zArr cI 6 me4), (MZ, zArr cI 6 mq4), (MT, zArr cI 6 mt4)] := hD
                    refine zr_iinc (lv2 := [(4, .int (iI (((r : Nat) : Int) + 1))), (0, .ref M), (1, .int (iI ((x : Nat) : Int))), (2, .int (iI ((zRo n b x : Nat) : Int))), (3, .int (iI ((k : Nat) : Int)))]) hx hb dX3_leave_99 hl (k0 := 4) rfl (by decide) rfl (fun ls hl => ?_)
                    have hl : lv_has ls 5 [(4, .int (iI ((r + 1 : Nat) : Int))), (0, .ref M), (1, .int (iI ((x : Nat) : Int))), (2, .int (iI ((zRo n b x : Nat) : Int))), (3, .int (iI ((k : Nat) : Int)))] := hl
                    refine lv_goto (tgt := 45) hx hb dX3_leave_102 (by decide) ?_
                    have e1 : (if k < x then k else k + 1) = k := by split <;> omega
                    have e2 : (if r < zRo n b x then r else r + 1) = r + 1 := by split <;> omega
                    have e3 : (zSh1 x (zRo n b x) k (zSh x (zRo n b x) (n - 1) b k) (r + 1)) = (uZ (zSh1 x (zRo n b x) k (zSh x (zRo n b x) (n - 1) b k) r) ((6 * k) + r) ((zSh1 x (zRo n b x) k (zSh x (zRo n b x) (n - 1) b k) r) (k * 6 + (r + 1)))) := by show uZ _ _ _ = _; rw [e1, e2, Nat.mul_comm k 6]
                    have hP : va_P D vwCl [(M, .inr (3, [.int (iI ((0 : Nat) : Int)), .int (iI ((n : Nat) : Int)), .int (iI (rc)), .ref MB, .ref MR, .ref ME, .ref MZ, .int (iI (wo4)), .int (iI (wy4)), .int (iI (po4)), .ref MT, .int (iI (-1)), .int (iI (-1)), .int (iI (-1)), .int (iI (mu))])), (MB, zArr cI 36 (zSh1 x (zRo n b x) k (zSh x (zRo n b x) (n - 1) b k) (r + 1))), (MR, zArr cI 6 ro4), (ME, zArr cI 6 me4), (MZ, zArr cI 6 mq4), (MT, zArr cI 6 mt4)] H := by rw [e3]; exact hP
                    have hD : va_D A [(M, .inr (3, [.int (iI ((0 : Nat) : Int)), .int (iI ((n : Nat) : Int)), .int (iI (rc)), .ref MB, .ref MR, .ref ME, .ref MZ, .int (iI (wo4)), .int (iI (wy4)), .int (iI (po4)), .ref MT, .int (iI (-1)), .int (iI (-1)), .int (iI (-1)), .int (iI (mu))])), (MB, zArr cI 36 (zSh1 x (zRo n b x) k (zSh x (zRo n b x) (n - 1) b k) (r + 1))), (MR, zArr cI 6 ro4), (ME, zArr cI 6 me4), (MZ, zArr cI 6 mq4), (MT, zArr cI 6 mt4)] := by rw [e3]; exact hD
                    exact ih_LI (r + 1) (by omega) (by omega) _ _ hP hD hS _ (lv_sub hl [1, 2, 3, 4, 0] rfl)
                  · refine lv_iload hx hb dX3_leave_86 (lv_at hl 4 rfl) ?_
                    refine lv_goto (tgt := 95) hx hb dX3_leave_88 (by decide) ?_
                    refine zc_ri (As := [.int (iI ((k : Nat) : Int)), .int (iI ((r : Nat) : Int))]) (rest := [.int (iI (((6 * k) + r : Nat) : Int)), .ref MB]) hF (c_X3_bi l D cI M MB MR ME MZ MT n (zSh1 x (zRo n b x) k (zSh x (zRo n b x) (n - 1) b k) r) ro4 me4 mq4 mt4 ((0 : Nat) : Int) rc wo4 wy4 po4 (-1) (-1) (-1) mu k r (by omega) (by omega)) (cwV 2 hts gX3_leave_X3_bi rfl rfl rfl (by decide +kernel) ⟨Nat.le_of_ble_eq_true rfl, Nat.le_of_ble_eq_true rfl⟩) hK hP [0, 1, 2, 3, 4, 5] rfl 0 rfl 0 rfl rfl rfl rfl hl.1 rfl (Nat.le_of_ble_eq_true rfl) dX3_leave_95 ⟨Nat.zero_le _, Nat.zero_le _⟩ ?_
                    refine zr_iast hx hb hK hP hD hS 1 0 rfl rfl ((6 * k) + r) (by omega) (by omega) (by omega) dX3_leave_98 (fun H locs hP hD hS => ?_)
                    have hP : va_P D vwCl [(M, .inr (3, [.int (iI ((0 : Nat) : Int)), .int (iI ((n : Nat) : Int)), .int (iI (rc)), .ref MB, .ref MR, .ref ME, .ref MZ, .int (iI (wo4)), .int (iI (wy4)), .int (iI (po4)), .ref MT, .int (iI (-1)), .int (iI (-1)), .int (iI (-1)), .int (iI (mu))])), (MB, zArr cI 36 (uZ (zSh1 x (zRo n b x) k (zSh x (zRo n b x) (n - 1) b k) r) ((6 * k) + r) ((zSh1 x (zRo n b x) k (zSh x (zRo n b x) (n - 1) b k) r) (k * 6 + r)))), (MR, zArr cI 6 ro4), (ME, zArr cI 6 me4), (MZ, zArr cI 6 mq4), (MT, zArr cI 6 mt4)] H := hP
                    have hD : va_D A [(M, .inr (3, [.int (iI ((0 : Nat) : Int)), .int (iI ((n : Nat) : Int)), .int (iI (rc)), .ref MB, .ref MR, .ref ME, .ref MZ, .int (iI (wo4)), .int (iI (wy4)), .int (iI (po4)), .ref MT, .int (iI (-1)), .int (iI (-1)), .int (iI (-1)), .int (iI (mu))])), (MB, zArr cI 36 (uZ (zSh1 x (zRo n b x) k (zSh x (zRo n b x) (n - 1) b k) r) ((6 * k) + r) ((zSh1 x (zRo n b x) k (zSh x (zRo n b x) (n - 1) b k) r) (k * 6 + r)))), (MR, zArr cI 6 ro4), (ME, zArr cI 6 me4), (MZ, zArr cI 6 mq4), (MT, zArr cI 6 mt4)] := hD
                    refine zr_iinc (lv2 := [(4, .int (iI (((r : Nat) : Int) + 1))), (0, .ref M), (1, .int (iI ((x : Nat) : Int))), (2, .int (iI ((zRo n b x : Nat) : Int))), (3, .int (iI ((k : Nat) : Int)))]) hx hb dX3_leave_99 hl (k0 := 4) rfl (by decide) rfl (fun ls hl => ?_)
                    have hl : lv_has ls 5 [(4, .int (iI ((r + 1 : Nat) : Int))), (0, .ref M), (1, .int (iI ((x : Nat) : Int))), (2, .int (iI ((zRo n b x : Nat) : Int))), (3, .int (iI ((k : Nat) : Int)))] := hl
                    refine lv_goto (tgt := 45) hx hb dX3_leave_102 (by decide) ?_
                    have e1 : (if k < x then k else k + 1) = k := by split <;> omega
                    have e2 : (if r < zRo n b x then r else r + 1) = r := by split <;> omega
                    have e3 : (zSh1 x (zRo n b x) k (zSh x (zRo n b x) (n - 1) b k) (r + 1)) = (uZ (zSh1 x (zRo n b x) k (zSh x (zRo n b x) (n - 1) b k) r) ((6 * k) + r) ((zSh1 x (zRo n b x) k (zSh x (zRo n b x) (n - 1) b k) r) (k * 6 + r))) := by show uZ _ _ _ = _; rw [e1, e2, Nat.mul_comm k 6]
                    have hP : va_P D vwCl [(M, .inr (3, [.int (iI ((0 : Nat) : Int)), .int (iI ((n : Nat) : Int)), .int (iI (rc)), .ref MB, .ref MR, .ref ME, .ref MZ, .int (iI (wo4)), .int (iI (wy4)), .int (iI (po4)), .ref MT, .int (iI (-1)), .int (iI (-1)), .int (iI (-1)), .int (iI (mu))])), (MB, zArr cI 36 (zSh1 x (zRo n b x) k (zSh x (zRo n b x) (n - 1) b k) (r + 1))), (MR, zArr cI 6 ro4), (ME, zArr cI 6 me4), (MZ, zArr cI 6 mq4), (MT, zArr cI 6 mt4)] H := by rw [e3]; exact hP
                    have hD : va_D A [(M, .inr (3, [.int (iI ((0 : Nat) : Int)), .int (iI ((n : Nat) : Int)), .int (iI (rc)), .ref MB, .ref MR, .ref ME, .ref MZ, .int (iI (wo4)), .int (iI (wy4)), .int (iI (po4)), .ref MT, .int (iI (-1)), .int (iI (-1)), .int (iI (-1)), .int (iI (mu))])), (MB, zArr cI 36 (zSh1 x (zRo n b x) k (zSh x (zRo n b x) (n - 1) b k) (r + 1))), (MR, zArr cI 6 ro4), (ME, zArr cI 6 me4), (MZ, zArr cI 6 mq4), (MT, zArr cI 6 mt4)] := by rw [e3]; exact hD
                    exact ih_LI (r + 1) (by omega) (by omega) _ _ hP hD hS _ (lv_sub hl [1, 2, 3, 4, 0] rfl)
          exact LI ((n - 1 - (0)) + 1) (0) (Nat.lt_succ_self _) (by omega) _ _ hP hD hS _ (lv_sub hl [1, 2, 3, 4, 0] rfl)
    exact LO ((n - 1 - (0)) + 1) (0) (Nat.lt_succ_self _) (by omega) _ _ hP hD hS _ (lv_sub hl [2, 3, 1, 0] rfl)
  · exact absurd (by omega) c1
set_option maxHeartbeats 4000000 in
set_option maxRecDepth 100000 in
/-- X3_told -/
theorem c_X3_told_bad (l : Launch) (D : va_G) (cI : ClassId) (M MB MR ME MZ MT n : Nat) (b mr me mq mt : Nat → Int) (th rc wo wy po mu : Int) (z1 z2 : Int) (hn : n ≤ 6) (hz1 : zB z1) (hz2 : zB z2) (hbad : ¬ ((0 ≤ z1 ∧ z1 < (n : Int)) ∧ 0 ≤ z2 ∧ z2 ≤ 5)) : zWi (S := Unit) l yX3_told wsX3_told 2 43 D cI [.ref M, .int (iI (z1)), .int (iI (z2))] [(M, .inr (3, [.int (iI (th)), .int (iI ((n : Nat) : Int)), .int (iI (rc)), .ref MB, .ref MR, .ref ME, .ref MZ, .int (iI (wo)), .int (iI (wy)), .int (iI (po)), .ref MT, .int (iI (-1)), .int (iI (-1)), .int (iI (-1)), .int (iI (mu))])), (MB, zArr cI 36 b), (MR, zArr cI 6 mr), (ME, zArr cI 6 me), (MZ, zArr cI 6 mq), (MT, zArr cI 6 mt)] (fun r _ => r = iI 0) (fun _ => [(M, .inr (3, [.int (iI (((1 : Nat) : Int))), .int (iI ((n : Nat) : Int)), .int (iI (rc)), .ref MB, .ref MR, .ref ME, .ref MZ, .int (iI (wo)), .int (iI (wy)), .int (iI (po)), .ref MT, .int (iI (-1)), .int (iI (-1)), .int (iI (-1)), .int (iI (mu))])), (MB, zArr cI 36 b), (MR, zArr cI 6 mr), (ME, zArr cI 6 me), (MZ, zArr cI 6 mq), (MT, zArr cI 6 mt)]) := by
  refine zWi_of (cc := cX3_told) (maxL := 3) (rt := .int) (by decide) rfl (Nat.le_of_ble_eq_true rfl) ?_
  intro p e s m args below meth c ls A hF hr hlocks hP hK hD hS hl
  have hF : zFix p m c cX3_told 3 s args wsX3_told RX3 := hF
  obtain ⟨hx, hb, hml, hown, hts⟩ := id hF
  have hP : va_P D vwCl [(M, .inr (3, [.int (iI (th)), .int (iI ((n : Nat) : Int)), .int (iI (rc)), .ref MB, .ref MR, .ref ME, .ref MZ, .int (iI (wo)), .int (iI (wy)), .int (iI (po)), .ref MT, .int (iI (-1)), .int (iI (-1)), .int (iI (-1)), .int (iI (mu))])), (MB, zArr cI 36 b), (MR, zArr cI 6 mr), (ME, zArr cI 6 me), (MZ, zArr cI 6 mq), (MT, zArr cI 6 mt)] s.heap := hP
  have hD : va_D A [(M, .inr (3, [.int (iI (th)), .int (iI ((n : Nat) : Int)), .int (iI (rc)), .ref MB, .ref MR, .ref ME, .ref MZ, .int (iI (wo)), .int (iI (wy)), .int (iI (po)), .ref MT, .int (iI (-1)), .int (iI (-1)), .int (iI (-1)), .int (iI (mu))])), (MB, zArr cI 36 b), (MR, zArr cI 6 mr), (ME, zArr cI 6 me), (MZ, zArr cI 6 mq), (MT, zArr cI 6 mt)] := hD
  skip
  have hl : lv_has ls 3 [(0, .ref M), (1, .int (iI (z1))), (2, .int (iI (z2)))] := hl
  refine lv_aload_n hx hb dX3_told_0 rfl (lv_at hl 0 rfl) ?_
  refine zr_ic (n := ((0 : Nat) : Int)) hx hb dX3_told_1 ?_
  refine va_put (D := D) (ci := 3) (v := .int (iI ((0 : Nat) : Int))) (ty := .int) (C := RX3) (T := TX3) (N := 15) hx hb hts (by decide +kernel) tyX3 tyX3_ok nmX3 hown hK hP hD hS 0 rfl rfl 0 (by decide) (hts (.fieldLink RX3 35 "RentHarmonyModel" "thrown" "I") (by decide +kernel)) (fun _ h9 => h9) rfl (by decide +kernel) rfl rfl (Nat.le_of_ble_eq_true rfl) dX3_told_2 (fun H locs hP hD hS => ?_)
  have hP : va_P D vwCl [(M, .inr (3, [.int (iI ((0 : Nat) : Int)), .int (iI ((n : Nat) : Int)), .int (iI (rc)), .ref MB, .ref MR, .ref ME, .ref MZ, .int (iI (wo)), .int (iI (wy)), .int (iI (po)), .ref MT, .int (iI (-1)), .int (iI (-1)), .int (iI (-1)), .int (iI (mu))])), (MB, zArr cI 36 b), (MR, zArr cI 6 mr), (ME, zArr cI 6 me), (MZ, zArr cI 6 mq), (MT, zArr cI 6 mt)] H := hP
  have hD : va_D A [(M, .inr (3, [.int (iI ((0 : Nat) : Int)), .int (iI ((n : Nat) : Int)), .int (iI (rc)), .ref MB, .ref MR, .ref ME, .ref MZ, .int (iI (wo)), .int (iI (wy)), .int (iI (po)), .ref MT, .int (iI (-1)), .int (iI (-1)), .int (iI (-1)), .int (iI (mu))])), (MB, zArr cI 36 b), (MR, zArr cI 6 mr), (ME, zArr cI 6 me), (MZ, zArr cI 6 mq), (MT, zArr cI 6 mt)] := hD
  refine lv_aload_n hx hb dX3_told_5 rfl (lv_at hl 0 rfl) ?_
  refine lv_iload_n hx hb dX3_told_6 rfl (lv_at hl 1 rfl) ?_
  refine zc_ri (As := [.int (iI (z1))]) (rest := []) hF (c_X3_isOne l D cI M MB MR ME MZ MT n b mr me mq mt ((0 : Nat) : Int) rc wo wy po (-1) (-1) (-1) mu z1 (by omega) hz1) (cwV 1 hts gX3_told_X3_isOne rfl rfl rfl (by decide +kernel) ⟨Nat.le_of_ble_eq_true rfl, Nat.le_of_ble_eq_true rfl⟩) hK hP [0, 1, 2, 3, 4, 5] rfl 0 rfl 0 rfl rfl rfl rfl hl.1 rfl (Nat.le_of_ble_eq_true rfl) dX3_told_7 ⟨Nat.zero_le _, Nat.zero_le _⟩ ?_
  refine zr_ifB_eq (tgt := 22) hx hb dX3_told_10 (by decide)  (fun c1 => ?_) (fun c1 => ?_)
  · refine lv_aload_n hx hb dX3_told_22 rfl (lv_at hl 0 rfl) ?_
    refine zr_ic (n := ((1 : Nat) : Int)) hx hb dX3_told_23 ?_
    refine zc_wi (As := [.int (iI ((1 : Nat) : Int))]) (rest := []) hF (c_X3_fail l D cI M MB MR ME MZ MT n b mr me mq mt ((0 : Nat) : Int) rc wo wy po (-1) (-1) (-1) mu ((1 : Nat) : Int) ) (cwV 1 hts gX3_told_X3_fail rfl rfl rfl (by decide +kernel) ⟨Nat.le_of_ble_eq_true rfl, Nat.le_of_ble_eq_true rfl⟩) hK hP hD hS [0, 1, 2, 3, 4, 5] rfl rfl (fun _ => rfl) 0 rfl 0 rfl rfl rfl rfl hl.1 rfl (Nat.le_of_ble_eq_true rfl) dX3_told_24 ⟨Nat.zero_le _, Nat.zero_le _⟩ (fun r3 u2 H locs hw hP hD hS => ?_)
    subst hw
    have hP : va_P D vwCl [(M, .inr (3, [.int (iI (((1 : Nat) : Int))), .int (iI ((n : Nat) : Int)), .int (iI (rc)), .ref MB, .ref MR, .ref ME, .ref MZ, .int (iI (wo)), .int (iI (wy)), .int (iI (po)), .ref MT, .int (iI (-1)), .int (iI (-1)), .int (iI (-1)), .int (iI (mu))])), (MB, zArr cI 36 b), (MR, zArr cI 6 mr), (ME, zArr cI 6 me), (MZ, zArr cI 6 mq), (MT, zArr cI 6 mt)] H := hP
    have hD : va_D A [(M, .inr (3, [.int (iI (((1 : Nat) : Int))), .int (iI ((n : Nat) : Int)), .int (iI (rc)), .ref MB, .ref MR, .ref ME, .ref MZ, .int (iI (wo)), .int (iI (wy)), .int (iI (po)), .ref MT, .int (iI (-1)), .int (iI (-1)), .int (iI (-1)), .int (iI (mu))])), (MB, zArr cI 36 b), (MR, zArr cI 6 mr), (ME, zArr cI 6 me), (MZ, zArr cI 6 mq), (MT, zArr cI 6 mt)] := hD
    exact zWi_ret hx hb hr hlocks hS dX3_told_27 () rfl hP
  · refine lv_iload_n hx hb dX3_told_13 rfl (lv_at hl 2 rfl) ?_
    refine zr_ic (n := ((0 : Nat) : Int)) hx hb dX3_told_14 ?_
    refine zr_ic (n := ((5 : Nat) : Int)) hx hb dX3_told_15 ?_
    refine zc_riS (As := [.int (iI (z2)), .int (iI ((0 : Nat) : Int)), .int (iI ((5 : Nat) : Int))]) (rest := []) hF (c_X3_isIn l D cI z2 ((0 : Nat) : Int) ((5 : Nat) : Int) hz2 (zB_of (by omega) (by omega)) (zB_of (by omega) (by omega))) (va_cwS 3 hts gX3_told_X3_isIn rfl rfl rfl (by decide +kernel) ⟨Nat.le_of_ble_eq_true rfl, Nat.le_of_ble_eq_true rfl⟩) hK hP [] rfl 0 rfl rfl hl.1 rfl (Nat.le_of_ble_eq_true rfl) dX3_told_16 ⟨Nat.zero_le _, Nat.zero_le _⟩ ?_
    refine zr_ifB_ne (tgt := 28) hx hb dX3_told_19 (by decide)  (fun c4 => ?_) (fun c4 => ?_)
    · exact absurd ⟨c1, c4⟩ hbad
    · refine lv_aload_n hx hb dX3_told_22 rfl (lv_at hl 0 rfl) ?_
      refine zr_ic (n := ((1 : Nat) : Int)) hx hb dX3_told_23 ?_
      refine zc_wi (As := [.int (iI ((1 : Nat) : Int))]) (rest := []) hF (c_X3_fail l D cI M MB MR ME MZ MT n b mr me mq mt ((0 : Nat) : Int) rc wo wy po (-1) (-1) (-1) mu ((1 : Nat) : Int) ) (cwV 1 hts gX3_told_X3_fail rfl rfl rfl (by decide +kernel) ⟨Nat.le_of_ble_eq_true rfl, Nat.le_of_ble_eq_true rfl⟩) hK hP hD hS [0, 1, 2, 3, 4, 5] rfl rfl (fun _ => rfl) 0 rfl 0 rfl rfl rfl rfl hl.1 rfl (Nat.le_of_ble_eq_true rfl) dX3_told_24 ⟨Nat.zero_le _, Nat.zero_le _⟩ (fun r6 u5 H locs hw hP hD hS => ?_)
      subst hw
      have hP : va_P D vwCl [(M, .inr (3, [.int (iI (((1 : Nat) : Int))), .int (iI ((n : Nat) : Int)), .int (iI (rc)), .ref MB, .ref MR, .ref ME, .ref MZ, .int (iI (wo)), .int (iI (wy)), .int (iI (po)), .ref MT, .int (iI (-1)), .int (iI (-1)), .int (iI (-1)), .int (iI (mu))])), (MB, zArr cI 36 b), (MR, zArr cI 6 mr), (ME, zArr cI 6 me), (MZ, zArr cI 6 mq), (MT, zArr cI 6 mt)] H := hP
      have hD : va_D A [(M, .inr (3, [.int (iI (((1 : Nat) : Int))), .int (iI ((n : Nat) : Int)), .int (iI (rc)), .ref MB, .ref MR, .ref ME, .ref MZ, .int (iI (wo)), .int (iI (wy)), .int (iI (po)), .ref MT, .int (iI (-1)), .int (iI (-1)), .int (iI (-1)), .int (iI (mu))])), (MB, zArr cI 36 b), (MR, zArr cI 6 mr), (ME, zArr cI 6 me), (MZ, zArr cI 6 mq), (MT, zArr cI 6 mt)] := hD
      exact zWi_ret hx hb hr hlocks hS dX3_told_27 () rfl hP
set_option maxHeartbeats 4000000 in
set_option maxRecDepth 100000 in
/-- X3_told -/
theorem c_X3_told_ok (l : Launch) (D : va_G) (cI : ClassId) (M MB MR ME MZ MT n : Nat) (b mr me mq mt : Nat → Int) (th rc wo wy po mu : Int) (x w : Nat) (E : Nat → Int) (hn : n ≤ 6) (hb0 : ∀ k, 0 ≤ b k ∧ b k ≤ 999) (hrc : 0 ≤ rc ∧ rc ≤ 5999) (hmu : 0 ≤ mu ∧ mu ≤ 1) (hx0 : x < n) (hw : w < 6) (hE : zIsB n (zWt b (zRo n b)) E) : zWi (S := Int × Int × Int × (Nat → Int) × (Nat → Int) × (Nat → Int) × (Nat → Int)) l yX3_told wsX3_told 10 234 D cI [.ref M, .int (iI ((x : Nat) : Int)), .int (iI ((w : Nat) : Int))] [(M, .inr (3, [.int (iI (th)), .int (iI ((n : Nat) : Int)), .int (iI (rc)), .ref MB, .ref MR, .ref ME, .ref MZ, .int (iI (wo)), .int (iI (wy)), .int (iI (po)), .ref MT, .int (iI (-1)), .int (iI (-1)), .int (iI (-1)), .int (iI (mu))])), (MB, zArr cI 36 b), (MR, zArr cI 6 mr), (ME, zArr cI 6 me), (MZ, zArr cI 6 mq), (MT, zArr cI 6 mt)] (fun r u8 => r = iI (zFa n b rc E x w) ∧ zMset n b rc u8.1 u8.2.1 u8.2.2.1 u8.2.2.2.1 u8.2.2.2.2.1 u8.2.2.2.2.2.1) (fun u8 => [(M, .inr (3, [.int (iI (((0 : Nat) : Int))), .int (iI ((n : Nat) : Int)), .int (iI (rc)), .ref MB, .ref MR, .ref ME, .ref MZ, .int (iI (u8.1)), .int (iI (u8.2.1)), .int (iI (u8.2.2.1)), .ref MT, .int (iI (-1)), .int (iI (-1)), .int (iI (-1)), .int (iI (mu))])), (MB, zArr cI 36 b), (MR, zArr cI 6 u8.2.2.2.1), (ME, zArr cI 6 u8.2.2.2.2.1), (MZ, zArr cI 6 u8.2.2.2.2.2.1), (MT, zArr cI 6 u8.2.2.2.2.2.2)]) := by
  refine zWi_of (cc := cX3_told) (maxL := 3) (rt := .int) (by decide) rfl (Nat.le_of_ble_eq_true rfl) ?_
  intro p e s m args below meth c ls A hF hr hlocks hP hK hD hS hl
  have hF : zFix p m c cX3_told 3 s args wsX3_told RX3 := hF
  obtain ⟨hx, hb, hml, hown, hts⟩ := id hF
  have hP : va_P D vwCl [(M, .inr (3, [.int (iI (th)), .int (iI ((n : Nat) : Int)), .int (iI (rc)), .ref MB, .ref MR, .ref ME, .ref MZ, .int (iI (wo)), .int (iI (wy)), .int (iI (po)), .ref MT, .int (iI (-1)), .int (iI (-1)), .int (iI (-1)), .int (iI (mu))])), (MB, zArr cI 36 b), (MR, zArr cI 6 mr), (ME, zArr cI 6 me), (MZ, zArr cI 6 mq), (MT, zArr cI 6 mt)] s.heap := hP
  have hD : va_D A [(M, .inr (3, [.int (iI (th)), .int (iI ((n : Nat) : Int)), .int (iI (rc)), .ref MB, .ref MR, .ref ME, .ref MZ, .int (iI (wo)), .int (iI (wy)), .int (iI (po)), .ref MT, .int (iI (-1)), .int (iI (-1)), .int (iI (-1)), .int (iI (mu))])), (MB, zArr cI 36 b), (MR, zArr cI 6 mr), (ME, zArr cI 6 me), (MZ, zArr cI 6 mq), (MT, zArr cI 6 mt)] := hD
  skip
  have hl : lv_has ls 3 [(0, .ref M), (1, .int (iI ((x : Nat) : Int))), (2, .int (iI ((w : Nat) : Int)))] := hl
  refine lv_aload_n hx hb dX3_told_0 rfl (lv_at hl 0 rfl) ?_
  refine zr_ic (n := ((0 : Nat) : Int)) hx hb dX3_told_1 ?_
  refine va_put (D := D) (ci := 3) (v := .int (iI ((0 : Nat) : Int))) (ty := .int) (C := RX3) (T := TX3) (N := 15) hx hb hts (by decide +kernel) tyX3 tyX3_ok nmX3 hown hK hP hD hS 0 rfl rfl 0 (by decide) (hts (.fieldLink RX3 35 "RentHarmonyModel" "thrown" "I") (by decide +kernel)) (fun _ h9 => h9) rfl (by decide +kernel) rfl rfl (Nat.le_of_ble_eq_true rfl) dX3_told_2 (fun H locs hP hD hS => ?_)
  have hP : va_P D vwCl [(M, .inr (3, [.int (iI ((0 : Nat) : Int)), .int (iI ((n : Nat) : Int)), .int (iI (rc)), .ref MB, .ref MR, .ref ME, .ref MZ, .int (iI (wo)), .int (iI (wy)), .int (iI (po)), .ref MT, .int (iI (-1)), .int (iI (-1)), .int (iI (-1)), .int (iI (mu))])), (MB, zArr cI 36 b), (MR, zArr cI 6 mr), (ME, zArr cI 6 me), (MZ, zArr cI 6 mq), (MT, zArr cI 6 mt)] H := hP
  have hD : va_D A [(M, .inr (3, [.int (iI ((0 : Nat) : Int)), .int (iI ((n : Nat) : Int)), .int (iI (rc)), .ref MB, .ref MR, .ref ME, .ref MZ, .int (iI (wo)), .int (iI (wy)), .int (iI (po)), .ref MT, .int (iI (-1)), .int (iI (-1)), .int (iI (-1)), .int (iI (mu))])), (MB, zArr cI 36 b), (MR, zArr cI 6 mr), (ME, zArr cI 6 me), (MZ, zArr cI 6 mq), (MT, zArr cI 6 mt)] := hD
  refine lv_aload_n hx hb dX3_told_5 rfl (lv_at hl 0 rfl) ?_
  refine lv_iload_n hx hb dX3_told_6 rfl (lv_at hl 1 rfl) ?_
  refine zc_ri (As := [.int (iI ((x : Nat) : Int))]) (rest := []) hF (c_X3_isOne l D cI M MB MR ME MZ MT n b mr me mq mt ((0 : Nat) : Int) rc wo wy po (-1) (-1) (-1) mu ((x : Nat) : Int) (by omega) (zB_of (by omega) (by omega))) (cwV 1 hts gX3_told_X3_isOne rfl rfl rfl (by decide +kernel) ⟨Nat.le_of_ble_eq_true rfl, Nat.le_of_ble_eq_true rfl⟩) hK hP [0, 1, 2, 3, 4, 5] rfl 0 rfl 0 rfl rfl rfl rfl hl.1 rfl (Nat.le_of_ble_eq_true rfl) dX3_told_7 ⟨Nat.zero_le _, Nat.zero_le _⟩ ?_
  refine zr_ifB_eq (tgt := 22) hx hb dX3_told_10 (by decide)  (fun c1 => ?_) (fun c1 => ?_)
  · exact absurd (by omega) c1
  · refine lv_iload_n hx hb dX3_told_13 rfl (lv_at hl 2 rfl) ?_
    refine zr_ic (n := ((0 : Nat) : Int)) hx hb dX3_told_14 ?_
    refine zr_ic (n := ((5 : Nat) : Int)) hx hb dX3_told_15 ?_
    refine zc_riS (As := [.int (iI ((w : Nat) : Int)), .int (iI ((0 : Nat) : Int)), .int (iI ((5 : Nat) : Int))]) (rest := []) hF (c_X3_isIn l D cI ((w : Nat) : Int) ((0 : Nat) : Int) ((5 : Nat) : Int) (zB_of (by omega) (by omega)) (zB_of (by omega) (by omega)) (zB_of (by omega) (by omega))) (va_cwS 3 hts gX3_told_X3_isIn rfl rfl rfl (by decide +kernel) ⟨Nat.le_of_ble_eq_true rfl, Nat.le_of_ble_eq_true rfl⟩) hK hP [] rfl 0 rfl rfl hl.1 rfl (Nat.le_of_ble_eq_true rfl) dX3_told_16 ⟨Nat.zero_le _, Nat.zero_le _⟩ ?_
    refine zr_ifB_ne (tgt := 28) hx hb dX3_told_19 (by decide)  (fun c2 => ?_) (fun c2 => ?_)
    · refine lv_aload_n hx hb dX3_told_28 rfl (lv_at hl 0 rfl) ?_
      refine zc_wv (As := []) (rest := []) hF (c_X3_settle l D cI M MB MR ME MZ MT n b mr me mq mt ((0 : Nat) : Int) rc wo wy po mu (by omega) (by assumption) (by assumption) (by omega)) (cwV 0 hts gX3_told_X3_settle rfl rfl rfl (by decide +kernel) ⟨Nat.le_of_ble_eq_true rfl, Nat.le_of_ble_eq_true rfl⟩) hK hP hD hS [0, 1, 2, 3, 4, 5] rfl rfl (fun _ => rfl) 0 rfl 0 rfl rfl rfl rfl hl.1 rfl (Nat.le_of_ble_eq_true rfl) dX3_told_29 ⟨Nat.zero_le _, Nat.zero_le _⟩ (fun u3 H locs hw hP hD hS => ?_)
      obtain ⟨wo5, wy5, po5, ro5, me5, mq5, mt5⟩ := u3
      have hst5 : zMset n b rc wo5 wy5 po5 ro5 me5 mq5 := hw
      have hP : va_P D vwCl [(M, .inr (3, [.int (iI ((0 : Nat) : Int)), .int (iI ((n : Nat) : Int)), .int (iI (rc)), .ref MB, .ref MR, .ref ME, .ref MZ, .int (iI (wo5)), .int (iI (wy5)), .int (iI (po5)), .ref MT, .int (iI (-1)), .int (iI (-1)), .int (iI (-1)), .int (iI (mu))])), (MB, zArr cI 36 b), (MR, zArr cI 6 ro5), (ME, zArr cI 6 me5), (MZ, zArr cI 6 mq5), (MT, zArr cI 6 mt5)] H := hP
      have hD : va_D A [(M, .inr (3, [.int (iI ((0 : Nat) : Int)), .int (iI ((n : Nat) : Int)), .int (iI (rc)), .ref MB, .ref MR, .ref ME, .ref MZ, .int (iI (wo5)), .int (iI (wy5)), .int (iI (po5)), .ref MT, .int (iI (-1)), .int (iI (-1)), .int (iI (-1)), .int (iI (mu))])), (MB, zArr cI 36 b), (MR, zArr cI 6 ro5), (ME, zArr cI 6 me5), (MZ, zArr cI 6 mq5), (MT, zArr cI 6 mt5)] := hD
      have hro : ∀ j, j < n → ro5 j = ((zRo n b j : Nat) : Int) := hst5.2.2.1
      have hgn := zRo_lt (b := b) hn
      have hmq : ∀ j, j < n → mq5 j = me5 j + (zShare n (zLeft (zWo n b) rc me5 n)) := hst5.2.2.2.2.1
      refine lv_aload_n hx hb dX3_told_32 rfl (lv_at hl 0 rfl) ?_
      refine lv_iload_n hx hb dX3_told_33 rfl (lv_at hl 1 rfl) ?_
      refine lv_iload_n hx hb dX3_told_34 rfl (lv_at hl 2 rfl) ?_
      refine zc_ri (As := [.int (iI ((x : Nat) : Int)), .int (iI ((w : Nat) : Int))]) (rest := []) hF (c_X3_toldOf l D cI M MB MR ME MZ MT n b ro5 me5 mq5 mt5 ((0 : Nat) : Int) rc wo5 wy5 po5 (-1) (-1) (-1) mu (zRo n b) (zShare n (zLeft (zWo n b) rc me5 n)) x w (by omega) (by assumption) (by assumption) (by assumption) (by assumption) (by omega) (by omega)) (cwV 2 hts gX3_told_X3_toldOf rfl rfl rfl (by decide +kernel) ⟨Nat.le_of_ble_eq_true rfl, Nat.le_of_ble_eq_true rfl⟩) hK hP [0, 1, 2, 3, 4, 5] rfl 0 rfl 0 rfl rfl rfl rfl hl.1 rfl (Nat.le_of_ble_eq_true rfl) dX3_told_35 ⟨Nat.zero_le _, Nat.zero_le _⟩ ?_
      exact zWi_ret hx hb hr hlocks hS dX3_told_38 (wo5, wy5, po5, ro5, me5, mq5, mt5) ⟨congrArg iI (zFact_un hE hst5.2.2.2.1 hx0 w), hst5⟩ hP
    · exact absurd (by omega) c2
set_option maxHeartbeats 4000000 in
set_option maxRecDepth 100000 in
/-- X3_offer -/
theorem c_X3_offer_bad (l : Launch) (D : va_G) (cI : ClassId) (M MB MR ME MZ MT n : Nat) (b mr me mq mt : Nat → Int) (th rc wo wy po mu : Int) (z1 z2 : Int) (hn : n ≤ 6) (hz1 : zB z1) (hz2 : zB z2) (hbad : ¬ ((0 ≤ z1 ∧ z1 < (n : Int)) ∧ 0 ≤ z2 ∧ z2 < (n : Int))) : zWi (S := Unit) l yX3_offer wsX3_offer 2 43 D cI [.ref M, .int (iI (z1)), .int (iI (z2))] [(M, .inr (3, [.int (iI (th)), .int (iI ((n : Nat) : Int)), .int (iI (rc)), .ref MB, .ref MR, .ref ME, .ref MZ, .int (iI (wo)), .int (iI (wy)), .int (iI (po)), .ref MT, .int (iI (-1)), .int (iI (-1)), .int (iI (-1)), .int (iI (mu))])), (MB, zArr cI 36 b), (MR, zArr cI 6 mr), (ME, zArr cI 6 me), (MZ, zArr cI 6 mq), (MT, zArr cI 6 mt)] (fun r _ => r = iI 0) (fun _ => [(M, .inr (3, [.int (iI (((1 : Nat) : Int))), .int (iI ((n : Nat) : Int)), .int (iI (rc)), .ref MB, .ref MR, .ref ME, .ref MZ, .int (iI (wo)), .int (iI (wy)), .int (iI (po)), .ref MT, .int (iI (-1)), .int (iI (-1)), .int (iI (-1)), .int (iI (mu))])), (MB, zArr cI 36 b), (MR, zArr cI 6 mr), (ME, zArr cI 6 me), (MZ, zArr cI 6 mq), (MT, zArr cI 6 mt)]) := by
  refine zWi_of (cc := cX3_offer) (maxL := 3) (rt := .int) (by decide) rfl (Nat.le_of_ble_eq_true rfl) ?_
  intro p e s m args below meth c ls A hF hr hlocks hP hK hD hS hl
  have hF : zFix p m c cX3_offer 3 s args wsX3_offer RX3 := hF
  obtain ⟨hx, hb, hml, hown, hts⟩ := id hF
  have hP : va_P D vwCl [(M, .inr (3, [.int (iI (th)), .int (iI ((n : Nat) : Int)), .int (iI (rc)), .ref MB, .ref MR, .ref ME, .ref MZ, .int (iI (wo)), .int (iI (wy)), .int (iI (po)), .ref MT, .int (iI (-1)), .int (iI (-1)), .int (iI (-1)), .int (iI (mu))])), (MB, zArr cI 36 b), (MR, zArr cI 6 mr), (ME, zArr cI 6 me), (MZ, zArr cI 6 mq), (MT, zArr cI 6 mt)] s.heap := hP
  have hD : va_D A [(M, .inr (3, [.int (iI (th)), .int (iI ((n : Nat) : Int)), .int (iI (rc)), .ref MB, .ref MR, .ref ME, .ref MZ, .int (iI (wo)), .int (iI (wy)), .int (iI (po)), .ref MT, .int (iI (-1)), .int (iI (-1)), .int (iI (-1)), .int (iI (mu))])), (MB, zArr cI 36 b), (MR, zArr cI 6 mr), (ME, zArr cI 6 me), (MZ, zArr cI 6 mq), (MT, zArr cI 6 mt)] := hD
  skip
  have hl : lv_has ls 3 [(0, .ref M), (1, .int (iI (z1))), (2, .int (iI (z2)))] := hl
  refine lv_aload_n hx hb dX3_offer_0 rfl (lv_at hl 0 rfl) ?_
  refine zr_ic (n := ((0 : Nat) : Int)) hx hb dX3_offer_1 ?_
  refine va_put (D := D) (ci := 3) (v := .int (iI ((0 : Nat) : Int))) (ty := .int) (C := RX3) (T := TX3) (N := 15) hx hb hts (by decide +kernel) tyX3 tyX3_ok nmX3 hown hK hP hD hS 0 rfl rfl 0 (by decide) (hts (.fieldLink RX3 35 "RentHarmonyModel" "thrown" "I") (by decide +kernel)) (fun _ h9 => h9) rfl (by decide +kernel) rfl rfl (Nat.le_of_ble_eq_true rfl) dX3_offer_2 (fun H locs hP hD hS => ?_)
  have hP : va_P D vwCl [(M, .inr (3, [.int (iI ((0 : Nat) : Int)), .int (iI ((n : Nat) : Int)), .int (iI (rc)), .ref MB, .ref MR, .ref ME, .ref MZ, .int (iI (wo)), .int (iI (wy)), .int (iI (po)), .ref MT, .int (iI (-1)), .int (iI (-1)), .int (iI (-1)), .int (iI (mu))])), (MB, zArr cI 36 b), (MR, zArr cI 6 mr), (ME, zArr cI 6 me), (MZ, zArr cI 6 mq), (MT, zArr cI 6 mt)] H := hP
  have hD : va_D A [(M, .inr (3, [.int (iI ((0 : Nat) : Int)), .int (iI ((n : Nat) : Int)), .int (iI (rc)), .ref MB, .ref MR, .ref ME, .ref MZ, .int (iI (wo)), .int (iI (wy)), .int (iI (po)), .ref MT, .int (iI (-1)), .int (iI (-1)), .int (iI (-1)), .int (iI (mu))])), (MB, zArr cI 36 b), (MR, zArr cI 6 mr), (ME, zArr cI 6 me), (MZ, zArr cI 6 mq), (MT, zArr cI 6 mt)] := hD
  refine lv_aload_n hx hb dX3_offer_5 rfl (lv_at hl 0 rfl) ?_
  refine lv_iload_n hx hb dX3_offer_6 rfl (lv_at hl 1 rfl) ?_
  refine zc_ri (As := [.int (iI (z1))]) (rest := []) hF (c_X3_isOne l D cI M MB MR ME MZ MT n b mr me mq mt ((0 : Nat) : Int) rc wo wy po (-1) (-1) (-1) mu z1 (by omega) hz1) (cwV 1 hts gX3_offer_X3_isOne rfl rfl rfl (by decide +kernel) ⟨Nat.le_of_ble_eq_true rfl, Nat.le_of_ble_eq_true rfl⟩) hK hP [0, 1, 2, 3, 4, 5] rfl 0 rfl 0 rfl rfl rfl rfl hl.1 rfl (Nat.le_of_ble_eq_true rfl) dX3_offer_7 ⟨Nat.zero_le _, Nat.zero_le _⟩ ?_
  refine zr_ifB_eq (tgt := 30) hx hb dX3_offer_10 (by decide)  (fun c1 => ?_) (fun c1 => ?_)
  · refine lv_aload_n hx hb dX3_offer_30 rfl (lv_at hl 0 rfl) ?_
    refine zr_ic (n := ((1 : Nat) : Int)) hx hb dX3_offer_31 ?_
    refine zc_wi (As := [.int (iI ((1 : Nat) : Int))]) (rest := []) hF (c_X3_fail l D cI M MB MR ME MZ MT n b mr me mq mt ((0 : Nat) : Int) rc wo wy po (-1) (-1) (-1) mu ((1 : Nat) : Int) ) (cwV 1 hts gX3_offer_X3_fail rfl rfl rfl (by decide +kernel) ⟨Nat.le_of_ble_eq_true rfl, Nat.le_of_ble_eq_true rfl⟩) hK hP hD hS [0, 1, 2, 3, 4, 5] rfl rfl (fun _ => rfl) 0 rfl 0 rfl rfl rfl rfl hl.1 rfl (Nat.le_of_ble_eq_true rfl) dX3_offer_32 ⟨Nat.zero_le _, Nat.zero_le _⟩ (fun r3 u2 H locs hw hP hD hS => ?_)
    subst hw
    have hP : va_P D vwCl [(M, .inr (3, [.int (iI (((1 : Nat) : Int))), .int (iI ((n : Nat) : Int)), .int (iI (rc)), .ref MB, .ref MR, .ref ME, .ref MZ, .int (iI (wo)), .int (iI (wy)), .int (iI (po)), .ref MT, .int (iI (-1)), .int (iI (-1)), .int (iI (-1)), .int (iI (mu))])), (MB, zArr cI 36 b), (MR, zArr cI 6 mr), (ME, zArr cI 6 me), (MZ, zArr cI 6 mq), (MT, zArr cI 6 mt)] H := hP
    have hD : va_D A [(M, .inr (3, [.int (iI (((1 : Nat) : Int))), .int (iI ((n : Nat) : Int)), .int (iI (rc)), .ref MB, .ref MR, .ref ME, .ref MZ, .int (iI (wo)), .int (iI (wy)), .int (iI (po)), .ref MT, .int (iI (-1)), .int (iI (-1)), .int (iI (-1)), .int (iI (mu))])), (MB, zArr cI 36 b), (MR, zArr cI 6 mr), (ME, zArr cI 6 me), (MZ, zArr cI 6 mq), (MT, zArr cI 6 mt)] := hD
    exact zWi_ret hx hb hr hlocks hS dX3_offer_35 () rfl hP
  · refine lv_aload_n hx hb dX3_offer_13 rfl (lv_at hl 0 rfl) ?_
    refine lv_iload_n hx hb dX3_offer_14 rfl (lv_at hl 2 rfl) ?_
    refine zc_ri (As := [.int (iI (z2))]) (rest := []) hF (c_X3_isOne l D cI M MB MR ME MZ MT n b mr me mq mt ((0 : Nat) : Int) rc wo wy po (-1) (-1) (-1) mu z2 (by omega) hz2) (cwV 1 hts gX3_offer_X3_isOne rfl rfl rfl (by decide +kernel) ⟨Nat.le_of_ble_eq_true rfl, Nat.le_of_ble_eq_true rfl⟩) hK hP [0, 1, 2, 3, 4, 5] rfl 0 rfl 0 rfl rfl rfl rfl hl.1 rfl (Nat.le_of_ble_eq_true rfl) dX3_offer_15 ⟨Nat.zero_le _, Nat.zero_le _⟩ ?_
    refine zr_ifB_eq (tgt := 30) hx hb dX3_offer_18 (by decide)  (fun c4 => ?_) (fun c4 => ?_)
    · refine lv_aload_n hx hb dX3_offer_30 rfl (lv_at hl 0 rfl) ?_
      refine zr_ic (n := ((1 : Nat) : Int)) hx hb dX3_offer_31 ?_
      refine zc_wi (As := [.int (iI ((1 : Nat) : Int))]) (rest := []) hF (c_X3_fail l D cI M MB MR ME MZ MT n b mr me mq mt ((0 : Nat) : Int) rc wo wy po (-1) (-1) (-1) mu ((1 : Nat) : Int) ) (cwV 1 hts gX3_offer_X3_fail rfl rfl rfl (by decide +kernel) ⟨Nat.le_of_ble_eq_true rfl, Nat.le_of_ble_eq_true rfl⟩) hK hP hD hS [0, 1, 2, 3, 4, 5] rfl rfl (fun _ => rfl) 0 rfl 0 rfl rfl rfl rfl hl.1 rfl (Nat.le_of_ble_eq_true rfl) dX3_offer_32 ⟨Nat.zero_le _, Nat.zero_le _⟩ (fun r6 u5 H locs hw hP hD hS => ?_)
      subst hw
      have hP : va_P D vwCl [(M, .inr (3, [.int (iI (((1 : Nat) : Int))), .int (iI ((n : Nat) : Int)), .int (iI (rc)), .ref MB, .ref MR, .ref ME, .ref MZ, .int (iI (wo)), .int (iI (wy)), .int (iI (po)), .ref MT, .int (iI (-1)), .int (iI (-1)), .int (iI (-1)), .int (iI (mu))])), (MB, zArr cI 36 b), (MR, zArr cI 6 mr), (ME, zArr cI 6 me), (MZ, zArr cI 6 mq), (MT, zArr cI 6 mt)] H := hP
      have hD : va_D A [(M, .inr (3, [.int (iI (((1 : Nat) : Int))), .int (iI ((n : Nat) : Int)), .int (iI (rc)), .ref MB, .ref MR, .ref ME, .ref MZ, .int (iI (wo)), .int (iI (wy)), .int (iI (po)), .ref MT, .int (iI (-1)), .int (iI (-1)), .int (iI (-1)), .int (iI (mu))])), (MB, zArr cI 36 b), (MR, zArr cI 6 mr), (ME, zArr cI 6 me), (MZ, zArr cI 6 mq), (MT, zArr cI 6 mt)] := hD
      exact zWi_ret hx hb hr hlocks hS dX3_offer_35 () rfl hP
    · exact absurd ⟨c1, c4⟩ hbad
set_option maxHeartbeats 4000000 in
set_option maxRecDepth 100000 in
/-- X3_offer -/
theorem c_X3_offer_ok (l : Launch) (D : va_G) (cI : ClassId) (M MB MR ME MZ MT n : Nat) (b mr me mq mt : Nat → Int) (th rc wo wy po mu : Int) (x y : Nat) (hn : n ≤ 6) (hb0 : ∀ k, 0 ≤ b k ∧ b k ≤ 999) (hrc : 0 ≤ rc ∧ rc ≤ 5999) (hmu : 0 ≤ mu ∧ mu ≤ 1) (hx0 : x < n) (hy0 : y < n) : zWi (S := Unit) l yX3_offer wsX3_offer 2 43 D cI [.ref M, .int (iI ((x : Nat) : Int)), .int (iI ((y : Nat) : Int))] [(M, .inr (3, [.int (iI (th)), .int (iI ((n : Nat) : Int)), .int (iI (rc)), .ref MB, .ref MR, .ref ME, .ref MZ, .int (iI (wo)), .int (iI (wy)), .int (iI (po)), .ref MT, .int (iI (-1)), .int (iI (-1)), .int (iI (-1)), .int (iI (mu))])), (MB, zArr cI 36 b), (MR, zArr cI 6 mr), (ME, zArr cI 6 me), (MZ, zArr cI 6 mq), (MT, zArr cI 6 mt)] (fun r _ => r = iI (b (x * 6 + y))) (fun u8 => [(M, .inr (3, [.int (iI (((0 : Nat) : Int))), .int (iI ((n : Nat) : Int)), .int (iI (rc)), .ref MB, .ref MR, .ref ME, .ref MZ, .int (iI (wo)), .int (iI (wy)), .int (iI (po)), .ref MT, .int (iI (-1)), .int (iI (-1)), .int (iI (-1)), .int (iI (mu))])), (MB, zArr cI 36 b), (MR, zArr cI 6 mr), (ME, zArr cI 6 me), (MZ, zArr cI 6 mq), (MT, zArr cI 6 mt)]) := by
  refine zWi_of (cc := cX3_offer) (maxL := 3) (rt := .int) (by decide) rfl (Nat.le_of_ble_eq_true rfl) ?_
  intro p e s m args below meth c ls A hF hr hlocks hP hK hD hS hl
  have hF : zFix p m c cX3_offer 3 s args wsX3_offer RX3 := hF
  obtain ⟨hx, hb, hml, hown, hts⟩ := id hF
  have hP : va_P D vwCl [(M, .inr (3, [.int (iI (th)), .int (iI ((n : Nat) : Int)), .int (iI (rc)), .ref MB, .ref MR, .ref ME, .ref MZ, .int (iI (wo)), .int (iI (wy)), .int (iI (po)), .ref MT, .int (iI (-1)), .int (iI (-1)), .int (iI (-1)), .int (iI (mu))])), (MB, zArr cI 36 b), (MR, zArr cI 6 mr), (ME, zArr cI 6 me), (MZ, zArr cI 6 mq), (MT, zArr cI 6 mt)] s.heap := hP
  have hD : va_D A [(M, .inr (3, [.int (iI (th)), .int (iI ((n : Nat) : Int)), .int (iI (rc)), .ref MB, .ref MR, .ref ME, .ref MZ, .int (iI (wo)), .int (iI (wy)), .int (iI (po)), .ref MT, .int (iI (-1)), .int (iI (-1)), .int (iI (-1)), .int (iI (mu))])), (MB, zArr cI 36 b), (MR, zArr cI 6 mr), (ME, zArr cI 6 me), (MZ, zArr cI 6 mq), (MT, zArr cI 6 mt)] := hD
  skip
  have hl : lv_has ls 3 [(0, .ref M), (1, .int (iI ((x : Nat) : Int))), (2, .int (iI ((y : Nat) : Int)))] := hl
  refine lv_aload_n hx hb dX3_offer_0 rfl (lv_at hl 0 rfl) ?_
  refine zr_ic (n := ((0 : Nat) : Int)) hx hb dX3_offer_1 ?_
  refine va_put (D := D) (ci := 3) (v := .int (iI ((0 : Nat) : Int))) (ty := .int) (C := RX3) (T := TX3) (N := 15) hx hb hts (by decide +kernel) tyX3 tyX3_ok nmX3 hown hK hP hD hS 0 rfl rfl 0 (by decide) (hts (.fieldLink RX3 35 "RentHarmonyModel" "thrown" "I") (by decide +kernel)) (fun _ h9 => h9) rfl (by decide +kernel) rfl rfl (Nat.le_of_ble_eq_true rfl) dX3_offer_2 (fun H locs hP hD hS => ?_)
  have hP : va_P D vwCl [(M, .inr (3, [.int (iI ((0 : Nat) : Int)), .int (iI ((n : Nat) : Int)), .int (iI (rc)), .ref MB, .ref MR, .ref ME, .ref MZ, .int (iI (wo)), .int (iI (wy)), .int (iI (po)), .ref MT, .int (iI (-1)), .int (iI (-1)), .int (iI (-1)), .int (iI (mu))])), (MB, zArr cI 36 b), (MR, zArr cI 6 mr), (ME, zArr cI 6 me), (MZ, zArr cI 6 mq), (MT, zArr cI 6 mt)] H := hP
  have hD : va_D A [(M, .inr (3, [.int (iI ((0 : Nat) : Int)), .int (iI ((n : Nat) : Int)), .int (iI (rc)), .ref MB, .ref MR, .ref ME, .ref MZ, .int (iI (wo)), .int (iI (wy)), .int (iI (po)), .ref MT, .int (iI (-1)), .int (iI (-1)), .int (iI (-1)), .int (iI (mu))])), (MB, zArr cI 36 b), (MR, zArr cI 6 mr), (ME, zArr cI 6 me), (MZ, zArr cI 6 mq), (MT, zArr cI 6 mt)] := hD
  refine lv_aload_n hx hb dX3_offer_5 rfl (lv_at hl 0 rfl) ?_
  refine lv_iload_n hx hb dX3_offer_6 rfl (lv_at hl 1 rfl) ?_
  refine zc_ri (As := [.int (iI ((x : Nat) : Int))]) (rest := []) hF (c_X3_isOne l D cI M MB MR ME MZ MT n b mr me mq mt ((0 : Nat) : Int) rc wo wy po (-1) (-1) (-1) mu ((x : Nat) : Int) (by omega) (zB_of (by omega) (by omega))) (cwV 1 hts gX3_offer_X3_isOne rfl rfl rfl (by decide +kernel) ⟨Nat.le_of_ble_eq_true rfl, Nat.le_of_ble_eq_true rfl⟩) hK hP [0, 1, 2, 3, 4, 5] rfl 0 rfl 0 rfl rfl rfl rfl hl.1 rfl (Nat.le_of_ble_eq_true rfl) dX3_offer_7 ⟨Nat.zero_le _, Nat.zero_le _⟩ ?_
  refine zr_ifB_eq (tgt := 30) hx hb dX3_offer_10 (by decide)  (fun c1 => ?_) (fun c1 => ?_)
  · exact absurd (by omega) c1
  · refine lv_aload_n hx hb dX3_offer_13 rfl (lv_at hl 0 rfl) ?_
    refine lv_iload_n hx hb dX3_offer_14 rfl (lv_at hl 2 rfl) ?_
    refine zc_ri (As := [.int (iI ((y : Nat) : Int))]) (rest := []) hF (c_X3_isOne l D cI M MB MR ME MZ MT n b mr me mq mt ((0 : Nat) : Int) rc wo wy po (-1) (-1) (-1) mu ((y : Nat) : Int) (by omega) (zB_of (by omega) (by omega))) (cwV 1 hts gX3_offer_X3_isOne rfl rfl rfl (by decide +kernel) ⟨Nat.le_of_ble_eq_true rfl, Nat.le_of_ble_eq_true rfl⟩) hK hP [0, 1, 2, 3, 4, 5] rfl 0 rfl 0 rfl rfl rfl rfl hl.1 rfl (Nat.le_of_ble_eq_true rfl) dX3_offer_15 ⟨Nat.zero_le _, Nat.zero_le _⟩ ?_
    refine zr_ifB_eq (tgt := 30) hx hb dX3_offer_18 (by decide)  (fun c2 => ?_) (fun c2 => ?_)
    · exact absurd (by omega) c2
    · refine lv_aload_n hx hb dX3_offer_21 rfl (lv_at hl 0 rfl) ?_
      refine lv_iload_n hx hb dX3_offer_22 rfl (lv_at hl 1 rfl) ?_
      refine lv_iload_n hx hb dX3_offer_23 rfl (lv_at hl 2 rfl) ?_
      refine zc_ri (As := [.int (iI ((x : Nat) : Int)), .int (iI ((y : Nat) : Int))]) (rest := []) hF (c_X3_bi l D cI M MB MR ME MZ MT n b mr me mq mt ((0 : Nat) : Int) rc wo wy po (-1) (-1) (-1) mu x y (by omega) (by omega)) (cwV 2 hts gX3_offer_X3_bi rfl rfl rfl (by decide +kernel) ⟨Nat.le_of_ble_eq_true rfl, Nat.le_of_ble_eq_true rfl⟩) hK hP [0, 1, 2, 3, 4, 5] rfl 0 rfl 0 rfl rfl rfl rfl hl.1 rfl (Nat.le_of_ble_eq_true rfl) dX3_offer_24 ⟨Nat.zero_le _, Nat.zero_le _⟩ ?_
      refine lv_goto (tgt := 35) hx hb dX3_offer_27 (by decide) ?_
      exact zWi_ret hx hb hr hlocks hS dX3_offer_35 () rfl hP
set_option maxHeartbeats 4000000 in
set_option maxRecDepth 100000 in
/-- X3_count -/
theorem c_X3_count_bad (l : Launch) (D : va_G) (cI : ClassId) (M MB MR ME MZ MT n : Nat) (b mr me mq mt : Nat → Int) (th rc wo wy po mu : Int) (z1 : Int) (hn : n ≤ 6) (hz1 : zB z1) (hbad : ¬ (0 ≤ z1 ∧ z1 ≤ 6)) : zWi (S := Unit) l yX3_count wsX3_count 1 22 D cI [.ref M, .int (iI (z1))] [(M, .inr (3, [.int (iI (th)), .int (iI ((n : Nat) : Int)), .int (iI (rc)), .ref MB, .ref MR, .ref ME, .ref MZ, .int (iI (wo)), .int (iI (wy)), .int (iI (po)), .ref MT, .int (iI (-1)), .int (iI (-1)), .int (iI (-1)), .int (iI (mu))])), (MB, zArr cI 36 b), (MR, zArr cI 6 mr), (ME, zArr cI 6 me), (MZ, zArr cI 6 mq), (MT, zArr cI 6 mt)] (fun r _ => r = iI 0) (fun _ => [(M, .inr (3, [.int (iI (((1 : Nat) : Int))), .int (iI ((n : Nat) : Int)), .int (iI (rc)), .ref MB, .ref MR, .ref ME, .ref MZ, .int (iI (wo)), .int (iI (wy)), .int (iI (po)), .ref MT, .int (iI (-1)), .int (iI (-1)), .int (iI (-1)), .int (iI (mu))])), (MB, zArr cI 36 b), (MR, zArr cI 6 mr), (ME, zArr cI 6 me), (MZ, zArr cI 6 mq), (MT, zArr cI 6 mt)]) := by
  refine zWi_of (cc := cX3_count) (maxL := 2) (rt := .int) (by decide) rfl (Nat.le_of_ble_eq_true rfl) ?_
  intro p e s m args below meth c ls A hF hr hlocks hP hK hD hS hl
  have hF : zFix p m c cX3_count 2 s args wsX3_count RX3 := hF
  obtain ⟨hx, hb, hml, hown, hts⟩ := id hF
  have hP : va_P D vwCl [(M, .inr (3, [.int (iI (th)), .int (iI ((n : Nat) : Int)), .int (iI (rc)), .ref MB, .ref MR, .ref ME, .ref MZ, .int (iI (wo)), .int (iI (wy)), .int (iI (po)), .ref MT, .int (iI (-1)), .int (iI (-1)), .int (iI (-1)), .int (iI (mu))])), (MB, zArr cI 36 b), (MR, zArr cI 6 mr), (ME, zArr cI 6 me), (MZ, zArr cI 6 mq), (MT, zArr cI 6 mt)] s.heap := hP
  have hD : va_D A [(M, .inr (3, [.int (iI (th)), .int (iI ((n : Nat) : Int)), .int (iI (rc)), .ref MB, .ref MR, .ref ME, .ref MZ, .int (iI (wo)), .int (iI (wy)), .int (iI (po)), .ref MT, .int (iI (-1)), .int (iI (-1)), .int (iI (-1)), .int (iI (mu))])), (MB, zArr cI 36 b), (MR, zArr cI 6 mr), (ME, zArr cI 6 me), (MZ, zArr cI 6 mq), (MT, zArr cI 6 mt)] := hD
  skip
  have hl : lv_has ls 2 [(0, .ref M), (1, .int (iI (z1)))] := hl
  refine lv_aload_n hx hb dX3_count_0 rfl (lv_at hl 0 rfl) ?_
  refine zr_ic (n := ((0 : Nat) : Int)) hx hb dX3_count_1 ?_
  refine va_put (D := D) (ci := 3) (v := .int (iI ((0 : Nat) : Int))) (ty := .int) (C := RX3) (T := TX3) (N := 15) hx hb hts (by decide +kernel) tyX3 tyX3_ok nmX3 hown hK hP hD hS 0 rfl rfl 0 (by decide) (hts (.fieldLink RX3 35 "RentHarmonyModel" "thrown" "I") (by decide +kernel)) (fun _ h9 => h9) rfl (by decide +kernel) rfl rfl (Nat.le_of_ble_eq_true rfl) dX3_count_2 (fun H locs hP hD hS => ?_)
  have hP : va_P D vwCl [(M, .inr (3, [.int (iI ((0 : Nat) : Int)), .int (iI ((n : Nat) : Int)), .int (iI (rc)), .ref MB, .ref MR, .ref ME, .ref MZ, .int (iI (wo)), .int (iI (wy)), .int (iI (po)), .ref MT, .int (iI (-1)), .int (iI (-1)), .int (iI (-1)), .int (iI (mu))])), (MB, zArr cI 36 b), (MR, zArr cI 6 mr), (ME, zArr cI 6 me), (MZ, zArr cI 6 mq), (MT, zArr cI 6 mt)] H := hP
  have hD : va_D A [(M, .inr (3, [.int (iI ((0 : Nat) : Int)), .int (iI ((n : Nat) : Int)), .int (iI (rc)), .ref MB, .ref MR, .ref ME, .ref MZ, .int (iI (wo)), .int (iI (wy)), .int (iI (po)), .ref MT, .int (iI (-1)), .int (iI (-1)), .int (iI (-1)), .int (iI (mu))])), (MB, zArr cI 36 b), (MR, zArr cI 6 mr), (ME, zArr cI 6 me), (MZ, zArr cI 6 mq), (MT, zArr cI 6 mt)] := hD
  refine lv_iload_n hx hb dX3_count_5 rfl (lv_at hl 1 rfl) ?_
  refine zr_ic (n := ((0 : Nat) : Int)) hx hb dX3_count_6 ?_
  refine zr_bi (n := ((6 : Nat) : Int)) hx hb dX3_count_7 rfl ?_
  refine zc_riS (As := [.int (iI (z1)), .int (iI ((0 : Nat) : Int)), .int (iI ((6 : Nat) : Int))]) (rest := []) hF (c_X3_isIn l D cI z1 ((0 : Nat) : Int) ((6 : Nat) : Int) hz1 (zB_of (by omega) (by omega)) (zB_of (by omega) (by omega))) (va_cwS 3 hts gX3_count_X3_isIn rfl rfl rfl (by decide +kernel) ⟨Nat.le_of_ble_eq_true rfl, Nat.le_of_ble_eq_true rfl⟩) hK hP [] rfl 0 rfl rfl hl.1 rfl (Nat.le_of_ble_eq_true rfl) dX3_count_9 ⟨Nat.zero_le _, Nat.zero_le _⟩ ?_
  refine zr_ifB_eq (tgt := 23) hx hb dX3_count_12 (by decide)  (fun c1 => ?_) (fun c1 => ?_)
  · refine lv_aload_n hx hb dX3_count_23 rfl (lv_at hl 0 rfl) ?_
    refine zr_ic (n := ((1 : Nat) : Int)) hx hb dX3_count_24 ?_
    refine zc_wi (As := [.int (iI ((1 : Nat) : Int))]) (rest := []) hF (c_X3_fail l D cI M MB MR ME MZ MT n b mr me mq mt ((0 : Nat) : Int) rc wo wy po (-1) (-1) (-1) mu ((1 : Nat) : Int) ) (cwV 1 hts gX3_count_X3_fail rfl rfl rfl (by decide +kernel) ⟨Nat.le_of_ble_eq_true rfl, Nat.le_of_ble_eq_true rfl⟩) hK hP hD hS [0, 1, 2, 3, 4, 5] rfl rfl (fun _ => rfl) 0 rfl 0 rfl rfl rfl rfl hl.1 rfl (Nat.le_of_ble_eq_true rfl) dX3_count_25 ⟨Nat.zero_le _, Nat.zero_le _⟩ (fun r3 u2 H locs hw hP hD hS => ?_)
    subst hw
    have hP : va_P D vwCl [(M, .inr (3, [.int (iI (((1 : Nat) : Int))), .int (iI ((n : Nat) : Int)), .int (iI (rc)), .ref MB, .ref MR, .ref ME, .ref MZ, .int (iI (wo)), .int (iI (wy)), .int (iI (po)), .ref MT, .int (iI (-1)), .int (iI (-1)), .int (iI (-1)), .int (iI (mu))])), (MB, zArr cI 36 b), (MR, zArr cI 6 mr), (ME, zArr cI 6 me), (MZ, zArr cI 6 mq), (MT, zArr cI 6 mt)] H := hP
    have hD : va_D A [(M, .inr (3, [.int (iI (((1 : Nat) : Int))), .int (iI ((n : Nat) : Int)), .int (iI (rc)), .ref MB, .ref MR, .ref ME, .ref MZ, .int (iI (wo)), .int (iI (wy)), .int (iI (po)), .ref MT, .int (iI (-1)), .int (iI (-1)), .int (iI (-1)), .int (iI (mu))])), (MB, zArr cI 36 b), (MR, zArr cI 6 mr), (ME, zArr cI 6 me), (MZ, zArr cI 6 mq), (MT, zArr cI 6 mt)] := hD
    exact zWi_ret hx hb hr hlocks hS dX3_count_28 () rfl hP
  · exact absurd c1 hbad
set_option maxHeartbeats 4000000 in
set_option maxRecDepth 100000 in
/-- X3_count -/
theorem c_X3_count_ok (l : Launch) (D : va_G) (cI : ClassId) (M MB MR ME MZ MT n : Nat) (b mr me mq mt : Nat → Int) (th rc wo wy po mu : Int) (w : Nat) (E : Nat → Int) (hn : n ≤ 6) (hb0 : ∀ k, 0 ≤ b k ∧ b k ≤ 999) (hrc : 0 ≤ rc ∧ rc ≤ 5999) (hmu : 0 ≤ mu ∧ mu ≤ 1) (hw : w < 7) (hE : zIsB n (zWt b (zRo n b)) E) : zWi (S := Int × Int × Int × (Nat → Int) × (Nat → Int) × (Nat → Int) × (Nat → Int)) l yX3_count wsX3_count 11 257 D cI [.ref M, .int (iI ((w : Nat) : Int))] [(M, .inr (3, [.int (iI (th)), .int (iI ((n : Nat) : Int)), .int (iI (rc)), .ref MB, .ref MR, .ref ME, .ref MZ, .int (iI (wo)), .int (iI (wy)), .int (iI (po)), .ref MT, .int (iI (-1)), .int (iI (-1)), .int (iI (-1)), .int (iI (mu))])), (MB, zArr cI 36 b), (MR, zArr cI 6 mr), (ME, zArr cI 6 me), (MZ, zArr cI 6 mq), (MT, zArr cI 6 mt)] (fun r u8 => r = iI (zTo n b rc E w) ∧ zMset n b rc u8.1 u8.2.1 u8.2.2.1 u8.2.2.2.1 u8.2.2.2.2.1 u8.2.2.2.2.2.1) (fun u8 => [(M, .inr (3, [.int (iI (((0 : Nat) : Int))), .int (iI ((n : Nat) : Int)), .int (iI (rc)), .ref MB, .ref MR, .ref ME, .ref MZ, .int (iI (u8.1)), .int (iI (u8.2.1)), .int (iI (u8.2.2.1)), .ref MT, .int (iI (-1)), .int (iI (-1)), .int (iI (-1)), .int (iI (mu))])), (MB, zArr cI 36 b), (MR, zArr cI 6 u8.2.2.2.1), (ME, zArr cI 6 u8.2.2.2.2.1), (MZ, zArr cI 6 u8.2.2.2.2.2.1), (MT, zArr cI 6 u8.2.2.2.2.2.2)]) := by
  refine zWi_of (cc := cX3_count) (maxL := 2) (rt := .int) (by decide) rfl (Nat.le_of_ble_eq_true rfl) ?_
  intro p e s m args below meth c ls A hF hr hlocks hP hK hD hS hl
  have hF : zFix p m c cX3_count 2 s args wsX3_count RX3 := hF
  obtain ⟨hx, hb, hml, hown, hts⟩ := id hF
  have hP : va_P D vwCl [(M, .inr (3, [.int (iI (th)), .int (iI ((n : Nat) : Int)), .int (iI (rc)), .ref MB, .ref MR, .ref ME, .ref MZ, .int (iI (wo)), .int (iI (wy)), .int (iI (po)), .ref MT, .int (iI (-1)), .int (iI (-1)), .int (iI (-1)), .int (iI (mu))])), (MB, zArr cI 36 b), (MR, zArr cI 6 mr), (ME, zArr cI 6 me), (MZ, zArr cI 6 mq), (MT, zArr cI 6 mt)] s.heap := hP
  have hD : va_D A [(M, .inr (3, [.int (iI (th)), .int (iI ((n : Nat) : Int)), .int (iI (rc)), .ref MB, .ref MR, .ref ME, .ref MZ, .int (iI (wo)), .int (iI (wy)), .int (iI (po)), .ref MT, .int (iI (-1)), .int (iI (-1)), .int (iI (-1)), .int (iI (mu))])), (MB, zArr cI 36 b), (MR, zArr cI 6 mr), (ME, zArr cI 6 me), (MZ, zArr cI 6 mq), (MT, zArr cI 6 mt)] := hD
  skip
  have hl : lv_has ls 2 [(0, .ref M), (1, .int (iI ((w : Nat) : Int)))] := hl
  refine lv_aload_n hx hb dX3_count_0 rfl (lv_at hl 0 rfl) ?_
  refine zr_ic (n := ((0 : Nat) : Int)) hx hb dX3_count_1 ?_
  refine va_put (D := D) (ci := 3) (v := .int (iI ((0 : Nat) : Int))) (ty := .int) (C := RX3) (T := TX3) (N := 15) hx hb hts (by decide +kernel) tyX3 tyX3_ok nmX3 hown hK hP hD hS 0 rfl rfl 0 (by decide) (hts (.fieldLink RX3 35 "RentHarmonyModel" "thrown" "I") (by decide +kernel)) (fun _ h9 => h9) rfl (by decide +kernel) rfl rfl (Nat.le_of_ble_eq_true rfl) dX3_count_2 (fun H locs hP hD hS => ?_)
  have hP : va_P D vwCl [(M, .inr (3, [.int (iI ((0 : Nat) : Int)), .int (iI ((n : Nat) : Int)), .int (iI (rc)), .ref MB, .ref MR, .ref ME, .ref MZ, .int (iI (wo)), .int (iI (wy)), .int (iI (po)), .ref MT, .int (iI (-1)), .int (iI (-1)), .int (iI (-1)), .int (iI (mu))])), (MB, zArr cI 36 b), (MR, zArr cI 6 mr), (ME, zArr cI 6 me), (MZ, zArr cI 6 mq), (MT, zArr cI 6 mt)] H := hP
  have hD : va_D A [(M, .inr (3, [.int (iI ((0 : Nat) : Int)), .int (iI ((n : Nat) : Int)), .int (iI (rc)), .ref MB, .ref MR, .ref ME, .ref MZ, .int (iI (wo)), .int (iI (wy)), .int (iI (po)), .ref MT, .int (iI (-1)), .int (iI (-1)), .int (iI (-1)), .int (iI (mu))])), (MB, zArr cI 36 b), (MR, zArr cI 6 mr), (ME, zArr cI 6 me), (MZ, zArr cI 6 mq), (MT, zArr cI 6 mt)] := hD
  refine lv_iload_n hx hb dX3_count_5 rfl (lv_at hl 1 rfl) ?_
  refine zr_ic (n := ((0 : Nat) : Int)) hx hb dX3_count_6 ?_
  refine zr_bi (n := ((6 : Nat) : Int)) hx hb dX3_count_7 rfl ?_
  refine zc_riS (As := [.int (iI ((w : Nat) : Int)), .int (iI ((0 : Nat) : Int)), .int (iI ((6 : Nat) : Int))]) (rest := []) hF (c_X3_isIn l D cI ((w : Nat) : Int) ((0 : Nat) : Int) ((6 : Nat) : Int) (zB_of (by omega) (by omega)) (zB_of (by omega) (by omega)) (zB_of (by omega) (by omega))) (va_cwS 3 hts gX3_count_X3_isIn rfl rfl rfl (by decide +kernel) ⟨Nat.le_of_ble_eq_true rfl, Nat.le_of_ble_eq_true rfl⟩) hK hP [] rfl 0 rfl rfl hl.1 rfl (Nat.le_of_ble_eq_true rfl) dX3_count_9 ⟨Nat.zero_le _, Nat.zero_le _⟩ ?_
  refine zr_ifB_eq (tgt := 23) hx hb dX3_count_12 (by decide)  (fun c1 => ?_) (fun c1 => ?_)
  · exact absurd (by omega) c1
  · refine lv_aload_n hx hb dX3_count_15 rfl (lv_at hl 0 rfl) ?_
    refine lv_iload_n hx hb dX3_count_16 rfl (lv_at hl 1 rfl) ?_
    refine zc_wi (As := [.int (iI ((w : Nat) : Int))]) (rest := []) hF (c_X3_counted l D cI M MB MR ME MZ MT n b mr me mq mt ((0 : Nat) : Int) rc wo wy po mu E w (by omega) (by assumption) (by assumption) (by omega) (by assumption) (by omega)) (cwV 1 hts gX3_count_X3_counted rfl rfl rfl (by decide +kernel) ⟨Nat.le_of_ble_eq_true rfl, Nat.le_of_ble_eq_true rfl⟩) hK hP hD hS [0, 1, 2, 3, 4, 5] rfl rfl (fun _ => rfl) 0 rfl 0 rfl rfl rfl rfl hl.1 rfl (Nat.le_of_ble_eq_true rfl) dX3_count_17 ⟨Nat.zero_le _, Nat.zero_le _⟩ (fun r3 u2 H locs hw hP hD hS => ?_)
    obtain ⟨wo4, wy4, po4, ro4, me4, mq4, mt4⟩ := u2
    obtain ⟨hrv4, hst4⟩ := hw
    subst hrv4
    replace hst4 : zMset n b rc wo4 wy4 po4 ro4 me4 mq4 := hst4
    have hP : va_P D vwCl [(M, .inr (3, [.int (iI ((0 : Nat) : Int)), .int (iI ((n : Nat) : Int)), .int (iI (rc)), .ref MB, .ref MR, .ref ME, .ref MZ, .int (iI (wo4)), .int (iI (wy4)), .int (iI (po4)), .ref MT, .int (iI (-1)), .int (iI (-1)), .int (iI (-1)), .int (iI (mu))])), (MB, zArr cI 36 b), (MR, zArr cI 6 ro4), (ME, zArr cI 6 me4), (MZ, zArr cI 6 mq4), (MT, zArr cI 6 mt4)] H := hP
    have hD : va_D A [(M, .inr (3, [.int (iI ((0 : Nat) : Int)), .int (iI ((n : Nat) : Int)), .int (iI (rc)), .ref MB, .ref MR, .ref ME, .ref MZ, .int (iI (wo4)), .int (iI (wy4)), .int (iI (po4)), .ref MT, .int (iI (-1)), .int (iI (-1)), .int (iI (-1)), .int (iI (mu))])), (MB, zArr cI 36 b), (MR, zArr cI 6 ro4), (ME, zArr cI 6 me4), (MZ, zArr cI 6 mq4), (MT, zArr cI 6 mt4)] := hD
    refine lv_goto (tgt := 28) hx hb dX3_count_20 (by decide) ?_
    exact zWi_ret hx hb hr hlocks hS dX3_count_28 (wo4, wy4, po4, ro4, me4, mq4, mt4) ⟨rfl, hst4⟩ hP
set_option maxHeartbeats 4000000 in
set_option maxRecDepth 100000 in
/-- X3_envies -/
theorem c_X3_envies_bad (l : Launch) (D : va_G) (cI : ClassId) (M MB MR ME MZ MT n : Nat) (b mr me mq mt : Nat → Int) (th rc wo wy po mu : Int) (z1 z2 : Int) (hn : n ≤ 6) (hz1 : zB z1) (hz2 : zB z2) (hbad : ¬ ((0 ≤ z1 ∧ z1 < (n : Int)) ∧ 0 ≤ z2 ∧ z2 < (n : Int))) : zWi (S := Unit) l yX3_envies wsX3_envies 2 43 D cI [.ref M, .int (iI (z1)), .int (iI (z2))] [(M, .inr (3, [.int (iI (th)), .int (iI ((n : Nat) : Int)), .int (iI (rc)), .ref MB, .ref MR, .ref ME, .ref MZ, .int (iI (wo)), .int (iI (wy)), .int (iI (po)), .ref MT, .int (iI (-1)), .int (iI (-1)), .int (iI (-1)), .int (iI (mu))])), (MB, zArr cI 36 b), (MR, zArr cI 6 mr), (ME, zArr cI 6 me), (MZ, zArr cI 6 mq), (MT, zArr cI 6 mt)] (fun r _ => r = iI 0) (fun _ => [(M, .inr (3, [.int (iI (((1 : Nat) : Int))), .int (iI ((n : Nat) : Int)), .int (iI (rc)), .ref MB, .ref MR, .ref ME, .ref MZ, .int (iI (wo)), .int (iI (wy)), .int (iI (po)), .ref MT, .int (iI (-1)), .int (iI (-1)), .int (iI (-1)), .int (iI (mu))])), (MB, zArr cI 36 b), (MR, zArr cI 6 mr), (ME, zArr cI 6 me), (MZ, zArr cI 6 mq), (MT, zArr cI 6 mt)]) := by
  refine zWi_of (cc := cX3_envies) (maxL := 3) (rt := .boolean) (by decide) rfl (Nat.le_of_ble_eq_true rfl) ?_
  intro p e s m args below meth c ls A hF hr hlocks hP hK hD hS hl
  have hF : zFix p m c cX3_envies 3 s args wsX3_envies RX3 := hF
  obtain ⟨hx, hb, hml, hown, hts⟩ := id hF
  have hP : va_P D vwCl [(M, .inr (3, [.int (iI (th)), .int (iI ((n : Nat) : Int)), .int (iI (rc)), .ref MB, .ref MR, .ref ME, .ref MZ, .int (iI (wo)), .int (iI (wy)), .int (iI (po)), .ref MT, .int (iI (-1)), .int (iI (-1)), .int (iI (-1)), .int (iI (mu))])), (MB, zArr cI 36 b), (MR, zArr cI 6 mr), (ME, zArr cI 6 me), (MZ, zArr cI 6 mq), (MT, zArr cI 6 mt)] s.heap := hP
  have hD : va_D A [(M, .inr (3, [.int (iI (th)), .int (iI ((n : Nat) : Int)), .int (iI (rc)), .ref MB, .ref MR, .ref ME, .ref MZ, .int (iI (wo)), .int (iI (wy)), .int (iI (po)), .ref MT, .int (iI (-1)), .int (iI (-1)), .int (iI (-1)), .int (iI (mu))])), (MB, zArr cI 36 b), (MR, zArr cI 6 mr), (ME, zArr cI 6 me), (MZ, zArr cI 6 mq), (MT, zArr cI 6 mt)] := hD
  skip
  have hl : lv_has ls 3 [(0, .ref M), (1, .int (iI (z1))), (2, .int (iI (z2)))] := hl
  refine lv_aload_n hx hb dX3_envies_0 rfl (lv_at hl 0 rfl) ?_
  refine lv_aload_n hx hb dX3_envies_1 rfl (lv_at hl 0 rfl) ?_
  refine lv_iload_n hx hb dX3_envies_2 rfl (lv_at hl 1 rfl) ?_
  refine zc_ri (As := [.int (iI (z1))]) (rest := [.ref M]) hF (c_X3_isOne l D cI M MB MR ME MZ MT n b mr me mq mt th rc wo wy po (-1) (-1) (-1) mu z1 (by omega) hz1) (cwV 1 hts gX3_envies_X3_isOne rfl rfl rfl (by decide +kernel) ⟨Nat.le_of_ble_eq_true rfl, Nat.le_of_ble_eq_true rfl⟩) hK hP [0, 1, 2, 3, 4, 5] rfl 0 rfl 0 rfl rfl rfl rfl hl.1 rfl (Nat.le_of_ble_eq_true rfl) dX3_envies_3 ⟨Nat.zero_le _, Nat.zero_le _⟩ ?_
  refine zr_ifB_eq (tgt := 21) hx hb dX3_envies_6 (by decide)  (fun c1 => ?_) (fun c1 => ?_)
  · refine zr_ic (n := ((1 : Nat) : Int)) hx hb dX3_envies_21 ?_
    refine va_put (D := D) (ci := 3) (v := .int (iI ((1 : Nat) : Int))) (ty := .int) (C := RX3) (T := TX3) (N := 15) hx hb hts (by decide +kernel) tyX3 tyX3_ok nmX3 hown hK hP hD hS 0 rfl rfl 0 (by decide) (hts (.fieldLink RX3 35 "RentHarmonyModel" "thrown" "I") (by decide +kernel)) (fun _ h9 => h9) rfl (by decide +kernel) rfl rfl (Nat.le_of_ble_eq_true rfl) dX3_envies_22 (fun H locs hP hD hS => ?_)
    have hP : va_P D vwCl [(M, .inr (3, [.int (iI ((1 : Nat) : Int)), .int (iI ((n : Nat) : Int)), .int (iI (rc)), .ref MB, .ref MR, .ref ME, .ref MZ, .int (iI (wo)), .int (iI (wy)), .int (iI (po)), .ref MT, .int (iI (-1)), .int (iI (-1)), .int (iI (-1)), .int (iI (mu))])), (MB, zArr cI 36 b), (MR, zArr cI 6 mr), (ME, zArr cI 6 me), (MZ, zArr cI 6 mq), (MT, zArr cI 6 mt)] H := hP
    have hD : va_D A [(M, .inr (3, [.int (iI ((1 : Nat) : Int)), .int (iI ((n : Nat) : Int)), .int (iI (rc)), .ref MB, .ref MR, .ref ME, .ref MZ, .int (iI (wo)), .int (iI (wy)), .int (iI (po)), .ref MT, .int (iI (-1)), .int (iI (-1)), .int (iI (-1)), .int (iI (mu))])), (MB, zArr cI 36 b), (MR, zArr cI 6 mr), (ME, zArr cI 6 me), (MZ, zArr cI 6 mq), (MT, zArr cI 6 mt)] := hD
    refine lv_aload_n hx hb dX3_envies_25 rfl (lv_at hl 0 rfl) ?_
    refine va_get (D := D) (ci := 3) (v := .int (iI ((1 : Nat) : Int))) (C := RX3) (T := TX3) (N := 15) hx hb hts (by decide +kernel) hown hK hP 0 rfl rfl 0 (by decide) (hts (.fieldLink RX3 35 "RentHarmonyModel" "thrown" "I") (by decide +kernel)) (fun _ h9 => h9) rfl dX3_envies_26 ?_
    refine zr_if_eq (tgt := 34) hx hb dX3_envies_29 (by decide) (zB_of (by omega) (by omega)) (fun c2 => ?_) (fun c2 => ?_)
    · exact absurd c2 (by omega)
    · refine zr_ic (n := ((0 : Nat) : Int)) hx hb dX3_envies_32 ?_
      exact zWi_retz hx hb hr rfl hlocks hS dX3_envies_33 () rfl hP
  · refine lv_aload_n hx hb dX3_envies_9 rfl (lv_at hl 0 rfl) ?_
    refine lv_iload_n hx hb dX3_envies_10 rfl (lv_at hl 2 rfl) ?_
    refine zc_ri (As := [.int (iI (z2))]) (rest := [.ref M]) hF (c_X3_isOne l D cI M MB MR ME MZ MT n b mr me mq mt th rc wo wy po (-1) (-1) (-1) mu z2 (by omega) hz2) (cwV 1 hts gX3_envies_X3_isOne rfl rfl rfl (by decide +kernel) ⟨Nat.le_of_ble_eq_true rfl, Nat.le_of_ble_eq_true rfl⟩) hK hP [0, 1, 2, 3, 4, 5] rfl 0 rfl 0 rfl rfl rfl rfl hl.1 rfl (Nat.le_of_ble_eq_true rfl) dX3_envies_11 ⟨Nat.zero_le _, Nat.zero_le _⟩ ?_
    refine zr_ifB_eq (tgt := 21) hx hb dX3_envies_14 (by decide)  (fun c3 => ?_) (fun c3 => ?_)
    · refine zr_ic (n := ((1 : Nat) : Int)) hx hb dX3_envies_21 ?_
      refine va_put (D := D) (ci := 3) (v := .int (iI ((1 : Nat) : Int))) (ty := .int) (C := RX3) (T := TX3) (N := 15) hx hb hts (by decide +kernel) tyX3 tyX3_ok nmX3 hown hK hP hD hS 0 rfl rfl 0 (by decide) (hts (.fieldLink RX3 35 "RentHarmonyModel" "thrown" "I") (by decide +kernel)) (fun _ h9 => h9) rfl (by decide +kernel) rfl rfl (Nat.le_of_ble_eq_true rfl) dX3_envies_22 (fun H locs hP hD hS => ?_)
      have hP : va_P D vwCl [(M, .inr (3, [.int (iI ((1 : Nat) : Int)), .int (iI ((n : Nat) : Int)), .int (iI (rc)), .ref MB, .ref MR, .ref ME, .ref MZ, .int (iI (wo)), .int (iI (wy)), .int (iI (po)), .ref MT, .int (iI (-1)), .int (iI (-1)), .int (iI (-1)), .int (iI (mu))])), (MB, zArr cI 36 b), (MR, zArr cI 6 mr), (ME, zArr cI 6 me), (MZ, zArr cI 6 mq), (MT, zArr cI 6 mt)] H := hP
      have hD : va_D A [(M, .inr (3, [.int (iI ((1 : Nat) : Int)), .int (iI ((n : Nat) : Int)), .int (iI (rc)), .ref MB, .ref MR, .ref ME, .ref MZ, .int (iI (wo)), .int (iI (wy)), .int (iI (po)), .ref MT, .int (iI (-1)), .int (iI (-1)), .int (iI (-1)), .int (iI (mu))])), (MB, zArr cI 36 b), (MR, zArr cI 6 mr), (ME, zArr cI 6 me), (MZ, zArr cI 6 mq), (MT, zArr cI 6 mt)] := hD
      refine lv_aload_n hx hb dX3_envies_25 rfl (lv_at hl 0 rfl) ?_
      refine va_get (D := D) (ci := 3) (v := .int (iI ((1 : Nat) : Int))) (C := RX3) (T := TX3) (N := 15) hx hb hts (by decide +kernel) hown hK hP 0 rfl rfl 0 (by decide) (hts (.fieldLink RX3 35 "RentHarmonyModel" "thrown" "I") (by decide +kernel)) (fun _ h9 => h9) rfl dX3_envies_26 ?_
      refine zr_if_eq (tgt := 34) hx hb dX3_envies_29 (by decide) (zB_of (by omega) (by omega)) (fun c4 => ?_) (fun c4 => ?_)
      · exact absurd c4 (by omega)
      · refine zr_ic (n := ((0 : Nat) : Int)) hx hb dX3_envies_32 ?_
        exact zWi_retz hx hb hr rfl hlocks hS dX3_envies_33 () rfl hP
    · exact absurd ⟨c1, c3⟩ hbad
set_option maxHeartbeats 4000000 in
set_option maxRecDepth 100000 in
/-- X3_envies -/
theorem c_X3_envies_ok (l : Launch) (D : va_G) (cI : ClassId) (M MB MR ME MZ MT n : Nat) (b mr me mq mt : Nat → Int) (th rc wo wy po mu : Int) (x y : Nat) (hn : n ≤ 6) (hb0 : ∀ k, 0 ≤ b k ∧ b k ≤ 999) (hrc : 0 ≤ rc ∧ rc ≤ 5999) (hmu : 0 ≤ mu ∧ mu ≤ 1) (hx0 : x < n) (hy0 : y < n) : zWi (S := Int × Int × (Nat → Int) × (Nat → Int)) l yX3_envies wsX3_envies 9 211 D cI [.ref M, .int (iI ((x : Nat) : Int)), .int (iI ((y : Nat) : Int))] [(M, .inr (3, [.int (iI (th)), .int (iI ((n : Nat) : Int)), .int (iI (rc)), .ref MB, .ref MR, .ref ME, .ref MZ, .int (iI (wo)), .int (iI (wy)), .int (iI (po)), .ref MT, .int (iI (-1)), .int (iI (-1)), .int (iI (-1)), .int (iI (mu))])), (MB, zArr cI 36 b), (MR, zArr cI 6 mr), (ME, zArr cI 6 me), (MZ, zArr cI 6 mq), (MT, zArr cI 6 mt)] (fun r _ => r = iI (bZ (zEn b (zRo n b) x y))) (fun u8 => [(M, .inr (3, [.int (iI (((0 : Nat) : Int))), .int (iI ((n : Nat) : Int)), .int (iI (rc)), .ref MB, .ref MR, .ref ME, .ref MZ, .int (iI (u8.1)), .int (iI (u8.2.1)), .int (iI (po)), .ref MT, .int (iI (-1)), .int (iI (-1)), .int (iI (-1)), .int (iI (mu))])), (MB, zArr cI 36 b), (MR, zArr cI 6 u8.2.2.1), (ME, zArr cI 6 me), (MZ, zArr cI 6 mq), (MT, zArr cI 6 u8.2.2.2)]) := by
  refine zWi_of (cc := cX3_envies) (maxL := 3) (rt := .boolean) (by decide) rfl (Nat.le_of_ble_eq_true rfl) ?_
  intro p e s m args below meth c ls A hF hr hlocks hP hK hD hS hl
  have hF : zFix p m c cX3_envies 3 s args wsX3_envies RX3 := hF
  obtain ⟨hx, hb, hml, hown, hts⟩ := id hF
  have hP : va_P D vwCl [(M, .inr (3, [.int (iI (th)), .int (iI ((n : Nat) : Int)), .int (iI (rc)), .ref MB, .ref MR, .ref ME, .ref MZ, .int (iI (wo)), .int (iI (wy)), .int (iI (po)), .ref MT, .int (iI (-1)), .int (iI (-1)), .int (iI (-1)), .int (iI (mu))])), (MB, zArr cI 36 b), (MR, zArr cI 6 mr), (ME, zArr cI 6 me), (MZ, zArr cI 6 mq), (MT, zArr cI 6 mt)] s.heap := hP
  have hD : va_D A [(M, .inr (3, [.int (iI (th)), .int (iI ((n : Nat) : Int)), .int (iI (rc)), .ref MB, .ref MR, .ref ME, .ref MZ, .int (iI (wo)), .int (iI (wy)), .int (iI (po)), .ref MT, .int (iI (-1)), .int (iI (-1)), .int (iI (-1)), .int (iI (mu))])), (MB, zArr cI 36 b), (MR, zArr cI 6 mr), (ME, zArr cI 6 me), (MZ, zArr cI 6 mq), (MT, zArr cI 6 mt)] := hD
  skip
  have hl : lv_has ls 3 [(0, .ref M), (1, .int (iI ((x : Nat) : Int))), (2, .int (iI ((y : Nat) : Int)))] := hl
  refine lv_aload_n hx hb dX3_envies_0 rfl (lv_at hl 0 rfl) ?_
  refine lv_aload_n hx hb dX3_envies_1 rfl (lv_at hl 0 rfl) ?_
  refine lv_iload_n hx hb dX3_envies_2 rfl (lv_at hl 1 rfl) ?_
  refine zc_ri (As := [.int (iI ((x : Nat) : Int))]) (rest := [.ref M]) hF (c_X3_isOne l D cI M MB MR ME MZ MT n b mr me mq mt th rc wo wy po (-1) (-1) (-1) mu ((x : Nat) : Int) (by omega) (zB_of (by omega) (by omega))) (cwV 1 hts gX3_envies_X3_isOne rfl rfl rfl (by decide +kernel) ⟨Nat.le_of_ble_eq_true rfl, Nat.le_of_ble_eq_true rfl⟩) hK hP [0, 1, 2, 3, 4, 5] rfl 0 rfl 0 rfl rfl rfl rfl hl.1 rfl (Nat.le_of_ble_eq_true rfl) dX3_envies_3 ⟨Nat.zero_le _, Nat.zero_le _⟩ ?_
  refine zr_ifB_eq (tgt := 21) hx hb dX3_envies_6 (by decide)  (fun c1 => ?_) (fun c1 => ?_)
  · exact absurd (by omega) c1
  · refine lv_aload_n hx hb dX3_envies_9 rfl (lv_at hl 0 rfl) ?_
    refine lv_iload_n hx hb dX3_envies_10 rfl (lv_at hl 2 rfl) ?_
    refine zc_ri (As := [.int (iI ((y : Nat) : Int))]) (rest := [.ref M]) hF (c_X3_isOne l D cI M MB MR ME MZ MT n b mr me mq mt th rc wo wy po (-1) (-1) (-1) mu ((y : Nat) : Int) (by omega) (zB_of (by omega) (by omega))) (cwV 1 hts gX3_envies_X3_isOne rfl rfl rfl (by decide +kernel) ⟨Nat.le_of_ble_eq_true rfl, Nat.le_of_ble_eq_true rfl⟩) hK hP [0, 1, 2, 3, 4, 5] rfl 0 rfl 0 rfl rfl rfl rfl hl.1 rfl (Nat.le_of_ble_eq_true rfl) dX3_envies_11 ⟨Nat.zero_le _, Nat.zero_le _⟩ ?_
    refine zr_ifB_eq (tgt := 21) hx hb dX3_envies_14 (by decide)  (fun c2 => ?_) (fun c2 => ?_)
    · exact absurd (by omega) c2
    · refine zr_ic (n := ((0 : Nat) : Int)) hx hb dX3_envies_17 ?_
      refine lv_goto (tgt := 22) hx hb dX3_envies_18 (by decide) ?_
      refine va_put (D := D) (ci := 3) (v := .int (iI ((0 : Nat) : Int))) (ty := .int) (C := RX3) (T := TX3) (N := 15) hx hb hts (by decide +kernel) tyX3 tyX3_ok nmX3 hown hK hP hD hS 0 rfl rfl 0 (by decide) (hts (.fieldLink RX3 35 "RentHarmonyModel" "thrown" "I") (by decide +kernel)) (fun _ h9 => h9) rfl (by decide +kernel) rfl rfl (Nat.le_of_ble_eq_true rfl) dX3_envies_22 (fun H locs hP hD hS => ?_)
      have hP : va_P D vwCl [(M, .inr (3, [.int (iI ((0 : Nat) : Int)), .int (iI ((n : Nat) : Int)), .int (iI (rc)), .ref MB, .ref MR, .ref ME, .ref MZ, .int (iI (wo)), .int (iI (wy)), .int (iI (po)), .ref MT, .int (iI (-1)), .int (iI (-1)), .int (iI (-1)), .int (iI (mu))])), (MB, zArr cI 36 b), (MR, zArr cI 6 mr), (ME, zArr cI 6 me), (MZ, zArr cI 6 mq), (MT, zArr cI 6 mt)] H := hP
      have hD : va_D A [(M, .inr (3, [.int (iI ((0 : Nat) : Int)), .int (iI ((n : Nat) : Int)), .int (iI (rc)), .ref MB, .ref MR, .ref ME, .ref MZ, .int (iI (wo)), .int (iI (wy)), .int (iI (po)), .ref MT, .int (iI (-1)), .int (iI (-1)), .int (iI (-1)), .int (iI (mu))])), (MB, zArr cI 36 b), (MR, zArr cI 6 mr), (ME, zArr cI 6 me), (MZ, zArr cI 6 mq), (MT, zArr cI 6 mt)] := hD
      refine lv_aload_n hx hb dX3_envies_25 rfl (lv_at hl 0 rfl) ?_
      refine va_get (D := D) (ci := 3) (v := .int (iI ((0 : Nat) : Int))) (C := RX3) (T := TX3) (N := 15) hx hb hts (by decide +kernel) hown hK hP 0 rfl rfl 0 (by decide) (hts (.fieldLink RX3 35 "RentHarmonyModel" "thrown" "I") (by decide +kernel)) (fun _ h9 => h9) rfl dX3_envies_26 ?_
      refine zr_if_eq (tgt := 34) hx hb dX3_envies_29 (by decide) (zB_of (by omega) (by omega)) (fun c3 => ?_) (fun c3 => ?_)
      · refine lv_aload_n hx hb dX3_envies_34 rfl (lv_at hl 0 rfl) ?_
        refine zc_wi (As := []) (rest := []) hF (c_X3_give l D cI M MB MR ME MZ MT n b mr me mq mt ((0 : Nat) : Int) rc wo wy po (-1) (-1) (-1) mu (by omega) (by assumption) (zB_of (by omega) (by omega)) (zB_of (by omega) (by omega)) (zB_of (by omega) (by omega)) (by omega)) (cwV 0 hts gX3_envies_X3_give rfl rfl rfl (by decide +kernel) ⟨Nat.le_of_ble_eq_true rfl, Nat.le_of_ble_eq_true rfl⟩) hK hP hD hS [0, 1, 2, 3, 4, 5] rfl rfl (fun _ => rfl) 0 rfl 0 rfl rfl rfl rfl hl.1 rfl (Nat.le_of_ble_eq_true rfl) dX3_envies_35 ⟨Nat.zero_le _, Nat.zero_le _⟩ (fun r5 u4 H locs hw hP hD hS => ?_)
        obtain ⟨wo6, wy6, ro6, mt6⟩ := u4
        obtain ⟨hrv6, hgv6⟩ := hw
        subst hrv6
        have hgv6 : zGave n (zX n b (-1) (-1) (-1) mu) wo6 wy6 ro6 := hgv6
        have hP : va_P D vwCl [(M, .inr (3, [.int (iI ((0 : Nat) : Int)), .int (iI ((n : Nat) : Int)), .int (iI (rc)), .ref MB, .ref MR, .ref ME, .ref MZ, .int (iI (wo6)), .int (iI (wy6)), .int (iI (po)), .ref MT, .int (iI (-1)), .int (iI (-1)), .int (iI (-1)), .int (iI (mu))])), (MB, zArr cI 36 b), (MR, zArr cI 6 ro6), (ME, zArr cI 6 me), (MZ, zArr cI 6 mq), (MT, zArr cI 6 mt6)] H := hP
        have hD : va_D A [(M, .inr (3, [.int (iI ((0 : Nat) : Int)), .int (iI ((n : Nat) : Int)), .int (iI (rc)), .ref MB, .ref MR, .ref ME, .ref MZ, .int (iI (wo6)), .int (iI (wy6)), .int (iI (po)), .ref MT, .int (iI (-1)), .int (iI (-1)), .int (iI (-1)), .int (iI (mu))])), (MB, zArr cI 36 b), (MR, zArr cI 6 ro6), (ME, zArr cI 6 me), (MZ, zArr cI 6 mq), (MT, zArr cI 6 mt6)] := hD
        rw [zX_none] at hgv6
        obtain ⟨hw1, hw2, hro⟩ := zGave_ro hn hgv6
        have hgn := zRo_lt (b := b) hn
        refine lv_pop hx hb dX3_envies_38 rfl ?_
        refine lv_aload_n hx hb dX3_envies_39 rfl (lv_at hl 0 rfl) ?_
        refine lv_iload_n hx hb dX3_envies_40 rfl (lv_at hl 1 rfl) ?_
        refine lv_iload_n hx hb dX3_envies_41 rfl (lv_at hl 2 rfl) ?_
        refine zc_ri (As := [.int (iI ((x : Nat) : Int)), .int (iI ((y : Nat) : Int))]) (rest := []) hF (c_X3_isEnvy l D cI M MB MR ME MZ MT n b ro6 me mq mt6 ((0 : Nat) : Int) rc wo6 wy6 po (-1) (-1) (-1) mu (zRo n b) x y (by omega) (by assumption) (by assumption) (by assumption) (by omega) (by omega)) (cwV 2 hts gX3_envies_X3_isEnvy rfl rfl rfl (by decide +kernel) ⟨Nat.le_of_ble_eq_true rfl, Nat.le_of_ble_eq_true rfl⟩) hK hP [0, 1, 2, 3, 4, 5] rfl 0 rfl 0 rfl rfl rfl rfl hl.1 rfl (Nat.le_of_ble_eq_true rfl) dX3_envies_42 ⟨Nat.zero_le _, Nat.zero_le _⟩ ?_
        exact zWi_retz hx hb hr (bZ_nar _) hlocks hS dX3_envies_45 (wo6, wy6, ro6, mt6) rfl hP
      · exact absurd c3 (by omega)
set_option maxHeartbeats 4000000 in
set_option maxRecDepth 100000 in
/-- X3_gap -/
theorem c_X3_gap_bad (l : Launch) (D : va_G) (cI : ClassId) (M MB MR ME MZ MT n : Nat) (b mr me mq mt : Nat → Int) (th rc wo wy po mu : Int) (z1 z2 : Int) (hn : n ≤ 6) (hz1 : zB z1) (hz2 : zB z2) (hbad : ¬ ((0 ≤ z1 ∧ z1 < (n : Int)) ∧ 0 ≤ z2 ∧ z2 < (n : Int))) : zWi (S := Unit) l yX3_gap wsX3_gap 2 43 D cI [.ref M, .int (iI (z1)), .int (iI (z2))] [(M, .inr (3, [.int (iI (th)), .int (iI ((n : Nat) : Int)), .int (iI (rc)), .ref MB, .ref MR, .ref ME, .ref MZ, .int (iI (wo)), .int (iI (wy)), .int (iI (po)), .ref MT, .int (iI (-1)), .int (iI (-1)), .int (iI (-1)), .int (iI (mu))])), (MB, zArr cI 36 b), (MR, zArr cI 6 mr), (ME, zArr cI 6 me), (MZ, zArr cI 6 mq), (MT, zArr cI 6 mt)] (fun r _ => r = iI 0) (fun _ => [(M, .inr (3, [.int (iI (((1 : Nat) : Int))), .int (iI ((n : Nat) : Int)), .int (iI (rc)), .ref MB, .ref MR, .ref ME, .ref MZ, .int (iI (wo)), .int (iI (wy)), .int (iI (po)), .ref MT, .int (iI (-1)), .int (iI (-1)), .int (iI (-1)), .int (iI (mu))])), (MB, zArr cI 36 b), (MR, zArr cI 6 mr), (ME, zArr cI 6 me), (MZ, zArr cI 6 mq), (MT, zArr cI 6 mt)]) := by
  refine zWi_of (cc := cX3_gap) (maxL := 3) (rt := .int) (by decide) rfl (Nat.le_of_ble_eq_true rfl) ?_
  intro p e s m args below meth c ls A hF hr hlocks hP hK hD hS hl
  have hF : zFix p m c cX3_gap 3 s args wsX3_gap RX3 := hF
  obtain ⟨hx, hb, hml, hown, hts⟩ := id hF
  have hP : va_P D vwCl [(M, .inr (3, [.int (iI (th)), .int (iI ((n : Nat) : Int)), .int (iI (rc)), .ref MB, .ref MR, .ref ME, .ref MZ, .int (iI (wo)), .int (iI (wy)), .int (iI (po)), .ref MT, .int (iI (-1)), .int (iI (-1)), .int (iI (-1)), .int (iI (mu))])), (MB, zArr cI 36 b), (MR, zArr cI 6 mr), (ME, zArr cI 6 me), (MZ, zArr cI 6 mq), (MT, zArr cI 6 mt)] s.heap := hP
  have hD : va_D A [(M, .inr (3, [.int (iI (th)), .int (iI ((n : Nat) : Int)), .int (iI (rc)), .ref MB, .ref MR, .ref ME, .ref MZ, .int (iI (wo)), .int (iI (wy)), .int (iI (po)), .ref MT, .int (iI (-1)), .int (iI (-1)), .int (iI (-1)), .int (iI (mu))])), (MB, zArr cI 36 b), (MR, zArr cI 6 mr), (ME, zArr cI 6 me), (MZ, zArr cI 6 mq), (MT, zArr cI 6 mt)] := hD
  skip
  have hl : lv_has ls 3 [(0, .ref M), (1, .int (iI (z1))), (2, .int (iI (z2)))] := hl
  refine lv_aload_n hx hb dX3_gap_0 rfl (lv_at hl 0 rfl) ?_
  refine zr_ic (n := ((0 : Nat) : Int)) hx hb dX3_gap_1 ?_
  refine va_put (D := D) (ci := 3) (v := .int (iI ((0 : Nat) : Int))) (ty := .int) (C := RX3) (T := TX3) (N := 15) hx hb hts (by decide +kernel) tyX3 tyX3_ok nmX3 hown hK hP hD hS 0 rfl rfl 0 (by decide) (hts (.fieldLink RX3 35 "RentHarmonyModel" "thrown" "I") (by decide +kernel)) (fun _ h9 => h9) rfl (by decide +kernel) rfl rfl (Nat.le_of_ble_eq_true rfl) dX3_gap_2 (fun H locs hP hD hS => ?_)
  have hP : va_P D vwCl [(M, .inr (3, [.int (iI ((0 : Nat) : Int)), .int (iI ((n : Nat) : Int)), .int (iI (rc)), .ref MB, .ref MR, .ref ME, .ref MZ, .int (iI (wo)), .int (iI (wy)), .int (iI (po)), .ref MT, .int (iI (-1)), .int (iI (-1)), .int (iI (-1)), .int (iI (mu))])), (MB, zArr cI 36 b), (MR, zArr cI 6 mr), (ME, zArr cI 6 me), (MZ, zArr cI 6 mq), (MT, zArr cI 6 mt)] H := hP
  have hD : va_D A [(M, .inr (3, [.int (iI ((0 : Nat) : Int)), .int (iI ((n : Nat) : Int)), .int (iI (rc)), .ref MB, .ref MR, .ref ME, .ref MZ, .int (iI (wo)), .int (iI (wy)), .int (iI (po)), .ref MT, .int (iI (-1)), .int (iI (-1)), .int (iI (-1)), .int (iI (mu))])), (MB, zArr cI 36 b), (MR, zArr cI 6 mr), (ME, zArr cI 6 me), (MZ, zArr cI 6 mq), (MT, zArr cI 6 mt)] := hD
  refine lv_aload_n hx hb dX3_gap_5 rfl (lv_at hl 0 rfl) ?_
  refine lv_iload_n hx hb dX3_gap_6 rfl (lv_at hl 1 rfl) ?_
  refine zc_ri (As := [.int (iI (z1))]) (rest := []) hF (c_X3_isOne l D cI M MB MR ME MZ MT n b mr me mq mt ((0 : Nat) : Int) rc wo wy po (-1) (-1) (-1) mu z1 (by omega) hz1) (cwV 1 hts gX3_gap_X3_isOne rfl rfl rfl (by decide +kernel) ⟨Nat.le_of_ble_eq_true rfl, Nat.le_of_ble_eq_true rfl⟩) hK hP [0, 1, 2, 3, 4, 5] rfl 0 rfl 0 rfl rfl rfl rfl hl.1 rfl (Nat.le_of_ble_eq_true rfl) dX3_gap_7 ⟨Nat.zero_le _, Nat.zero_le _⟩ ?_
  refine zr_ifB_eq (tgt := 21) hx hb dX3_gap_10 (by decide)  (fun c1 => ?_) (fun c1 => ?_)
  · refine lv_aload_n hx hb dX3_gap_21 rfl (lv_at hl 0 rfl) ?_
    refine zr_ic (n := ((1 : Nat) : Int)) hx hb dX3_gap_22 ?_
    refine zc_wi (As := [.int (iI ((1 : Nat) : Int))]) (rest := []) hF (c_X3_fail l D cI M MB MR ME MZ MT n b mr me mq mt ((0 : Nat) : Int) rc wo wy po (-1) (-1) (-1) mu ((1 : Nat) : Int) ) (cwV 1 hts gX3_gap_X3_fail rfl rfl rfl (by decide +kernel) ⟨Nat.le_of_ble_eq_true rfl, Nat.le_of_ble_eq_true rfl⟩) hK hP hD hS [0, 1, 2, 3, 4, 5] rfl rfl (fun _ => rfl) 0 rfl 0 rfl rfl rfl rfl hl.1 rfl (Nat.le_of_ble_eq_true rfl) dX3_gap_23 ⟨Nat.zero_le _, Nat.zero_le _⟩ (fun r3 u2 H locs hw hP hD hS => ?_)
    subst hw
    have hP : va_P D vwCl [(M, .inr (3, [.int (iI (((1 : Nat) : Int))), .int (iI ((n : Nat) : Int)), .int (iI (rc)), .ref MB, .ref MR, .ref ME, .ref MZ, .int (iI (wo)), .int (iI (wy)), .int (iI (po)), .ref MT, .int (iI (-1)), .int (iI (-1)), .int (iI (-1)), .int (iI (mu))])), (MB, zArr cI 36 b), (MR, zArr cI 6 mr), (ME, zArr cI 6 me), (MZ, zArr cI 6 mq), (MT, zArr cI 6 mt)] H := hP
    have hD : va_D A [(M, .inr (3, [.int (iI (((1 : Nat) : Int))), .int (iI ((n : Nat) : Int)), .int (iI (rc)), .ref MB, .ref MR, .ref ME, .ref MZ, .int (iI (wo)), .int (iI (wy)), .int (iI (po)), .ref MT, .int (iI (-1)), .int (iI (-1)), .int (iI (-1)), .int (iI (mu))])), (MB, zArr cI 36 b), (MR, zArr cI 6 mr), (ME, zArr cI 6 me), (MZ, zArr cI 6 mq), (MT, zArr cI 6 mt)] := hD
    exact zWi_ret hx hb hr hlocks hS dX3_gap_26 () rfl hP
  · refine lv_aload_n hx hb dX3_gap_13 rfl (lv_at hl 0 rfl) ?_
    refine lv_iload_n hx hb dX3_gap_14 rfl (lv_at hl 2 rfl) ?_
    refine zc_ri (As := [.int (iI (z2))]) (rest := []) hF (c_X3_isOne l D cI M MB MR ME MZ MT n b mr me mq mt ((0 : Nat) : Int) rc wo wy po (-1) (-1) (-1) mu z2 (by omega) hz2) (cwV 1 hts gX3_gap_X3_isOne rfl rfl rfl (by decide +kernel) ⟨Nat.le_of_ble_eq_true rfl, Nat.le_of_ble_eq_true rfl⟩) hK hP [0, 1, 2, 3, 4, 5] rfl 0 rfl 0 rfl rfl rfl rfl hl.1 rfl (Nat.le_of_ble_eq_true rfl) dX3_gap_15 ⟨Nat.zero_le _, Nat.zero_le _⟩ ?_
    refine zr_ifB_ne (tgt := 27) hx hb dX3_gap_18 (by decide)  (fun c4 => ?_) (fun c4 => ?_)
    · exact absurd ⟨c1, c4⟩ hbad
    · refine lv_aload_n hx hb dX3_gap_21 rfl (lv_at hl 0 rfl) ?_
      refine zr_ic (n := ((1 : Nat) : Int)) hx hb dX3_gap_22 ?_
      refine zc_wi (As := [.int (iI ((1 : Nat) : Int))]) (rest := []) hF (c_X3_fail l D cI M MB MR ME MZ MT n b mr me mq mt ((0 : Nat) : Int) rc wo wy po (-1) (-1) (-1) mu ((1 : Nat) : Int) ) (cwV 1 hts gX3_gap_X3_fail rfl rfl rfl (by decide +kernel) ⟨Nat.le_of_ble_eq_true rfl, Nat.le_of_ble_eq_true rfl⟩) hK hP hD hS [0, 1, 2, 3, 4, 5] rfl rfl (fun _ => rfl) 0 rfl 0 rfl rfl rfl rfl hl.1 rfl (Nat.le_of_ble_eq_true rfl) dX3_gap_23 ⟨Nat.zero_le _, Nat.zero_le _⟩ (fun r6 u5 H locs hw hP hD hS => ?_)
      subst hw
      have hP : va_P D vwCl [(M, .inr (3, [.int (iI (((1 : Nat) : Int))), .int (iI ((n : Nat) : Int)), .int (iI (rc)), .ref MB, .ref MR, .ref ME, .ref MZ, .int (iI (wo)), .int (iI (wy)), .int (iI (po)), .ref MT, .int (iI (-1)), .int (iI (-1)), .int (iI (-1)), .int (iI (mu))])), (MB, zArr cI 36 b), (MR, zArr cI 6 mr), (ME, zArr cI 6 me), (MZ, zArr cI 6 mq), (MT, zArr cI 6 mt)] H := hP
      have hD : va_D A [(M, .inr (3, [.int (iI (((1 : Nat) : Int))), .int (iI ((n : Nat) : Int)), .int (iI (rc)), .ref MB, .ref MR, .ref ME, .ref MZ, .int (iI (wo)), .int (iI (wy)), .int (iI (po)), .ref MT, .int (iI (-1)), .int (iI (-1)), .int (iI (-1)), .int (iI (mu))])), (MB, zArr cI 36 b), (MR, zArr cI 6 mr), (ME, zArr cI 6 me), (MZ, zArr cI 6 mq), (MT, zArr cI 6 mt)] := hD
      exact zWi_ret hx hb hr hlocks hS dX3_gap_26 () rfl hP
/-- by how much the own room is better -/
def zGap (n : Nat) (b : Nat → Int) (rc : Int) (E : Nat → Int) (x y : Nat) : Int := zFa n b rc E x 2 - (b (x * 6 + zRo n b y) - zFa n b rc E y 3)
set_option maxHeartbeats 4000000 in
set_option maxRecDepth 100000 in
/-- X3_gap -/
theorem c_X3_gap_ok (l : Launch) (D : va_G) (cI : ClassId) (M MB MR ME MZ MT n : Nat) (b mr me mq mt : Nat → Int) (th rc wo wy po mu : Int) (x y : Nat) (E : Nat → Int) (hn : n ≤ 6) (hb0 : ∀ k, 0 ≤ b k ∧ b k ≤ 999) (hrc : 0 ≤ rc ∧ rc ≤ 5999) (hmu : 0 ≤ mu ∧ mu ≤ 1) (hx0 : x < n) (hy0 : y < n) (hE : zIsB n (zWt b (zRo n b)) E) : zWi (S := Int × Int × Int × (Nat → Int) × (Nat → Int) × (Nat → Int) × (Nat → Int)) l yX3_gap wsX3_gap 10 234 D cI [.ref M, .int (iI ((x : Nat) : Int)), .int (iI ((y : Nat) : Int))] [(M, .inr (3, [.int (iI (th)), .int (iI ((n : Nat) : Int)), .int (iI (rc)), .ref MB, .ref MR, .ref ME, .ref MZ, .int (iI (wo)), .int (iI (wy)), .int (iI (po)), .ref MT, .int (iI (-1)), .int (iI (-1)), .int (iI (-1)), .int (iI (mu))])), (MB, zArr cI 36 b), (MR, zArr cI 6 mr), (ME, zArr cI 6 me), (MZ, zArr cI 6 mq), (MT, zArr cI 6 mt)] (fun r u8 => r = iI (zGap n b rc E x y) ∧ zMset n b rc u8.1 u8.2.1 u8.2.2.1 u8.2.2.2.1 u8.2.2.2.2.1 u8.2.2.2.2.2.1) (fun u8 => [(M, .inr (3, [.int (iI (((0 : Nat) : Int))), .int (iI ((n : Nat) : Int)), .int (iI (rc)), .ref MB, .ref MR, .ref ME, .ref MZ, .int (iI (u8.1)), .int (iI (u8.2.1)), .int (iI (u8.2.2.1)), .ref MT, .int (iI (-1)), .int (iI (-1)), .int (iI (-1)), .int (iI (mu))])), (MB, zArr cI 36 b), (MR, zArr cI 6 u8.2.2.2.1), (ME, zArr cI 6 u8.2.2.2.2.1), (MZ, zArr cI 6 u8.2.2.2.2.2.1), (MT, zArr cI 6 u8.2.2.2.2.2.2)]) := by
  refine zWi_of (cc := cX3_gap) (maxL := 3) (rt := .int) (by decide) rfl (Nat.le_of_ble_eq_true rfl) ?_
  intro p e s m args below meth c ls A hF hr hlocks hP hK hD hS hl
  have hF : zFix p m c cX3_gap 3 s args wsX3_gap RX3 := hF
  obtain ⟨hx, hb, hml, hown, hts⟩ := id hF
  have hP : va_P D vwCl [(M, .inr (3, [.int (iI (th)), .int (iI ((n : Nat) : Int)), .int (iI (rc)), .ref MB, .ref MR, .ref ME, .ref MZ, .int (iI (wo)), .int (iI (wy)), .int (iI (po)), .ref MT, .int (iI (-1)), .int (iI (-1)), .int (iI (-1)), .int (iI (mu))])), (MB, zArr cI 36 b), (MR, zArr cI 6 mr), (ME, zArr cI 6 me), (MZ, zArr cI 6 mq), (MT, zArr cI 6 mt)] s.heap := hP
  have hD : va_D A [(M, .inr (3, [.int (iI (th)), .int (iI ((n : Nat) : Int)), .int (iI (rc)), .ref MB, .ref MR, .ref ME, .ref MZ, .int (iI (wo)), .int (iI (wy)), .int (iI (po)), .ref MT, .int (iI (-1)), .int (iI (-1)), .int (iI (-1)), .int (iI (mu))])), (MB, zArr cI 36 b), (MR, zArr cI 6 mr), (ME, zArr cI 6 me), (MZ, zArr cI 6 mq), (MT, zArr cI 6 mt)] := hD
  skip
  have hl : lv_has ls 3 [(0, .ref M), (1, .int (iI ((x : Nat) : Int))), (2, .int (iI ((y : Nat) : Int)))] := hl
  refine lv_aload_n hx hb dX3_gap_0 rfl (lv_at hl 0 rfl) ?_
  refine zr_ic (n := ((0 : Nat) : Int)) hx hb dX3_gap_1 ?_
  refine va_put (D := D) (ci := 3) (v := .int (iI ((0 : Nat) : Int))) (ty := .int) (C := RX3) (T := TX3) (N := 15) hx hb hts (by decide +kernel) tyX3 tyX3_ok nmX3 hown hK hP hD hS 0 rfl rfl 0 (by decide) (hts (.fieldLink RX3 35 "RentHarmonyModel" "thrown" "I") (by decide +kernel)) (fun _ h9 => h9) rfl (by decide +kernel) rfl rfl (Nat.le_of_ble_eq_true rfl) dX3_gap_2 (fun H locs hP hD hS => ?_)
  have hP : va_P D vwCl [(M, .inr (3, [.int (iI ((0 : Nat) : Int)), .int (iI ((n : Nat) : Int)), .int (iI (rc)), .ref MB, .ref MR, .ref ME, .ref MZ, .int (iI (wo)), .int (iI (wy)), .int (iI (po)), .ref MT, .int (iI (-1)), .int (iI (-1)), .int (iI (-1)), .int (iI (mu))])), (MB, zArr cI 36 b), (MR, zArr cI 6 mr), (ME, zArr cI 6 me), (MZ, zArr cI 6 mq), (MT, zArr cI 6 mt)] H := hP
  have hD : va_D A [(M, .inr (3, [.int (iI ((0 : Nat) : Int)), .int (iI ((n : Nat) : Int)), .int (iI (rc)), .ref MB, .ref MR, .ref ME, .ref MZ, .int (iI (wo)), .int (iI (wy)), .int (iI (po)), .ref MT, .int (iI (-1)), .int (iI (-1)), .int (iI (-1)), .int (iI (mu))])), (MB, zArr cI 36 b), (MR, zArr cI 6 mr), (ME, zArr cI 6 me), (MZ, zArr cI 6 mq), (MT, zArr cI 6 mt)] := hD
  refine lv_aload_n hx hb dX3_gap_5 rfl (lv_at hl 0 rfl) ?_
  refine lv_iload_n hx hb dX3_gap_6 rfl (lv_at hl 1 rfl) ?_
  refine zc_ri (As := [.int (iI ((x : Nat) : Int))]) (rest := []) hF (c_X3_isOne l D cI M MB MR ME MZ MT n b mr me mq mt ((0 : Nat) : Int) rc wo wy po (-1) (-1) (-1) mu ((x : Nat) : Int) (by omega) (zB_of (by omega) (by omega))) (cwV 1 hts gX3_gap_X3_isOne rfl rfl rfl (by decide +kernel) ⟨Nat.le_of_ble_eq_true rfl, Nat.le_of_ble_eq_true rfl⟩) hK hP [0, 1, 2, 3, 4, 5] rfl 0 rfl 0 rfl rfl rfl rfl hl.1 rfl (Nat.le_of_ble_eq_true rfl) dX3_gap_7 ⟨Nat.zero_le _, Nat.zero_le _⟩ ?_
  refine zr_ifB_eq (tgt := 21) hx hb dX3_gap_10 (by decide)  (fun c1 => ?_) (fun c1 => ?_)
  · exact absurd (by omega) c1
  · refine lv_aload_n hx hb dX3_gap_13 rfl (lv_at hl 0 rfl) ?_
    refine lv_iload_n hx hb dX3_gap_14 rfl (lv_at hl 2 rfl) ?_
    refine zc_ri (As := [.int (iI ((y : Nat) : Int))]) (rest := []) hF (c_X3_isOne l D cI M MB MR ME MZ MT n b mr me mq mt ((0 : Nat) : Int) rc wo wy po (-1) (-1) (-1) mu ((y : Nat) : Int) (by omega) (zB_of (by omega) (by omega))) (cwV 1 hts gX3_gap_X3_isOne rfl rfl rfl (by decide +kernel) ⟨Nat.le_of_ble_eq_true rfl, Nat.le_of_ble_eq_true rfl⟩) hK hP [0, 1, 2, 3, 4, 5] rfl 0 rfl 0 rfl rfl rfl rfl hl.1 rfl (Nat.le_of_ble_eq_true rfl) dX3_gap_15 ⟨Nat.zero_le _, Nat.zero_le _⟩ ?_
    refine zr_ifB_ne (tgt := 27) hx hb dX3_gap_18 (by decide)  (fun c2 => ?_) (fun c2 => ?_)
    · refine lv_aload_n hx hb dX3_gap_27 rfl (lv_at hl 0 rfl) ?_
      refine zc_wv (As := []) (rest := []) hF (c_X3_settle l D cI M MB MR ME MZ MT n b mr me mq mt ((0 : Nat) : Int) rc wo wy po mu (by omega) (by assumption) (by assumption) (by omega)) (cwV 0 hts gX3_gap_X3_settle rfl rfl rfl (by decide +kernel) ⟨Nat.le_of_ble_eq_true rfl, Nat.le_of_ble_eq_true rfl⟩) hK hP hD hS [0, 1, 2, 3, 4, 5] rfl rfl (fun _ => rfl) 0 rfl 0 rfl rfl rfl rfl hl.1 rfl (Nat.le_of_ble_eq_true rfl) dX3_gap_28 ⟨Nat.zero_le _, Nat.zero_le _⟩ (fun u3 H locs hw hP hD hS => ?_)
      obtain ⟨wo5, wy5, po5, ro5, me5, mq5, mt5⟩ := u3
      have hst5 : zMset n b rc wo5 wy5 po5 ro5 me5 mq5 := hw
      have hP : va_P D vwCl [(M, .inr (3, [.int (iI ((0 : Nat) : Int)), .int (iI ((n : Nat) : Int)), .int (iI (rc)), .ref MB, .ref MR, .ref ME, .ref MZ, .int (iI (wo5)), .int (iI (wy5)), .int (iI (po5)), .ref MT, .int (iI (-1)), .int (iI (-1)), .int (iI (-1)), .int (iI (mu))])), (MB, zArr cI 36 b), (MR, zArr cI 6 ro5), (ME, zArr cI 6 me5), (MZ, zArr cI 6 mq5), (MT, zArr cI 6 mt5)] H := hP
      have hD : va_D A [(M, .inr (3, [.int (iI ((0 : Nat) : Int)), .int (iI ((n : Nat) : Int)), .int (iI (rc)), .ref MB, .ref MR, .ref ME, .ref MZ, .int (iI (wo5)), .int (iI (wy5)), .int (iI (po5)), .ref MT, .int (iI (-1)), .int (iI (-1)), .int (iI (-1)), .int (iI (mu))])), (MB, zArr cI 36 b), (MR, zArr cI 6 ro5), (ME, zArr cI 6 me5), (MZ, zArr cI 6 mq5), (MT, zArr cI 6 mt5)] := hD
      have hro : ∀ j, j < n → ro5 j = ((zRo n b j : Nat) : Int) := hst5.2.2.1
      have hgn := zRo_lt (b := b) hn
      have hmq : ∀ j, j < n → mq5 j = me5 j + (zShare n (zLeft (zWo n b) rc me5 n)) := hst5.2.2.2.2.1
      refine lv_aload_n hx hb dX3_gap_31 rfl (lv_at hl 0 rfl) ?_
      refine va_get (D := D) (ci := 3) (v := .ref MZ) (C := RX3) (T := TX3) (N := 15) hx hb hts (by decide +kernel) hown hK hP 0 rfl rfl 6 (by decide) (hts (.fieldLink RX3 19 "RentHarmonyModel" "rebates" "[I") (by decide +kernel)) (fun _ h9 => h9) rfl dX3_gap_32 ?_
      refine lv_iload_n hx hb dX3_gap_35 rfl (lv_at hl 1 rfl) ?_
      refine zr_iald hx hb hK hP 4 0 rfl rfl (x) (by omega) (by omega) (by omega) dX3_gap_36 ?_
      refine lv_aload_n hx hb dX3_gap_37 rfl (lv_at hl 0 rfl) ?_
      refine lv_iload_n hx hb dX3_gap_38 rfl (lv_at hl 1 rfl) ?_
      refine lv_aload_n hx hb dX3_gap_39 rfl (lv_at hl 0 rfl) ?_
      refine va_get (D := D) (ci := 3) (v := .ref MR) (C := RX3) (T := TX3) (N := 15) hx hb hts (by decide +kernel) hown hK hP 0 rfl rfl 4 (by decide) (hts (.fieldLink RX3 13 "RentHarmonyModel" "rooms" "[I") (by decide +kernel)) (fun _ h9 => h9) rfl dX3_gap_40 ?_
      refine lv_iload_n hx hb dX3_gap_43 rfl (lv_at hl 2 rfl) ?_
      refine zr_iald hx hb hK hP 2 0 rfl rfl (y) (by omega) (by omega) (by omega) dX3_gap_44 ?_
      refine zr_topi (show (ro5 (y)) = ((zRo n b y : Nat) : Int) from (hro y (by omega))) ?_
      have hgy := hgn y (by omega)
      refine zc_ri (As := [.int (iI ((x : Nat) : Int)), .int (iI ((zRo n b y : Nat) : Int))]) (rest := [.int (iI (mq5 (x)))]) hF (c_X3_bi l D cI M MB MR ME MZ MT n b ro5 me5 mq5 mt5 ((0 : Nat) : Int) rc wo5 wy5 po5 (-1) (-1) (-1) mu x (zRo n b y) (by omega) (by omega)) (cwV 2 hts gX3_gap_X3_bi rfl rfl rfl (by decide +kernel) ⟨Nat.le_of_ble_eq_true rfl, Nat.le_of_ble_eq_true rfl⟩) hK hP [0, 1, 2, 3, 4, 5] rfl 0 rfl 0 rfl rfl rfl rfl hl.1 rfl (Nat.le_of_ble_eq_true rfl) dX3_gap_45 ⟨Nat.zero_le _, Nat.zero_le _⟩ ?_
      refine lv_aload_n hx hb dX3_gap_48 rfl (lv_at hl 0 rfl) ?_
      refine lv_iload_n hx hb dX3_gap_49 rfl (lv_at hl 2 rfl) ?_
      refine zc_ri (As := [.int (iI ((y : Nat) : Int))]) (rest := [.int (iI (b (x * 6 + (zRo n b y)))), .int (iI (mq5 (x)))]) hF (c_X3_pays l D cI M MB MR ME MZ MT n b ro5 me5 mq5 mt5 ((0 : Nat) : Int) rc wo5 wy5 po5 (-1) (-1) (-1) mu (zRo n b) (zShare n (zLeft (zWo n b) rc me5 n)) y (by omega) (by assumption) (by assumption) (by assumption) (by assumption) (by omega)) (cwV 1 hts gX3_gap_X3_pays rfl rfl rfl (by decide +kernel) ⟨Nat.le_of_ble_eq_true rfl, Nat.le_of_ble_eq_true rfl⟩) hK hP [0, 1, 2, 3, 4, 5] rfl 0 rfl 0 rfl rfl rfl rfl hl.1 rfl (Nat.le_of_ble_eq_true rfl) dX3_gap_50 ⟨Nat.zero_le _, Nat.zero_le _⟩ ?_
      refine zr_sub hx hb dX3_gap_53 ?_
      refine zr_sub hx hb dX3_gap_54 ?_
      exact zWi_ret hx hb hr hlocks hS dX3_gap_55 (wo5, wy5, po5, ro5, me5, mq5, mt5) ⟨congrArg iI (by rw [hmq x hx0]; unfold zGap; have q1 := zFact_un (rc := rc) hE hst5.2.2.2.1 hx0 2; have q2 := zFact_un (rc := rc) hE hst5.2.2.2.1 hy0 3; exact congr (congrArg HSub.hSub q1) (congrArg _ q2)), hst5⟩ hP
    · exact absurd (by omega) c2
set_option maxHeartbeats 4000000 in
set_option maxRecDepth 100000 in
/-- X3_chain -/
theorem c_X3_chain_ok (l : Launch) (D : va_G) (cI : ClassId) (M MB MR ME MZ MT n : Nat) (b mr me mq mt : Nat → Int) (th rc wo wy po mu : Int) (L : Nat → Int) (hn : n ≤ 6) (hb0 : ∀ k, 0 ≤ b k ∧ b k ≤ 999) (hrc : 0 ≤ rc ∧ rc ≤ 5999) (hmu : 0 ≤ mu ∧ mu ≤ 1) (hL : zIsL n b (zRo n b) L) : zWi (S := Int × Int × (Nat → Int) × (Nat → Int)) l yX3_chain wsX3_chain 9 211 D cI [.ref M] [(M, .inr (3, [.int (iI (th)), .int (iI ((n : Nat) : Int)), .int (iI (rc)), .ref MB, .ref MR, .ref ME, .ref MZ, .int (iI (wo)), .int (iI (wy)), .int (iI (po)), .ref MT, .int (iI (-1)), .int (iI (-1)), .int (iI (-1)), .int (iI (mu))])), (MB, zArr cI 36 b), (MR, zArr cI 6 mr), (ME, zArr cI 6 me), (MZ, zArr cI 6 mq), (MT, zArr cI 6 mt)] (fun r _ => r = iI (zMx L n)) (fun u8 => [(M, .inr (3, [.int (iI (((0 : Nat) : Int))), .int (iI ((n : Nat) : Int)), .int (iI (rc)), .ref MB, .ref MR, .ref ME, .ref MZ, .int (iI (u8.1)), .int (iI (u8.2.1)), .int (iI (po)), .ref MT, .int (iI (-1)), .int (iI (-1)), .int (iI (-1)), .int (iI (mu))])), (MB, zArr cI 36 b), (MR, zArr cI 6 u8.2.2.1), (ME, zArr cI 6 me), (MZ, zArr cI 6 mq), (MT, zArr cI 6 u8.2.2.2)]) := by
  refine zWi_of (cc := cX3_chain) (maxL := 3) (rt := .int) (by decide) rfl (Nat.le_of_ble_eq_true rfl) ?_
  intro p e s m args below meth c ls A hF hr hlocks hP hK hD hS hl
  have hF : zFix p m c cX3_chain 3 s args wsX3_chain RX3 := hF
  obtain ⟨hx, hb, hml, hown, hts⟩ := id hF
  have hP : va_P D vwCl [(M, .inr (3, [.int (iI (th)), .int (iI ((n : Nat) : Int)), .int (iI (rc)), .ref MB, .ref MR, .ref ME, .ref MZ, .int (iI (wo)), .int (iI (wy)), .int (iI (po)), .ref MT, .int (iI (-1)), .int (iI (-1)), .int (iI (-1)), .int (iI (mu))])), (MB, zArr cI 36 b), (MR, zArr cI 6 mr), (ME, zArr cI 6 me), (MZ, zArr cI 6 mq), (MT, zArr cI 6 mt)] s.heap := hP
  have hD : va_D A [(M, .inr (3, [.int (iI (th)), .int (iI ((n : Nat) : Int)), .int (iI (rc)), .ref MB, .ref MR, .ref ME, .ref MZ, .int (iI (wo)), .int (iI (wy)), .int (iI (po)), .ref MT, .int (iI (-1)), .int (iI (-1)), .int (iI (-1)), .int (iI (mu))])), (MB, zArr cI 36 b), (MR, zArr cI 6 mr), (ME, zArr cI 6 me), (MZ, zArr cI 6 mq), (MT, zArr cI 6 mt)] := hD
  skip
  have hl : lv_has ls 3 [(0, .ref M)] := hl
  refine lv_aload_n hx hb dX3_chain_0 rfl (lv_at hl 0 rfl) ?_
  refine zr_ic (n := ((0 : Nat) : Int)) hx hb dX3_chain_1 ?_
  refine va_put (D := D) (ci := 3) (v := .int (iI ((0 : Nat) : Int))) (ty := .int) (C := RX3) (T := TX3) (N := 15) hx hb hts (by decide +kernel) tyX3 tyX3_ok nmX3 hown hK hP hD hS 0 rfl rfl 0 (by decide) (hts (.fieldLink RX3 35 "RentHarmonyModel" "thrown" "I") (by decide +kernel)) (fun _ h9 => h9) rfl (by decide +kernel) rfl rfl (Nat.le_of_ble_eq_true rfl) dX3_chain_2 (fun H locs hP hD hS => ?_)
  have hP : va_P D vwCl [(M, .inr (3, [.int (iI ((0 : Nat) : Int)), .int (iI ((n : Nat) : Int)), .int (iI (rc)), .ref MB, .ref MR, .ref ME, .ref MZ, .int (iI (wo)), .int (iI (wy)), .int (iI (po)), .ref MT, .int (iI (-1)), .int (iI (-1)), .int (iI (-1)), .int (iI (mu))])), (MB, zArr cI 36 b), (MR, zArr cI 6 mr), (ME, zArr cI 6 me), (MZ, zArr cI 6 mq), (MT, zArr cI 6 mt)] H := hP
  have hD : va_D A [(M, .inr (3, [.int (iI ((0 : Nat) : Int)), .int (iI ((n : Nat) : Int)), .int (iI (rc)), .ref MB, .ref MR, .ref ME, .ref MZ, .int (iI (wo)), .int (iI (wy)), .int (iI (po)), .ref MT, .int (iI (-1)), .int (iI (-1)), .int (iI (-1)), .int (iI (mu))])), (MB, zArr cI 36 b), (MR, zArr cI 6 mr), (ME, zArr cI 6 me), (MZ, zArr cI 6 mq), (MT, zArr cI 6 mt)] := hD
  refine lv_aload_n hx hb dX3_chain_5 rfl (lv_at hl 0 rfl) ?_
  refine zc_wi (As := []) (rest := []) hF (c_X3_give l D cI M MB MR ME MZ MT n b mr me mq mt ((0 : Nat) : Int) rc wo wy po (-1) (-1) (-1) mu (by omega) (by assumption) (zB_of (by omega) (by omega)) (zB_of (by omega) (by omega)) (zB_of (by omega) (by omega)) (by omega)) (cwV 0 hts gX3_chain_X3_give rfl rfl rfl (by decide +kernel) ⟨Nat.le_of_ble_eq_true rfl, Nat.le_of_ble_eq_true rfl⟩) hK hP hD hS [0, 1, 2, 3, 4, 5] rfl rfl (fun _ => rfl) 0 rfl 0 rfl rfl rfl rfl hl.1 rfl (Nat.le_of_ble_eq_true rfl) dX3_chain_6 ⟨Nat.zero_le _, Nat.zero_le _⟩ (fun r2 u1 H locs hw hP hD hS => ?_)
  obtain ⟨wo3, wy3, ro3, mt3⟩ := u1
  obtain ⟨hrv3, hgv3⟩ := hw
  subst hrv3
  have hgv3 : zGave n (zX n b (-1) (-1) (-1) mu) wo3 wy3 ro3 := hgv3
  have hP : va_P D vwCl [(M, .inr (3, [.int (iI ((0 : Nat) : Int)), .int (iI ((n : Nat) : Int)), .int (iI (rc)), .ref MB, .ref MR, .ref ME, .ref MZ, .int (iI (wo3)), .int (iI (wy3)), .int (iI (po)), .ref MT, .int (iI (-1)), .int (iI (-1)), .int (iI (-1)), .int (iI (mu))])), (MB, zArr cI 36 b), (MR, zArr cI 6 ro3), (ME, zArr cI 6 me), (MZ, zArr cI 6 mq), (MT, zArr cI 6 mt3)] H := hP
  have hD : va_D A [(M, .inr (3, [.int (iI ((0 : Nat) : Int)), .int (iI ((n : Nat) : Int)), .int (iI (rc)), .ref MB, .ref MR, .ref ME, .ref MZ, .int (iI (wo3)), .int (iI (wy3)), .int (iI (po)), .ref MT, .int (iI (-1)), .int (iI (-1)), .int (iI (-1)), .int (iI (mu))])), (MB, zArr cI 36 b), (MR, zArr cI 6 ro3), (ME, zArr cI 6 me), (MZ, zArr cI 6 mq), (MT, zArr cI 6 mt3)] := hD
  rw [zX_none] at hgv3
  obtain ⟨hw1, hw2, hro⟩ := zGave_ro hn hgv3
  have hgn := zRo_lt (b := b) hn
  refine lv_pop hx hb dX3_chain_9 rfl ?_
  refine zr_ic (n := ((0 : Nat) : Int)) hx hb dX3_chain_10 ?_
  refine lv_istore_n (lv' := [(1, .int (iI ((0 : Nat) : Int))), (0, .ref M)]) hx hb dX3_chain_11 rfl hl (by decide) rfl (fun ls hl => ?_)
  refine zr_ic (n := ((0 : Nat) : Int)) hx hb dX3_chain_12 ?_
  refine lv_istore_n (lv' := [(2, .int (iI ((0 : Nat) : Int))), (1, .int (iI ((0 : Nat) : Int))), (0, .ref M)]) hx hb dX3_chain_13 rfl hl (by decide) rfl (fun ls hl => ?_)
  have LX : ∀ (k0 : Nat) (i : Nat), n - i < k0 → (hi : i ≤ n) → ∀ (H : Heap) (locs : List Loc), va_P D vwCl [(M, .inr (3, [.int (iI ((0 : Nat) : Int)), .int (iI ((n : Nat) : Int)), .int (iI (rc)), .ref MB, .ref MR, .ref ME, .ref MZ, .int (iI (wo3)), .int (iI (wy3)), .int (iI (po)), .ref MT, .int (iI (-1)), .int (iI (-1)), .int (iI (-1)), .int (iI (mu))])), (MB, zArr cI 36 b), (MR, zArr cI 6 ro3), (ME, zArr cI 6 me), (MZ, zArr cI 6 mq), (MT, zArr cI 6 mt3)] H → va_D A [(M, .inr (3, [.int (iI ((0 : Nat) : Int)), .int (iI ((n : Nat) : Int)), .int (iI (rc)), .ref MB, .ref MR, .ref ME, .ref MZ, .int (iI (wo3)), .int (iI (wy3)), .int (iI (po)), .ref MT, .int (iI (-1)), .int (iI (-1)), .int (iI (-1)), .int (iI (mu))])), (MB, zArr cI 36 b), (MR, zArr cI 6 ro3), (ME, zArr cI 6 me), (MZ, zArr cI 6 mq), (MT, zArr cI 6 mt3)] → va_S A s.heap H locs → ∀ (ls : Array Slot), lv_has ls 3 [(0, .ref M), (1, .int (iI (zMx L i))), (2, .int (iI ((i : Nat) : Int)))] → W p l e (zRm 9 211) s m args below meth c H locs 0 0 (MQ below (va_Qi (S := Int × Int × (Nat → Int) × (Nat → Int)) (fun r _ => r = iI (zMx L n)) (fun u9 t9 => va_P D vwCl ((fun u8 => [(M, .inr (3, [.int (iI (((0 : Nat) : Int))), .int (iI ((n : Nat) : Int)), .int (iI (rc)), .ref MB, .ref MR, .ref ME, .ref MZ, .int (iI (u8.1)), .int (iI (u8.2.1)), .int (iI (po)), .ref MT, .int (iI (-1)), .int (iI (-1)), .int (iI (-1)), .int (iI (mu))])), (MB, zArr cI 36 b), (MR, zArr cI 6 u8.2.2.1), (ME, zArr cI 6 me), (MZ, zArr cI 6 mq), (MT, zArr cI 6 u8.2.2.2)]) u9) t9.heap) A) args s 0 0 A) (F0 m 14 ls []) := by
    intro k0
    induction k0 with
    | zero => intro i hk; exact absurd hk (Nat.not_lt_zero _)
    | succ k0 ih_LX =>
      intro i hk hi H locs hP hD hS ls hl
      refine lv_iload_n hx hb dX3_chain_14 rfl (lv_at hl 2 rfl) ?_
      refine lv_aload_n hx hb dX3_chain_15 rfl (lv_at hl 0 rfl) ?_
      refine va_get (D := D) (ci := 3) (v := .int (iI ((n : Nat) : Int))) (C := RX3) (T := TX3) (N := 15) hx hb hts (by decide +kernel) hown hK hP 0 rfl rfl 1 (by decide) (hts (.fieldLink RX3 38 "RentHarmonyModel" "lodgers" "I") (by decide +kernel)) (fun _ h9 => h9) rfl dX3_chain_16 ?_
      refine zr_icmp_ge (tgt := 38) hx hb dX3_chain_19 (by decide) (zB_of (by omega) (by omega)) (zB_of (by omega) (by omega)) (fun c4 => ?_) (fun c4 => ?_)
      · refine lv_iload_n hx hb dX3_chain_38 rfl (lv_at hl 1 rfl) ?_
        exact zWi_ret hx hb hr hlocks hS dX3_chain_39 (wo3, wy3, ro3, mt3) (by rw [show i = n by omega]) hP
      · have hm1 := zMx_b (f := L) (M := 6) (by decide) i (fun a ha => by have := (hL.1 a (by omega)).2; omega)
        have hm2 := hL.1 i (by omega)
        refine lv_iload_n hx hb dX3_chain_22 rfl (lv_at hl 1 rfl) ?_
        refine lv_aload_n hx hb dX3_chain_23 rfl (lv_at hl 0 rfl) ?_
        refine lv_iload_n hx hb dX3_chain_24 rfl (lv_at hl 2 rfl) ?_
        refine zc_ri (As := [.int (iI ((i : Nat) : Int))]) (rest := [.int (iI (zMx L i))]) hF (c_X3_chainFrom_6 l D cI M MB MR ME MZ MT n b ro3 me mq mt3 ((0 : Nat) : Int) rc wo3 wy3 po (-1) (-1) (-1) mu (zRo n b) L i (by omega) (by assumption) (by assumption) (by assumption) (by assumption) (by omega) (by omega)) (cwV 1 hts gX3_chain_X3_chainFrom rfl rfl rfl (by decide +kernel) ⟨Nat.le_of_ble_eq_true rfl, Nat.le_of_ble_eq_true rfl⟩) hK hP [0, 1, 2, 3, 4, 5] rfl 0 rfl 0 rfl rfl rfl rfl hl.1 rfl (Nat.le_of_ble_eq_true rfl) dX3_chain_25 ⟨Nat.zero_le _, Nat.zero_le _⟩ ?_
        refine zr_max (rest := []) hx hb (hml.trans hl.1.symm) hown (hts (.methodLink RX3 116 Lib.Math.max.name) (by decide +kernel)) (hts (.static Lib.Math.max.name) (by decide +kernel)) (hts (.initialized "java/lang/Math") (by decide +kernel)) (hts (.code Lib.Math.max.name Lib.Math.max.code 2 (some .int)) (by decide +kernel)) (Nat.le_of_ble_eq_true rfl) (Nat.le_of_ble_eq_true rfl) (Nat.zero_le _) (Nat.zero_le _) (zB_of (by omega) (by omega)) (zB_of (by omega) (by omega)) dX3_chain_28 ?_
        refine lv_istore_n (lv' := [(1, .int (iI (max (zMx L i) (L i)))), (0, .ref M), (2, .int (iI ((i : Nat) : Int)))]) hx hb dX3_chain_31 rfl hl (by decide) rfl (fun ls hl => ?_)
        refine zr_iinc (lv2 := [(2, .int (iI (((i : Nat) : Int) + 1))), (1, .int (iI (max (zMx L i) (L i)))), (0, .ref M)]) hx hb dX3_chain_32 hl (k0 := 2) rfl (by decide) rfl (fun ls hl => ?_)
        have hl : lv_has ls 3 [(2, .int (iI ((i + 1 : Nat) : Int))), (1, .int (iI (max (zMx L i) (L i)))), (0, .ref M)] := hl
        refine lv_goto (tgt := 14) hx hb dX3_chain_35 (by decide) ?_
        have hl : lv_has ls 3 [(2, .int (iI ((i + 1 : Nat) : Int))), (1, .int (iI (zMx L (i + 1)))), (0, .ref M)] := by rw [show (zMx L (i + 1)) = (max (zMx L i) (L i)) from rfl]; exact hl
        exact ih_LX (i + 1) (by omega) (by omega) _ _ hP hD hS _ (lv_sub hl [2, 1, 0] rfl)
  have hl : lv_has ls 3 [(2, .int (iI ((0 : Nat) : Int))), (1, .int (iI (zMx L 0))), (0, .ref M)] := by rw [show (zMx L 0) = ((0 : Nat) : Int) from rfl]; exact hl
  exact LX ((n - (0)) + 1) (0) (Nat.lt_succ_self _) (by omega) _ _ hP hD hS _ (lv_sub hl [2, 1, 0] rfl)
theorem zBack (b : Nat → Int) (x y : Nat) (v : Int) (j : Nat) : uZ (uZ b (x * 6 + y) v) (6 * x + y) (b (x * 6 + y)) j = b j := by
  have e : 6 * x + y = x * 6 + y := by omega
  rw [e]
  unfold uZ
  by_cases h : j = x * 6 + y
  · rw [if_pos h, h]
  · rw [if_neg h, if_neg h]
set_option maxHeartbeats 4000000 in
set_option maxRecDepth 100000 in
/-- X3_roomWith -/
theorem c_X3_roomWith (l : Launch) (D : va_G) (cI : ClassId) (M MB MR ME MZ MT n : Nat) (b mr me mq mt : Nat → Int) (th rc wo wy po mu : Int) (x y : Nat) (v : Int) (hn : n ≤ 6) (hb0 : ∀ k, 0 ≤ b k ∧ b k ≤ 999) (hrc : 0 ≤ rc ∧ rc ≤ 5999) (hmu : 0 ≤ mu ∧ mu ≤ 1) (hx0 : x < n) (hy0 : y < n) (hv : 0 ≤ v ∧ v ≤ 999) : zWi (S := Int × Int × (Nat → Int) × (Nat → Int)) l yX3_roomWith wsX3_roomWith 9 211 D cI [.ref M, .int (iI ((x : Nat) : Int)), .int (iI ((y : Nat) : Int)), .int (iI (v))] [(M, .inr (3, [.int (iI (th)), .int (iI ((n : Nat) : Int)), .int (iI (rc)), .ref MB, .ref MR, .ref ME, .ref MZ, .int (iI (wo)), .int (iI (wy)), .int (iI (po)), .ref MT, .int (iI (-1)), .int (iI (-1)), .int (iI (-1)), .int (iI (mu))])), (MB, zArr cI 36 b), (MR, zArr cI 6 mr), (ME, zArr cI 6 me), (MZ, zArr cI 6 mq), (MT, zArr cI 6 mt)] (fun r _ => r = iI ((zRo n (uZ b (x * 6 + y) v) x : Nat) : Int)) (fun u8 => [(M, .inr (3, [.int (iI (th)), .int (iI ((n : Nat) : Int)), .int (iI (rc)), .ref MB, .ref MR, .ref ME, .ref MZ, .int (iI (u8.1)), .int (iI (u8.2.1)), .int (iI (po)), .ref MT, .int (iI (-1)), .int (iI (-1)), .int (iI (-1)), .int (iI (mu))])), (MB, zArr cI 36 b), (MR, zArr cI 6 u8.2.2.1), (ME, zArr cI 6 me), (MZ, zArr cI 6 mq), (MT, zArr cI 6 u8.2.2.2)]) := by
  refine zWi_of (cc := cX3_roomWith) (maxL := 5) (rt := .int) (by decide) rfl (Nat.le_of_ble_eq_true rfl) ?_
  intro p e s m args below meth c ls A hF hr hlocks hP hK hD hS hl
  have hF : zFix p m c cX3_roomWith 5 s args wsX3_roomWith RX3 := hF
  obtain ⟨hx, hb, hml, hown, hts⟩ := id hF
  have hP : va_P D vwCl [(M, .inr (3, [.int (iI (th)), .int (iI ((n : Nat) : Int)), .int (iI (rc)), .ref MB, .ref MR, .ref ME, .ref MZ, .int (iI (wo)), .int (iI (wy)), .int (iI (po)), .ref MT, .int (iI (-1)), .int (iI (-1)), .int (iI (-1)), .int (iI (mu))])), (MB, zArr cI 36 b), (MR, zArr cI 6 mr), (ME, zArr cI 6 me), (MZ, zArr cI 6 mq), (MT, zArr cI 6 mt)] s.heap := hP
  have hD : va_D A [(M, .inr (3, [.int (iI (th)), .int (iI ((n : Nat) : Int)), .int (iI (rc)), .ref MB, .ref MR, .ref ME, .ref MZ, .int (iI (wo)), .int (iI (wy)), .int (iI (po)), .ref MT, .int (iI (-1)), .int (iI (-1)), .int (iI (-1)), .int (iI (mu))])), (MB, zArr cI 36 b), (MR, zArr cI 6 mr), (ME, zArr cI 6 me), (MZ, zArr cI 6 mq), (MT, zArr cI 6 mt)] := hD
  skip
  have hl : lv_has ls 5 [(0, .ref M), (1, .int (iI ((x : Nat) : Int))), (2, .int (iI ((y : Nat) : Int))), (3, .int (iI (v)))] := hl
  refine lv_aload_n hx hb dX3_roomWith_0 rfl (lv_at hl 0 rfl) ?_
  refine lv_iload_n hx hb dX3_roomWith_1 rfl (lv_at hl 1 rfl) ?_
  refine lv_iload_n hx hb dX3_roomWith_2 rfl (lv_at hl 2 rfl) ?_
  refine zc_ri (As := [.int (iI ((x : Nat) : Int)), .int (iI ((y : Nat) : Int))]) (rest := []) hF (c_X3_bi l D cI M MB MR ME MZ MT n b mr me mq mt th rc wo wy po (-1) (-1) (-1) mu x y (by omega) (by omega)) (cwV 2 hts gX3_roomWith_X3_bi rfl rfl rfl (by decide +kernel) ⟨Nat.le_of_ble_eq_true rfl, Nat.le_of_ble_eq_true rfl⟩) hK hP [0, 1, 2, 3, 4, 5] rfl 0 rfl 0 rfl rfl rfl rfl hl.1 rfl (Nat.le_of_ble_eq_true rfl) dX3_roomWith_3 ⟨Nat.zero_le _, Nat.zero_le _⟩ ?_
  refine lv_istore (lv' := [(4, .int (iI (b (x * 6 + y)))), (0, .ref M), (1, .int (iI ((x : Nat) : Int))), (2, .int (iI ((y : Nat) : Int))), (3, .int (iI (v)))]) hx hb dX3_roomWith_6 hl (by decide) rfl (fun ls hl => ?_)
  refine lv_aload_n hx hb dX3_roomWith_8 rfl (lv_at hl 1 rfl) ?_
  refine va_get (D := D) (ci := 3) (v := .ref MB) (C := RX3) (T := TX3) (N := 15) hx hb hts (by decide +kernel) hown hK hP 0 rfl rfl 3 (by decide) (hts (.fieldLink RX3 9 "RentHarmonyModel" "bids" "[I") (by decide +kernel)) (fun _ h9 => h9) rfl dX3_roomWith_9 ?_
  refine zr_bi (n := ((6 : Nat) : Int)) hx hb dX3_roomWith_12 rfl ?_
  refine lv_iload_n hx hb dX3_roomWith_14 rfl (lv_at hl 2 rfl) ?_
  refine zr_mulN (x := 6) (y := x) hx hb dX3_roomWith_15 ?_
  refine lv_iload_n hx hb dX3_roomWith_16 rfl (lv_at hl 3 rfl) ?_
  refine zr_addN (x := 6 * x) (y := y) hx hb dX3_roomWith_17 ?_
  refine lv_iload_n hx hb dX3_roomWith_18 rfl (lv_at hl 4 rfl) ?_
  refine zr_iast hx hb hK hP hD hS 1 0 rfl rfl ((6 * x) + y) (by omega) (by omega) (by omega) dX3_roomWith_19 (fun H locs hP hD hS => ?_)
  have hP : va_P D vwCl [(M, .inr (3, [.int (iI (th)), .int (iI ((n : Nat) : Int)), .int (iI (rc)), .ref MB, .ref MR, .ref ME, .ref MZ, .int (iI (wo)), .int (iI (wy)), .int (iI (po)), .ref MT, .int (iI (-1)), .int (iI (-1)), .int (iI (-1)), .int (iI (mu))])), (MB, zArr cI 36 (uZ b ((6 * x) + y) v)), (MR, zArr cI 6 mr), (ME, zArr cI 6 me), (MZ, zArr cI 6 mq), (MT, zArr cI 6 mt)] H := hP
  have hD : va_D A [(M, .inr (3, [.int (iI (th)), .int (iI ((n : Nat) : Int)), .int (iI (rc)), .ref MB, .ref MR, .ref ME, .ref MZ, .int (iI (wo)), .int (iI (wy)), .int (iI (po)), .ref MT, .int (iI (-1)), .int (iI (-1)), .int (iI (-1)), .int (iI (mu))])), (MB, zArr cI 36 (uZ b ((6 * x) + y) v)), (MR, zArr cI 6 mr), (ME, zArr cI 6 me), (MZ, zArr cI 6 mq), (MT, zArr cI 6 mt)] := hD
  have hP : va_P D vwCl [(M, .inr (3, [.int (iI (th)), .int (iI ((n : Nat) : Int)), .int (iI (rc)), .ref MB, .ref MR, .ref ME, .ref MZ, .int (iI (wo)), .int (iI (wy)), .int (iI (po)), .ref MT, .int (iI (-1)), .int (iI (-1)), .int (iI (-1)), .int (iI (mu))])), (MB, zArr cI 36 (uZ b (x * 6 + y) v)), (MR, zArr cI 6 mr), (ME, zArr cI 6 me), (MZ, zArr cI 6 mq), (MT, zArr cI 6 mt)] H := by rw [show x * 6 + y = 6 * x + y by omega]; exact hP
  have hD : va_D A [(M, .inr (3, [.int (iI (th)), .int (iI ((n : Nat) : Int)), .int (iI (rc)), .ref MB, .ref MR, .ref ME, .ref MZ, .int (iI (wo)), .int (iI (wy)), .int (iI (po)), .ref MT, .int (iI (-1)), .int (iI (-1)), .int (iI (-1)), .int (iI (mu))])), (MB, zArr cI 36 (uZ b (x * 6 + y) v)), (MR, zArr cI 6 mr), (ME, zArr cI 6 me), (MZ, zArr cI 6 mq), (MT, zArr cI 6 mt)] := by rw [show x * 6 + y = 6 * x + y by omega]; exact hD
  have hb1 : ∀ k, 0 ≤ (uZ b (x * 6 + y) v) k ∧ (uZ b (x * 6 + y) v) k ≤ 999 := uZ_b hb0 _ hv
  refine lv_aload_n hx hb dX3_roomWith_20 rfl (lv_at hl 1 rfl) ?_
  refine zc_wi (As := []) (rest := []) hF (c_X3_give l D cI M MB MR ME MZ MT n (uZ b (x * 6 + y) v) mr me mq mt th rc wo wy po (-1) (-1) (-1) mu (by omega) hb1 (zB_of (by omega) (by omega)) (zB_of (by omega) (by omega)) (zB_of (by omega) (by omega)) (by omega)) (cwV 0 hts gX3_roomWith_X3_give rfl rfl rfl (by decide +kernel) ⟨Nat.le_of_ble_eq_true rfl, Nat.le_of_ble_eq_true rfl⟩) hK hP hD hS [0, 1, 2, 3, 4, 5] rfl rfl (fun _ => rfl) 0 rfl 0 rfl rfl rfl rfl hl.1 rfl (Nat.le_of_ble_eq_true rfl) dX3_roomWith_21 ⟨Nat.zero_le _, Nat.zero_le _⟩ (fun r2 u1 H locs hw hP hD hS => ?_)
  obtain ⟨wo3, wy3, ro3, mt3⟩ := u1
  obtain ⟨hrv3, hgv3⟩ := hw
  subst hrv3
  have hgv3 : zGave n (zX n (uZ b (x * 6 + y) v) (-1) (-1) (-1) mu) wo3 wy3 ro3 := hgv3
  have hP : va_P D vwCl [(M, .inr (3, [.int (iI (th)), .int (iI ((n : Nat) : Int)), .int (iI (rc)), .ref MB, .ref MR, .ref ME, .ref MZ, .int (iI (wo3)), .int (iI (wy3)), .int (iI (po)), .ref MT, .int (iI (-1)), .int (iI (-1)), .int (iI (-1)), .int (iI (mu))])), (MB, zArr cI 36 (uZ b (x * 6 + y) v)), (MR, zArr cI 6 ro3), (ME, zArr cI 6 me), (MZ, zArr cI 6 mq), (MT, zArr cI 6 mt3)] H := hP
  have hD : va_D A [(M, .inr (3, [.int (iI (th)), .int (iI ((n : Nat) : Int)), .int (iI (rc)), .ref MB, .ref MR, .ref ME, .ref MZ, .int (iI (wo3)), .int (iI (wy3)), .int (iI (po)), .ref MT, .int (iI (-1)), .int (iI (-1)), .int (iI (-1)), .int (iI (mu))])), (MB, zArr cI 36 (uZ b (x * 6 + y) v)), (MR, zArr cI 6 ro3), (ME, zArr cI 6 me), (MZ, zArr cI 6 mq), (MT, zArr cI 6 mt3)] := hD
  rw [zX_none] at hgv3
  obtain ⟨hw1, hw2, hro⟩ := zGave_ro hn hgv3
  refine lv_pop hx hb dX3_roomWith_24 rfl ?_
  refine lv_aload_n hx hb dX3_roomWith_25 rfl (lv_at hl 1 rfl) ?_
  refine va_get (D := D) (ci := 3) (v := .ref MB) (C := RX3) (T := TX3) (N := 15) hx hb hts (by decide +kernel) hown hK hP 0 rfl rfl 3 (by decide) (hts (.fieldLink RX3 9 "RentHarmonyModel" "bids" "[I") (by decide +kernel)) (fun _ h9 => h9) rfl dX3_roomWith_26 ?_
  refine zr_bi (n := ((6 : Nat) : Int)) hx hb dX3_roomWith_29 rfl ?_
  refine lv_iload_n hx hb dX3_roomWith_31 rfl (lv_at hl 2 rfl) ?_
  refine zr_mulN (x := 6) (y := x) hx hb dX3_roomWith_32 ?_
  refine lv_iload_n hx hb dX3_roomWith_33 rfl (lv_at hl 3 rfl) ?_
  refine zr_addN (x := 6 * x) (y := y) hx hb dX3_roomWith_34 ?_
  refine lv_iload hx hb dX3_roomWith_35 (lv_at hl 0 rfl) ?_
  refine zr_iast hx hb hK hP hD hS 1 0 rfl rfl ((6 * x) + y) (by omega) (by omega) (by omega) dX3_roomWith_37 (fun H locs hP hD hS => ?_)
  have hP : va_P D vwCl [(M, .inr (3, [.int (iI (th)), .int (iI ((n : Nat) : Int)), .int (iI (rc)), .ref MB, .ref MR, .ref ME, .ref MZ, .int (iI (wo3)), .int (iI (wy3)), .int (iI (po)), .ref MT, .int (iI (-1)), .int (iI (-1)), .int (iI (-1)), .int (iI (mu))])), (MB, zArr cI 36 (uZ (uZ b (x * 6 + y) v) ((6 * x) + y) (b (x * 6 + y)))), (MR, zArr cI 6 ro3), (ME, zArr cI 6 me), (MZ, zArr cI 6 mq), (MT, zArr cI 6 mt3)] H := hP
  have hD : va_D A [(M, .inr (3, [.int (iI (th)), .int (iI ((n : Nat) : Int)), .int (iI (rc)), .ref MB, .ref MR, .ref ME, .ref MZ, .int (iI (wo3)), .int (iI (wy3)), .int (iI (po)), .ref MT, .int (iI (-1)), .int (iI (-1)), .int (iI (-1)), .int (iI (mu))])), (MB, zArr cI 36 (uZ (uZ b (x * 6 + y) v) ((6 * x) + y) (b (x * 6 + y)))), (MR, zArr cI 6 ro3), (ME, zArr cI 6 me), (MZ, zArr cI 6 mq), (MT, zArr cI 6 mt3)] := hD
  refine lv_aload_n hx hb dX3_roomWith_38 rfl (lv_at hl 1 rfl) ?_
  refine va_get (D := D) (ci := 3) (v := .ref MR) (C := RX3) (T := TX3) (N := 15) hx hb hts (by decide +kernel) hown hK hP 0 rfl rfl 4 (by decide) (hts (.fieldLink RX3 13 "RentHarmonyModel" "rooms" "[I") (by decide +kernel)) (fun _ h9 => h9) rfl dX3_roomWith_39 ?_
  refine lv_iload_n hx hb dX3_roomWith_42 rfl (lv_at hl 2 rfl) ?_
  refine zr_iald hx hb hK hP 2 0 rfl rfl (x) (by omega) (by omega) (by omega) dX3_roomWith_43 ?_
  refine zr_topi (show (ro3 (x)) = ((zRo n (uZ b (x * 6 + y) v) x : Nat) : Int) from (hro x (by omega))) ?_
  exact zWi_ret hx hb hr hlocks hS dX3_roomWith_44 (wo3, wy3, ro3, mt3) rfl (z_ext hP 1 rfl (fun j _ => zBack b x y v j))
set_option maxHeartbeats 4000000 in
set_option maxRecDepth 100000 in
/-- X3_would -/
theorem c_X3_would_bad1 (l : Launch) (D : va_G) (cI : ClassId) (M MB MR ME MZ MT n : Nat) (b mr me mq mt : Nat → Int) (th rc wo wy po mu : Int) (z1 z2 v : Int) (hn : n ≤ 6) (hz1 : zB z1) (hz2 : zB z2) (hbad : ¬ ((0 ≤ z1 ∧ z1 < (n : Int)) ∧ 0 ≤ z2 ∧ z2 < (n : Int))) : zWi (S := Unit) l yX3_would wsX3_would 2 43 D cI [.ref M, .int (iI (z1)), .int (iI (z2)), .int (iI (v))] [(M, .inr (3, [.int (iI (th)), .int (iI ((n : Nat) : Int)), .int (iI (rc)), .ref MB, .ref MR, .ref ME, .ref MZ, .int (iI (wo)), .int (iI (wy)), .int (iI (po)), .ref MT, .int (iI (-1)), .int (iI (-1)), .int (iI (-1)), .int (iI (mu))])), (MB, zArr cI 36 b), (MR, zArr cI 6 mr), (ME, zArr cI 6 me), (MZ, zArr cI 6 mq), (MT, zArr cI 6 mt)] (fun r _ => r = iI 0) (fun _ => [(M, .inr (3, [.int (iI (((1 : Nat) : Int))), .int (iI ((n : Nat) : Int)), .int (iI (rc)), .ref MB, .ref MR, .ref ME, .ref MZ, .int (iI (wo)), .int (iI (wy)), .int (iI (po)), .ref MT, .int (iI (-1)), .int (iI (-1)), .int (iI (-1)), .int (iI (mu))])), (MB, zArr cI 36 b), (MR, zArr cI 6 mr), (ME, zArr cI 6 me), (MZ, zArr cI 6 mq), (MT, zArr cI 6 mt)]) := by
  refine zWi_of (cc := cX3_would) (maxL := 4) (rt := .int) (by decide) rfl (Nat.le_of_ble_eq_true rfl) ?_
  intro p e s m args below meth c ls A hF hr hlocks hP hK hD hS hl
  have hF : zFix p m c cX3_would 4 s args wsX3_would RX3 := hF
  obtain ⟨hx, hb, hml, hown, hts⟩ := id hF
  have hP : va_P D vwCl [(M, .inr (3, [.int (iI (th)), .int (iI ((n : Nat) : Int)), .int (iI (rc)), .ref MB, .ref MR, .ref ME, .ref MZ, .int (iI (wo)), .int (iI (wy)), .int (iI (po)), .ref MT, .int (iI (-1)), .int (iI (-1)), .int (iI (-1)), .int (iI (mu))])), (MB, zArr cI 36 b), (MR, zArr cI 6 mr), (ME, zArr cI 6 me), (MZ, zArr cI 6 mq), (MT, zArr cI 6 mt)] s.heap := hP
  have hD : va_D A [(M, .inr (3, [.int (iI (th)), .int (iI ((n : Nat) : Int)), .int (iI (rc)), .ref MB, .ref MR, .ref ME, .ref MZ, .int (iI (wo)), .int (iI (wy)), .int (iI (po)), .ref MT, .int (iI (-1)), .int (iI (-1)), .int (iI (-1)), .int (iI (mu))])), (MB, zArr cI 36 b), (MR, zArr cI 6 mr), (ME, zArr cI 6 me), (MZ, zArr cI 6 mq), (MT, zArr cI 6 mt)] := hD
  skip
  have hl : lv_has ls 4 [(0, .ref M), (1, .int (iI (z1))), (2, .int (iI (z2))), (3, .int (iI (v)))] := hl
  refine lv_aload_n hx hb dX3_would_0 rfl (lv_at hl 0 rfl) ?_
  refine zr_ic (n := ((0 : Nat) : Int)) hx hb dX3_would_1 ?_
  refine va_put (D := D) (ci := 3) (v := .int (iI ((0 : Nat) : Int))) (ty := .int) (C := RX3) (T := TX3) (N := 15) hx hb hts (by decide +kernel) tyX3 tyX3_ok nmX3 hown hK hP hD hS 0 rfl rfl 0 (by decide) (hts (.fieldLink RX3 35 "RentHarmonyModel" "thrown" "I") (by decide +kernel)) (fun _ h9 => h9) rfl (by decide +kernel) rfl rfl (Nat.le_of_ble_eq_true rfl) dX3_would_2 (fun H locs hP hD hS => ?_)
  have hP : va_P D vwCl [(M, .inr (3, [.int (iI ((0 : Nat) : Int)), .int (iI ((n : Nat) : Int)), .int (iI (rc)), .ref MB, .ref MR, .ref ME, .ref MZ, .int (iI (wo)), .int (iI (wy)), .int (iI (po)), .ref MT, .int (iI (-1)), .int (iI (-1)), .int (iI (-1)), .int (iI (mu))])), (MB, zArr cI 36 b), (MR, zArr cI 6 mr), (ME, zArr cI 6 me), (MZ, zArr cI 6 mq), (MT, zArr cI 6 mt)] H := hP
  have hD : va_D A [(M, .inr (3, [.int (iI ((0 : Nat) : Int)), .int (iI ((n : Nat) : Int)), .int (iI (rc)), .ref MB, .ref MR, .ref ME, .ref MZ, .int (iI (wo)), .int (iI (wy)), .int (iI (po)), .ref MT, .int (iI (-1)), .int (iI (-1)), .int (iI (-1)), .int (iI (mu))])), (MB, zArr cI 36 b), (MR, zArr cI 6 mr), (ME, zArr cI 6 me), (MZ, zArr cI 6 mq), (MT, zArr cI 6 mt)] := hD
  refine lv_aload_n hx hb dX3_would_5 rfl (lv_at hl 0 rfl) ?_
  refine lv_iload_n hx hb dX3_would_6 rfl (lv_at hl 1 rfl) ?_
  refine zc_ri (As := [.int (iI (z1))]) (rest := []) hF (c_X3_isOne l D cI M MB MR ME MZ MT n b mr me mq mt ((0 : Nat) : Int) rc wo wy po (-1) (-1) (-1) mu z1 (by omega) hz1) (cwV 1 hts gX3_would_X3_isOne rfl rfl rfl (by decide +kernel) ⟨Nat.le_of_ble_eq_true rfl, Nat.le_of_ble_eq_true rfl⟩) hK hP [0, 1, 2, 3, 4, 5] rfl 0 rfl 0 rfl rfl rfl rfl hl.1 rfl (Nat.le_of_ble_eq_true rfl) dX3_would_7 ⟨Nat.zero_le _, Nat.zero_le _⟩ ?_
  refine zr_ifB_eq (tgt := 21) hx hb dX3_would_10 (by decide)  (fun c1 => ?_) (fun c1 => ?_)
  · refine lv_aload_n hx hb dX3_would_21 rfl (lv_at hl 0 rfl) ?_
    refine zr_ic (n := ((1 : Nat) : Int)) hx hb dX3_would_22 ?_
    refine zc_wi (As := [.int (iI ((1 : Nat) : Int))]) (rest := []) hF (c_X3_fail l D cI M MB MR ME MZ MT n b mr me mq mt ((0 : Nat) : Int) rc wo wy po (-1) (-1) (-1) mu ((1 : Nat) : Int) ) (cwV 1 hts gX3_would_X3_fail rfl rfl rfl (by decide +kernel) ⟨Nat.le_of_ble_eq_true rfl, Nat.le_of_ble_eq_true rfl⟩) hK hP hD hS [0, 1, 2, 3, 4, 5] rfl rfl (fun _ => rfl) 0 rfl 0 rfl rfl rfl rfl hl.1 rfl (Nat.le_of_ble_eq_true rfl) dX3_would_23 ⟨Nat.zero_le _, Nat.zero_le _⟩ (fun r3 u2 H locs hw hP hD hS => ?_)
    subst hw
    have hP : va_P D vwCl [(M, .inr (3, [.int (iI (((1 : Nat) : Int))), .int (iI ((n : Nat) : Int)), .int (iI (rc)), .ref MB, .ref MR, .ref ME, .ref MZ, .int (iI (wo)), .int (iI (wy)), .int (iI (po)), .ref MT, .int (iI (-1)), .int (iI (-1)), .int (iI (-1)), .int (iI (mu))])), (MB, zArr cI 36 b), (MR, zArr cI 6 mr), (ME, zArr cI 6 me), (MZ, zArr cI 6 mq), (MT, zArr cI 6 mt)] H := hP
    have hD : va_D A [(M, .inr (3, [.int (iI (((1 : Nat) : Int))), .int (iI ((n : Nat) : Int)), .int (iI (rc)), .ref MB, .ref MR, .ref ME, .ref MZ, .int (iI (wo)), .int (iI (wy)), .int (iI (po)), .ref MT, .int (iI (-1)), .int (iI (-1)), .int (iI (-1)), .int (iI (mu))])), (MB, zArr cI 36 b), (MR, zArr cI 6 mr), (ME, zArr cI 6 me), (MZ, zArr cI 6 mq), (MT, zArr cI 6 mt)] := hD
    exact zWi_ret hx hb hr hlocks hS dX3_would_26 () rfl hP
  · refine lv_aload_n hx hb dX3_would_13 rfl (lv_at hl 0 rfl) ?_
    refine lv_iload_n hx hb dX3_would_14 rfl (lv_at hl 2 rfl) ?_
    refine zc_ri (As := [.int (iI (z2))]) (rest := []) hF (c_X3_isOne l D cI M MB MR ME MZ MT n b mr me mq mt ((0 : Nat) : Int) rc wo wy po (-1) (-1) (-1) mu z2 (by omega) hz2) (cwV 1 hts gX3_would_X3_isOne rfl rfl rfl (by decide +kernel) ⟨Nat.le_of_ble_eq_true rfl, Nat.le_of_ble_eq_true rfl⟩) hK hP [0, 1, 2, 3, 4, 5] rfl 0 rfl 0 rfl rfl rfl rfl hl.1 rfl (Nat.le_of_ble_eq_true rfl) dX3_would_15 ⟨Nat.zero_le _, Nat.zero_le _⟩ ?_
    refine zr_ifB_ne (tgt := 27) hx hb dX3_would_18 (by decide)  (fun c4 => ?_) (fun c4 => ?_)
    · exact absurd ⟨c1, c4⟩ hbad
    · refine lv_aload_n hx hb dX3_would_21 rfl (lv_at hl 0 rfl) ?_
      refine zr_ic (n := ((1 : Nat) : Int)) hx hb dX3_would_22 ?_
      refine zc_wi (As := [.int (iI ((1 : Nat) : Int))]) (rest := []) hF (c_X3_fail l D cI M MB MR ME MZ MT n b mr me mq mt ((0 : Nat) : Int) rc wo wy po (-1) (-1) (-1) mu ((1 : Nat) : Int) ) (cwV 1 hts gX3_would_X3_fail rfl rfl rfl (by decide +kernel) ⟨Nat.le_of_ble_eq_true rfl, Nat.le_of_ble_eq_true rfl⟩) hK hP hD hS [0, 1, 2, 3, 4, 5] rfl rfl (fun _ => rfl) 0 rfl 0 rfl rfl rfl rfl hl.1 rfl (Nat.le_of_ble_eq_true rfl) dX3_would_23 ⟨Nat.zero_le _, Nat.zero_le _⟩ (fun r6 u5 H locs hw hP hD hS => ?_)
      subst hw
      have hP : va_P D vwCl [(M, .inr (3, [.int (iI (((1 : Nat) : Int))), .int (iI ((n : Nat) : Int)), .int (iI (rc)), .ref MB, .ref MR, .ref ME, .ref MZ, .int (iI (wo)), .int (iI (wy)), .int (iI (po)), .ref MT, .int (iI (-1)), .int (iI (-1)), .int (iI (-1)), .int (iI (mu))])), (MB, zArr cI 36 b), (MR, zArr cI 6 mr), (ME, zArr cI 6 me), (MZ, zArr cI 6 mq), (MT, zArr cI 6 mt)] H := hP
      have hD : va_D A [(M, .inr (3, [.int (iI (((1 : Nat) : Int))), .int (iI ((n : Nat) : Int)), .int (iI (rc)), .ref MB, .ref MR, .ref ME, .ref MZ, .int (iI (wo)), .int (iI (wy)), .int (iI (po)), .ref MT, .int (iI (-1)), .int (iI (-1)), .int (iI (-1)), .int (iI (mu))])), (MB, zArr cI 36 b), (MR, zArr cI 6 mr), (ME, zArr cI 6 me), (MZ, zArr cI 6 mq), (MT, zArr cI 6 mt)] := hD
      exact zWi_ret hx hb hr hlocks hS dX3_would_26 () rfl hP
set_option maxHeartbeats 4000000 in
set_option maxRecDepth 100000 in
/-- X3_would -/
theorem c_X3_would_bad2 (l : Launch) (D : va_G) (cI : ClassId) (M MB MR ME MZ MT n : Nat) (b mr me mq mt : Nat → Int) (th rc wo wy po mu : Int) (x y : Nat) (v : Int) (hn : n ≤ 6) (hx0 : x < n) (hy0 : y < n) (hv : zB v) (hbad : ¬ (0 ≤ v ∧ v ≤ 999)) : zWi (S := Unit) l yX3_would wsX3_would 2 43 D cI [.ref M, .int (iI ((x : Nat) : Int)), .int (iI ((y : Nat) : Int)), .int (iI (v))] [(M, .inr (3, [.int (iI (th)), .int (iI ((n : Nat) : Int)), .int (iI (rc)), .ref MB, .ref MR, .ref ME, .ref MZ, .int (iI (wo)), .int (iI (wy)), .int (iI (po)), .ref MT, .int (iI (-1)), .int (iI (-1)), .int (iI (-1)), .int (iI (mu))])), (MB, zArr cI 36 b), (MR, zArr cI 6 mr), (ME, zArr cI 6 me), (MZ, zArr cI 6 mq), (MT, zArr cI 6 mt)] (fun r _ => r = iI 0) (fun _ => [(M, .inr (3, [.int (iI (((2 : Nat) : Int))), .int (iI ((n : Nat) : Int)), .int (iI (rc)), .ref MB, .ref MR, .ref ME, .ref MZ, .int (iI (wo)), .int (iI (wy)), .int (iI (po)), .ref MT, .int (iI (-1)), .int (iI (-1)), .int (iI (-1)), .int (iI (mu))])), (MB, zArr cI 36 b), (MR, zArr cI 6 mr), (ME, zArr cI 6 me), (MZ, zArr cI 6 mq), (MT, zArr cI 6 mt)]) := by
  refine zWi_of (cc := cX3_would) (maxL := 4) (rt := .int) (by decide) rfl (Nat.le_of_ble_eq_true rfl) ?_
  intro p e s m args below meth c ls A hF hr hlocks hP hK hD hS hl
  have hF : zFix p m c cX3_would 4 s args wsX3_would RX3 := hF
  obtain ⟨hx, hb, hml, hown, hts⟩ := id hF
  have hP : va_P D vwCl [(M, .inr (3, [.int (iI (th)), .int (iI ((n : Nat) : Int)), .int (iI (rc)), .ref MB, .ref MR, .ref ME, .ref MZ, .int (iI (wo)), .int (iI (wy)), .int (iI (po)), .ref MT, .int (iI (-1)), .int (iI (-1)), .int (iI (-1)), .int (iI (mu))])), (MB, zArr cI 36 b), (MR, zArr cI 6 mr), (ME, zArr cI 6 me), (MZ, zArr cI 6 mq), (MT, zArr cI 6 mt)] s.heap := hP
  have hD : va_D A [(M, .inr (3, [.int (iI (th)), .int (iI ((n : Nat) : Int)), .int (iI (rc)), .ref MB, .ref MR, .ref ME, .ref MZ, .int (iI (wo)), .int (iI (wy)), .int (iI (po)), .ref MT, .int (iI (-1)), .int (iI (-1)), .int (iI (-1)), .int (iI (mu))])), (MB, zArr cI 36 b), (MR, zArr cI 6 mr), (ME, zArr cI 6 me), (MZ, zArr cI 6 mq), (MT, zArr cI 6 mt)] := hD
  skip
  have hl : lv_has ls 4 [(0, .ref M), (1, .int (iI ((x : Nat) : Int))), (2, .int (iI ((y : Nat) : Int))), (3, .int (iI (v)))] := hl
  refine lv_aload_n hx hb dX3_would_0 rfl (lv_at hl 0 rfl) ?_
  refine zr_ic (n := ((0 : Nat) : Int)) hx hb dX3_would_1 ?_
  refine va_put (D := D) (ci := 3) (v := .int (iI ((0 : Nat) : Int))) (ty := .int) (C := RX3) (T := TX3) (N := 15) hx hb hts (by decide +kernel) tyX3 tyX3_ok nmX3 hown hK hP hD hS 0 rfl rfl 0 (by decide) (hts (.fieldLink RX3 35 "RentHarmonyModel" "thrown" "I") (by decide +kernel)) (fun _ h9 => h9) rfl (by decide +kernel) rfl rfl (Nat.le_of_ble_eq_true rfl) dX3_would_2 (fun H locs hP hD hS => ?_)
  have hP : va_P D vwCl [(M, .inr (3, [.int (iI ((0 : Nat) : Int)), .int (iI ((n : Nat) : Int)), .int (iI (rc)), .ref MB, .ref MR, .ref ME, .ref MZ, .int (iI (wo)), .int (iI (wy)), .int (iI (po)), .ref MT, .int (iI (-1)), .int (iI (-1)), .int (iI (-1)), .int (iI (mu))])), (MB, zArr cI 36 b), (MR, zArr cI 6 mr), (ME, zArr cI 6 me), (MZ, zArr cI 6 mq), (MT, zArr cI 6 mt)] H := hP
  have hD : va_D A [(M, .inr (3, [.int (iI ((0 : Nat) : Int)), .int (iI ((n : Nat) : Int)), .int (iI (rc)), .ref MB, .ref MR, .ref ME, .ref MZ, .int (iI (wo)), .int (iI (wy)), .int (iI (po)), .ref MT, .int (iI (-1)), .int (iI (-1)), .int (iI (-1)), .int (iI (mu))])), (MB, zArr cI 36 b), (MR, zArr cI 6 mr), (ME, zArr cI 6 me), (MZ, zArr cI 6 mq), (MT, zArr cI 6 mt)] := hD
  refine lv_aload_n hx hb dX3_would_5 rfl (lv_at hl 0 rfl) ?_
  refine lv_iload_n hx hb dX3_would_6 rfl (lv_at hl 1 rfl) ?_
  refine zc_ri (As := [.int (iI ((x : Nat) : Int))]) (rest := []) hF (c_X3_isOne l D cI M MB MR ME MZ MT n b mr me mq mt ((0 : Nat) : Int) rc wo wy po (-1) (-1) (-1) mu ((x : Nat) : Int) (by omega) (zB_of (by omega) (by omega))) (cwV 1 hts gX3_would_X3_isOne rfl rfl rfl (by decide +kernel) ⟨Nat.le_of_ble_eq_true rfl, Nat.le_of_ble_eq_true rfl⟩) hK hP [0, 1, 2, 3, 4, 5] rfl 0 rfl 0 rfl rfl rfl rfl hl.1 rfl (Nat.le_of_ble_eq_true rfl) dX3_would_7 ⟨Nat.zero_le _, Nat.zero_le _⟩ ?_
  refine zr_ifB_eq (tgt := 21) hx hb dX3_would_10 (by decide)  (fun c1 => ?_) (fun c1 => ?_)
  · exact absurd (by omega) c1
  · refine lv_aload_n hx hb dX3_would_13 rfl (lv_at hl 0 rfl) ?_
    refine lv_iload_n hx hb dX3_would_14 rfl (lv_at hl 2 rfl) ?_
    refine zc_ri (As := [.int (iI ((y : Nat) : Int))]) (rest := []) hF (c_X3_isOne l D cI M MB MR ME MZ MT n b mr me mq mt ((0 : Nat) : Int) rc wo wy po (-1) (-1) (-1) mu ((y : Nat) : Int) (by omega) (zB_of (by omega) (by omega))) (cwV 1 hts gX3_would_X3_isOne rfl rfl rfl (by decide +kernel) ⟨Nat.le_of_ble_eq_true rfl, Nat.le_of_ble_eq_true rfl⟩) hK hP [0, 1, 2, 3, 4, 5] rfl 0 rfl 0 rfl rfl rfl rfl hl.1 rfl (Nat.le_of_ble_eq_true rfl) dX3_would_15 ⟨Nat.zero_le _, Nat.zero_le _⟩ ?_
    refine zr_ifB_ne (tgt := 27) hx hb dX3_would_18 (by decide)  (fun c2 => ?_) (fun c2 => ?_)
    · refine lv_iload_n hx hb dX3_would_27 rfl (lv_at hl 3 rfl) ?_
      refine zr_ic (n := ((0 : Nat) : Int)) hx hb dX3_would_28 ?_
      refine zr_si (n := ((999 : Nat) : Int)) hx hb dX3_would_29 rfl ?_
      refine zc_riS (As := [.int (iI (v)), .int (iI ((0 : Nat) : Int)), .int (iI ((999 : Nat) : Int))]) (rest := []) hF (c_X3_isIn l D cI v ((0 : Nat) : Int) ((999 : Nat) : Int) hv (zB_of (by omega) (by omega)) (zB_of (by omega) (by omega))) (va_cwS 3 hts gX3_would_X3_isIn rfl rfl rfl (by decide +kernel) ⟨Nat.le_of_ble_eq_true rfl, Nat.le_of_ble_eq_true rfl⟩) hK hP [] rfl 0 rfl rfl hl.1 rfl (Nat.le_of_ble_eq_true rfl) dX3_would_32 ⟨Nat.zero_le _, Nat.zero_le _⟩ ?_
      refine zr_ifB_eq (tgt := 48) hx hb dX3_would_35 (by decide)  (fun c3 => ?_) (fun c3 => ?_)
      · refine lv_aload_n hx hb dX3_would_48 rfl (lv_at hl 0 rfl) ?_
        refine zr_ic (n := ((2 : Nat) : Int)) hx hb dX3_would_49 ?_
        refine zc_wi (As := [.int (iI ((2 : Nat) : Int))]) (rest := []) hF (c_X3_fail l D cI M MB MR ME MZ MT n b mr me mq mt ((0 : Nat) : Int) rc wo wy po (-1) (-1) (-1) mu ((2 : Nat) : Int) ) (cwV 1 hts gX3_would_X3_fail rfl rfl rfl (by decide +kernel) ⟨Nat.le_of_ble_eq_true rfl, Nat.le_of_ble_eq_true rfl⟩) hK hP hD hS [0, 1, 2, 3, 4, 5] rfl rfl (fun _ => rfl) 0 rfl 0 rfl rfl rfl rfl hl.1 rfl (Nat.le_of_ble_eq_true rfl) dX3_would_50 ⟨Nat.zero_le _, Nat.zero_le _⟩ (fun r5 u4 H locs hw hP hD hS => ?_)
        subst hw
        have hP : va_P D vwCl [(M, .inr (3, [.int (iI (((2 : Nat) : Int))), .int (iI ((n : Nat) : Int)), .int (iI (rc)), .ref MB, .ref MR, .ref ME, .ref MZ, .int (iI (wo)), .int (iI (wy)), .int (iI (po)), .ref MT, .int (iI (-1)), .int (iI (-1)), .int (iI (-1)), .int (iI (mu))])), (MB, zArr cI 36 b), (MR, zArr cI 6 mr), (ME, zArr cI 6 me), (MZ, zArr cI 6 mq), (MT, zArr cI 6 mt)] H := hP
        have hD : va_D A [(M, .inr (3, [.int (iI (((2 : Nat) : Int))), .int (iI ((n : Nat) : Int)), .int (iI (rc)), .ref MB, .ref MR, .ref ME, .ref MZ, .int (iI (wo)), .int (iI (wy)), .int (iI (po)), .ref MT, .int (iI (-1)), .int (iI (-1)), .int (iI (-1)), .int (iI (mu))])), (MB, zArr cI 36 b), (MR, zArr cI 6 mr), (ME, zArr cI 6 me), (MZ, zArr cI 6 mq), (MT, zArr cI 6 mt)] := hD
        exact zWi_ret hx hb hr hlocks hS dX3_would_53 () rfl hP
      · exact absurd c3 hbad
    · exact absurd (by omega) c2
set_option maxHeartbeats 4000000 in
set_option maxRecDepth 100000 in
/-- X3_would -/
theorem c_X3_would_ok (l : Launch) (D : va_G) (cI : ClassId) (M MB MR ME MZ MT n : Nat) (b mr me mq mt : Nat → Int) (th rc wo wy po mu : Int) (x y : Nat) (v : Int) (hn : n ≤ 6) (hb0 : ∀ k, 0 ≤ b k ∧ b k ≤ 999) (hrc : 0 ≤ rc ∧ rc ≤ 5999) (hmu : 0 ≤ mu ∧ mu ≤ 1) (hx0 : x < n) (hy0 : y < n) (hv : 0 ≤ v ∧ v ≤ 999) : zWi (S := Int × Int × (Nat → Int) × (Nat → Int)) l yX3_would wsX3_would 10 235 D cI [.ref M, .int (iI ((x : Nat) : Int)), .int (iI ((y : Nat) : Int)), .int (iI (v))] [(M, .inr (3, [.int (iI (th)), .int (iI ((n : Nat) : Int)), .int (iI (rc)), .ref MB, .ref MR, .ref ME, .ref MZ, .int (iI (wo)), .int (iI (wy)), .int (iI (po)), .ref MT, .int (iI (-1)), .int (iI (-1)), .int (iI (-1)), .int (iI (mu))])), (MB, zArr cI 36 b), (MR, zArr cI 6 mr), (ME, zArr cI 6 me), (MZ, zArr cI 6 mq), (MT, zArr cI 6 mt)] (fun r _ => r = iI ((zRo n (uZ b (x * 6 + y) v) x : Nat) : Int)) (fun u8 => [(M, .inr (3, [.int (iI (((0 : Nat) : Int))), .int (iI ((n : Nat) : Int)), .int (iI (rc)), .ref MB, .ref MR, .ref ME, .ref MZ, .int (iI (u8.1)), .int (iI (u8.2.1)), .int (iI (po)), .ref MT, .int (iI (-1)), .int (iI (-1)), .int (iI (-1)), .int (iI (mu))])), (MB, zArr cI 36 b), (MR, zArr cI 6 u8.2.2.1), (ME, zArr cI 6 me), (MZ, zArr cI 6 mq), (MT, zArr cI 6 u8.2.2.2)]) := by
  refine zWi_of (cc := cX3_would) (maxL := 4) (rt := .int) (by decide) rfl (Nat.le_of_ble_eq_true rfl) ?_
  intro p e s m args below meth c ls A hF hr hlocks hP hK hD hS hl
  have hF : zFix p m c cX3_would 4 s args wsX3_would RX3 := hF
  obtain ⟨hx, hb, hml, hown, hts⟩ := id hF
  have hP : va_P D vwCl [(M, .inr (3, [.int (iI (th)), .int (iI ((n : Nat) : Int)), .int (iI (rc)), .ref MB, .ref MR, .ref ME, .ref MZ, .int (iI (wo)), .int (iI (wy)), .int (iI (po)), .ref MT, .int (iI (-1)), .int (iI (-1)), .int (iI (-1)), .int (iI (mu))])), (MB, zArr cI 36 b), (MR, zArr cI 6 mr), (ME, zArr cI 6 me), (MZ, zArr cI 6 mq), (MT, zArr cI 6 mt)] s.heap := hP
  have hD : va_D A [(M, .inr (3, [.int (iI (th)), .int (iI ((n : Nat) : Int)), .int (iI (rc)), .ref MB, .ref MR, .ref ME, .ref MZ, .int (iI (wo)), .int (iI (wy)), .int (iI (po)), .ref MT, .int (iI (-1)), .int (iI (-1)), .int (iI (-1)), .int (iI (mu))])), (MB, zArr cI 36 b), (MR, zArr cI 6 mr), (ME, zArr cI 6 me), (MZ, zArr cI 6 mq), (MT, zArr cI 6 mt)] := hD
  skip
  have hl : lv_has ls 4 [(0, .ref M), (1, .int (iI ((x : Nat) : Int))), (2, .int (iI ((y : Nat) : Int))), (3, .int (iI (v)))] := hl
  refine lv_aload_n hx hb dX3_would_0 rfl (lv_at hl 0 rfl) ?_
  refine zr_ic (n := ((0 : Nat) : Int)) hx hb dX3_would_1 ?_
  refine va_put (D := D) (ci := 3) (v := .int (iI ((0 : Nat) : Int))) (ty := .int) (C := RX3) (T := TX3) (N := 15) hx hb hts (by decide +kernel) tyX3 tyX3_ok nmX3 hown hK hP hD hS 0 rfl rfl 0 (by decide) (hts (.fieldLink RX3 35 "RentHarmonyModel" "thrown" "I") (by decide +kernel)) (fun _ h9 => h9) rfl (by decide +kernel) rfl rfl (Nat.le_of_ble_eq_true rfl) dX3_would_2 (fun H locs hP hD hS => ?_)
  have hP : va_P D vwCl [(M, .inr (3, [.int (iI ((0 : Nat) : Int)), .int (iI ((n : Nat) : Int)), .int (iI (rc)), .ref MB, .ref MR, .ref ME, .ref MZ, .int (iI (wo)), .int (iI (wy)), .int (iI (po)), .ref MT, .int (iI (-1)), .int (iI (-1)), .int (iI (-1)), .int (iI (mu))])), (MB, zArr cI 36 b), (MR, zArr cI 6 mr), (ME, zArr cI 6 me), (MZ, zArr cI 6 mq), (MT, zArr cI 6 mt)] H := hP
  have hD : va_D A [(M, .inr (3, [.int (iI ((0 : Nat) : Int)), .int (iI ((n : Nat) : Int)), .int (iI (rc)), .ref MB, .ref MR, .ref ME, .ref MZ, .int (iI (wo)), .int (iI (wy)), .int (iI (po)), .ref MT, .int (iI (-1)), .int (iI (-1)), .int (iI (-1)), .int (iI (mu))])), (MB, zArr cI 36 b), (MR, zArr cI 6 mr), (ME, zArr cI 6 me), (MZ, zArr cI 6 mq), (MT, zArr cI 6 mt)] := hD
  refine lv_aload_n hx hb dX3_would_5 rfl (lv_at hl 0 rfl) ?_
  refine lv_iload_n hx hb dX3_would_6 rfl (lv_at hl 1 rfl) ?_
  refine zc_ri (As := [.int (iI ((x : Nat) : Int))]) (rest := []) hF (c_X3_isOne l D cI M MB MR ME MZ MT n b mr me mq mt ((0 : Nat) : Int) rc wo wy po (-1) (-1) (-1) mu ((x : Nat) : Int) (by omega) (zB_of (by omega) (by omega))) (cwV 1 hts gX3_would_X3_isOne rfl rfl rfl (by decide +kernel) ⟨Nat.le_of_ble_eq_true rfl, Nat.le_of_ble_eq_true rfl⟩) hK hP [0, 1, 2, 3, 4, 5] rfl 0 rfl 0 rfl rfl rfl rfl hl.1 rfl (Nat.le_of_ble_eq_true rfl) dX3_would_7 ⟨Nat.zero_le _, Nat.zero_le _⟩ ?_
  refine zr_ifB_eq (tgt := 21) hx hb dX3_would_10 (by decide)  (fun c1 => ?_) (fun c1 => ?_)
  · exact absurd (by omega) c1
  · refine lv_aload_n hx hb dX3_would_13 rfl (lv_at hl 0 rfl) ?_
    refine lv_iload_n hx hb dX3_would_14 rfl (lv_at hl 2 rfl) ?_
    refine zc_ri (As := [.int (iI ((y : Nat) : Int))]) (rest := []) hF (c_X3_isOne l D cI M MB MR ME MZ MT n b mr me mq mt ((0 : Nat) : Int) rc wo wy po (-1) (-1) (-1) mu ((y : Nat) : Int) (by omega) (zB_of (by omega) (by omega))) (cwV 1 hts gX3_would_X3_isOne rfl rfl rfl (by decide +kernel) ⟨Nat.le_of_ble_eq_true rfl, Nat.le_of_ble_eq_true rfl⟩) hK hP [0, 1, 2, 3, 4, 5] rfl 0 rfl 0 rfl rfl rfl rfl hl.1 rfl (Nat.le_of_ble_eq_true rfl) dX3_would_15 ⟨Nat.zero_le _, Nat.zero_le _⟩ ?_
    refine zr_ifB_ne (tgt := 27) hx hb dX3_would_18 (by decide)  (fun c2 => ?_) (fun c2 => ?_)
    · refine lv_iload_n hx hb dX3_would_27 rfl (lv_at hl 3 rfl) ?_
      refine zr_ic (n := ((0 : Nat) : Int)) hx hb dX3_would_28 ?_
      refine zr_si (n := ((999 : Nat) : Int)) hx hb dX3_would_29 rfl ?_
      refine zc_riS (As := [.int (iI (v)), .int (iI ((0 : Nat) : Int)), .int (iI ((999 : Nat) : Int))]) (rest := []) hF (c_X3_isIn l D cI v ((0 : Nat) : Int) ((999 : Nat) : Int) (zB_of (by omega) (by omega)) (zB_of (by omega) (by omega)) (zB_of (by omega) (by omega))) (va_cwS 3 hts gX3_would_X3_isIn rfl rfl rfl (by decide +kernel) ⟨Nat.le_of_ble_eq_true rfl, Nat.le_of_ble_eq_true rfl⟩) hK hP [] rfl 0 rfl rfl hl.1 rfl (Nat.le_of_ble_eq_true rfl) dX3_would_32 ⟨Nat.zero_le _, Nat.zero_le _⟩ ?_
      refine zr_ifB_eq (tgt := 48) hx hb dX3_would_35 (by decide)  (fun c3 => ?_) (fun c3 => ?_)
      · exact absurd (by omega) c3
      · refine lv_aload_n hx hb dX3_would_38 rfl (lv_at hl 0 rfl) ?_
        refine lv_iload_n hx hb dX3_would_39 rfl (lv_at hl 1 rfl) ?_
        refine lv_iload_n hx hb dX3_would_40 rfl (lv_at hl 2 rfl) ?_
        refine lv_iload_n hx hb dX3_would_41 rfl (lv_at hl 3 rfl) ?_
        refine zc_wi (As := [.int (iI ((x : Nat) : Int)), .int (iI ((y : Nat) : Int)), .int (iI (v))]) (rest := []) hF (c_X3_roomWith l D cI M MB MR ME MZ MT n b mr me mq mt ((0 : Nat) : Int) rc wo wy po mu x y v (by omega) (by assumption) (by assumption) (by omega) (by omega) (by omega) (by omega)) (cwV 3 hts gX3_would_X3_roomWith rfl rfl rfl (by decide +kernel) ⟨Nat.le_of_ble_eq_true rfl, Nat.le_of_ble_eq_true rfl⟩) hK hP hD hS [0, 1, 2, 3, 4, 5] rfl rfl (fun _ => rfl) 0 rfl 0 rfl rfl rfl rfl hl.1 rfl (Nat.le_of_ble_eq_true rfl) dX3_would_42 ⟨Nat.zero_le _, Nat.zero_le _⟩ (fun r5 u4 H locs hw hP hD hS => ?_)
        obtain ⟨wo6, wy6, ro6, mt6⟩ := u4
        subst hw
        have hP : va_P D vwCl [(M, .inr (3, [.int (iI ((0 : Nat) : Int)), .int (iI ((n : Nat) : Int)), .int (iI (rc)), .ref MB, .ref MR, .ref ME, .ref MZ, .int (iI (wo6)), .int (iI (wy6)), .int (iI (po)), .ref MT, .int (iI (-1)), .int (iI (-1)), .int (iI (-1)), .int (iI (mu))])), (MB, zArr cI 36 b), (MR, zArr cI 6 ro6), (ME, zArr cI 6 me), (MZ, zArr cI 6 mq), (MT, zArr cI 6 mt6)] H := hP
        have hD : va_D A [(M, .inr (3, [.int (iI ((0 : Nat) : Int)), .int (iI ((n : Nat) : Int)), .int (iI (rc)), .ref MB, .ref MR, .ref ME, .ref MZ, .int (iI (wo6)), .int (iI (wy6)), .int (iI (po)), .ref MT, .int (iI (-1)), .int (iI (-1)), .int (iI (-1)), .int (iI (mu))])), (MB, zArr cI 36 b), (MR, zArr cI 6 ro6), (ME, zArr cI 6 me), (MZ, zArr cI 6 mq), (MT, zArr cI 6 mt6)] := hD
        refine lv_goto (tgt := 53) hx hb dX3_would_45 (by decide) ?_
        exact zWi_ret hx hb hr hlocks hS dX3_would_53 (wo6, wy6, ro6, mt6) rfl hP
    · exact absurd (by omega) c2
set_option maxHeartbeats 4000000 in
set_option maxRecDepth 100000 in
/-- X3_without -/
theorem c_X3_without_bad (l : Launch) (D : va_G) (cI : ClassId) (M MB MR ME MZ MT n : Nat) (b mr me mq mt : Nat → Int) (th rc wo wy po mu : Int) (z1 : Int) (hn : n ≤ 6) (hz1 : zB z1) (hbad : ¬ (0 ≤ z1 ∧ z1 < (n : Int))) : zWi (S := Unit) l yX3_without wsX3_without 2 43 D cI [.ref M, .int (iI (z1))] [(M, .inr (3, [.int (iI (th)), .int (iI ((n : Nat) : Int)), .int (iI (rc)), .ref MB, .ref MR, .ref ME, .ref MZ, .int (iI (wo)), .int (iI (wy)), .int (iI (po)), .ref MT, .int (iI (-1)), .int (iI (-1)), .int (iI (-1)), .int (iI (mu))])), (MB, zArr cI 36 b), (MR, zArr cI 6 mr), (ME, zArr cI 6 me), (MZ, zArr cI 6 mq), (MT, zArr cI 6 mt)] (fun r _ => r = iI 0) (fun _ => [(M, .inr (3, [.int (iI (((1 : Nat) : Int))), .int (iI ((n : Nat) : Int)), .int (iI (rc)), .ref MB, .ref MR, .ref ME, .ref MZ, .int (iI (wo)), .int (iI (wy)), .int (iI (po)), .ref MT, .int (iI (-1)), .int (iI (-1)), .int (iI (-1)), .int (iI (mu))])), (MB, zArr cI 36 b), (MR, zArr cI 6 mr), (ME, zArr cI 6 me), (MZ, zArr cI 6 mq), (MT, zArr cI 6 mt)]) := by
  refine zWi_of (cc := cX3_without) (maxL := 3) (rt := .int) (by decide) rfl (Nat.le_of_ble_eq_true rfl) ?_
  intro p e s m args below meth c ls A hF hr hlocks hP hK hD hS hl
  have hF : zFix p m c cX3_without 3 s args wsX3_without RX3 := hF
  obtain ⟨hx, hb, hml, hown, hts⟩ := id hF
  have hP : va_P D vwCl [(M, .inr (3, [.int (iI (th)), .int (iI ((n : Nat) : Int)), .int (iI (rc)), .ref MB, .ref MR, .ref ME, .ref MZ, .int (iI (wo)), .int (iI (wy)), .int (iI (po)), .ref MT, .int (iI (-1)), .int (iI (-1)), .int (iI (-1)), .int (iI (mu))])), (MB, zArr cI 36 b), (MR, zArr cI 6 mr), (ME, zArr cI 6 me), (MZ, zArr cI 6 mq), (MT, zArr cI 6 mt)] s.heap := hP
  have hD : va_D A [(M, .inr (3, [.int (iI (th)), .int (iI ((n : Nat) : Int)), .int (iI (rc)), .ref MB, .ref MR, .ref ME, .ref MZ, .int (iI (wo)), .int (iI (wy)), .int (iI (po)), .ref MT, .int (iI (-1)), .int (iI (-1)), .int (iI (-1)), .int (iI (mu))])), (MB, zArr cI 36 b), (MR, zArr cI 6 mr), (ME, zArr cI 6 me), (MZ, zArr cI 6 mq), (MT, zArr cI 6 mt)] := hD
  skip
  have hl : lv_has ls 3 [(0, .ref M), (1, .int (iI (z1)))] := hl
  refine lv_aload_n hx hb dX3_without_0 rfl (lv_at hl 0 rfl) ?_
  refine zr_ic (n := ((0 : Nat) : Int)) hx hb dX3_without_1 ?_
  refine va_put (D := D) (ci := 3) (v := .int (iI ((0 : Nat) : Int))) (ty := .int) (C := RX3) (T := TX3) (N := 15) hx hb hts (by decide +kernel) tyX3 tyX3_ok nmX3 hown hK hP hD hS 0 rfl rfl 0 (by decide) (hts (.fieldLink RX3 35 "RentHarmonyModel" "thrown" "I") (by decide +kernel)) (fun _ h9 => h9) rfl (by decide +kernel) rfl rfl (Nat.le_of_ble_eq_true rfl) dX3_without_2 (fun H locs hP hD hS => ?_)
  have hP : va_P D vwCl [(M, .inr (3, [.int (iI ((0 : Nat) : Int)), .int (iI ((n : Nat) : Int)), .int (iI (rc)), .ref MB, .ref MR, .ref ME, .ref MZ, .int (iI (wo)), .int (iI (wy)), .int (iI (po)), .ref MT, .int (iI (-1)), .int (iI (-1)), .int (iI (-1)), .int (iI (mu))])), (MB, zArr cI 36 b), (MR, zArr cI 6 mr), (ME, zArr cI 6 me), (MZ, zArr cI 6 mq), (MT, zArr cI 6 mt)] H := hP
  have hD : va_D A [(M, .inr (3, [.int (iI ((0 : Nat) : Int)), .int (iI ((n : Nat) : Int)), .int (iI (rc)), .ref MB, .ref MR, .ref ME, .ref MZ, .int (iI (wo)), .int (iI (wy)), .int (iI (po)), .ref MT, .int (iI (-1)), .int (iI (-1)), .int (iI (-1)), .int (iI (mu))])), (MB, zArr cI 36 b), (MR, zArr cI 6 mr), (ME, zArr cI 6 me), (MZ, zArr cI 6 mq), (MT, zArr cI 6 mt)] := hD
  refine lv_aload_n hx hb dX3_without_5 rfl (lv_at hl 0 rfl) ?_
  refine lv_iload_n hx hb dX3_without_6 rfl (lv_at hl 1 rfl) ?_
  refine zc_ri (As := [.int (iI (z1))]) (rest := []) hF (c_X3_isOne l D cI M MB MR ME MZ MT n b mr me mq mt ((0 : Nat) : Int) rc wo wy po (-1) (-1) (-1) mu z1 (by omega) hz1) (cwV 1 hts gX3_without_X3_isOne rfl rfl rfl (by decide +kernel) ⟨Nat.le_of_ble_eq_true rfl, Nat.le_of_ble_eq_true rfl⟩) hK hP [0, 1, 2, 3, 4, 5] rfl 0 rfl 0 rfl rfl rfl rfl hl.1 rfl (Nat.le_of_ble_eq_true rfl) dX3_without_7 ⟨Nat.zero_le _, Nat.zero_le _⟩ ?_
  refine zr_ifB_ne (tgt := 19) hx hb dX3_without_10 (by decide)  (fun c1 => ?_) (fun c1 => ?_)
  · exact absurd c1 hbad
  · refine lv_aload_n hx hb dX3_without_13 rfl (lv_at hl 0 rfl) ?_
    refine zr_ic (n := ((1 : Nat) : Int)) hx hb dX3_without_14 ?_
    refine zc_wi (As := [.int (iI ((1 : Nat) : Int))]) (rest := []) hF (c_X3_fail l D cI M MB MR ME MZ MT n b mr me mq mt ((0 : Nat) : Int) rc wo wy po (-1) (-1) (-1) mu ((1 : Nat) : Int) ) (cwV 1 hts gX3_without_X3_fail rfl rfl rfl (by decide +kernel) ⟨Nat.le_of_ble_eq_true rfl, Nat.le_of_ble_eq_true rfl⟩) hK hP hD hS [0, 1, 2, 3, 4, 5] rfl rfl (fun _ => rfl) 0 rfl 0 rfl rfl rfl rfl hl.1 rfl (Nat.le_of_ble_eq_true rfl) dX3_without_15 ⟨Nat.zero_le _, Nat.zero_le _⟩ (fun r3 u2 H locs hw hP hD hS => ?_)
    subst hw
    have hP : va_P D vwCl [(M, .inr (3, [.int (iI (((1 : Nat) : Int))), .int (iI ((n : Nat) : Int)), .int (iI (rc)), .ref MB, .ref MR, .ref ME, .ref MZ, .int (iI (wo)), .int (iI (wy)), .int (iI (po)), .ref MT, .int (iI (-1)), .int (iI (-1)), .int (iI (-1)), .int (iI (mu))])), (MB, zArr cI 36 b), (MR, zArr cI 6 mr), (ME, zArr cI 6 me), (MZ, zArr cI 6 mq), (MT, zArr cI 6 mt)] H := hP
    have hD : va_D A [(M, .inr (3, [.int (iI (((1 : Nat) : Int))), .int (iI ((n : Nat) : Int)), .int (iI (rc)), .ref MB, .ref MR, .ref ME, .ref MZ, .int (iI (wo)), .int (iI (wy)), .int (iI (po)), .ref MT, .int (iI (-1)), .int (iI (-1)), .int (iI (-1)), .int (iI (mu))])), (MB, zArr cI 36 b), (MR, zArr cI 6 mr), (ME, zArr cI 6 me), (MZ, zArr cI 6 mq), (MT, zArr cI 6 mt)] := hD
    exact zWi_ret hx hb hr hlocks hS dX3_without_18 () rfl hP
set_option maxHeartbeats 4000000 in
set_option maxRecDepth 100000 in
/-- X3_without -/
theorem c_X3_without_ok (l : Launch) (D : va_G) (cI : ClassId) (M MB MR ME MZ MT n : Nat) (b mr me mq mt : Nat → Int) (th rc wo wy po mu : Int) (x : Nat) (hn : n ≤ 6) (hb0 : ∀ k, 0 ≤ b k ∧ b k ≤ 999) (hrc : 0 ≤ rc ∧ rc ≤ 5999) (hmu : 0 ≤ mu ∧ mu ≤ 1) (hx0 : x < n) : zWi (S := Int × Int × (Nat → Int) × (Nat → Int)) l yX3_without wsX3_without 9 211 D cI [.ref M, .int (iI ((x : Nat) : Int))] [(M, .inr (3, [.int (iI (th)), .int (iI ((n : Nat) : Int)), .int (iI (rc)), .ref MB, .ref MR, .ref ME, .ref MZ, .int (iI (wo)), .int (iI (wy)), .int (iI (po)), .ref MT, .int (iI (-1)), .int (iI (-1)), .int (iI (-1)), .int (iI (mu))])), (MB, zArr cI 36 b), (MR, zArr cI 6 mr), (ME, zArr cI 6 me), (MZ, zArr cI 6 mq), (MT, zArr cI 6 mt)] (fun r _ => r = iI (zBest (zX n b (x : Int) (-1) (-1) mu))) (fun u8 => [(M, .inr (3, [.int (iI (((0 : Nat) : Int))), .int (iI ((n : Nat) : Int)), .int (iI (rc)), .ref MB, .ref MR, .ref ME, .ref MZ, .int (iI (u8.1)), .int (iI (u8.2.1)), .int (iI (po)), .ref MT, .int (iI (-1)), .int (iI (-1)), .int (iI (-1)), .int (iI (mu))])), (MB, zArr cI 36 b), (MR, zArr cI 6 u8.2.2.1), (ME, zArr cI 6 me), (MZ, zArr cI 6 mq), (MT, zArr cI 6 u8.2.2.2)]) := by
  refine zWi_of (cc := cX3_without) (maxL := 3) (rt := .int) (by decide) rfl (Nat.le_of_ble_eq_true rfl) ?_
  intro p e s m args below meth c ls A hF hr hlocks hP hK hD hS hl
  have hF : zFix p m c cX3_without 3 s args wsX3_without RX3 := hF
  obtain ⟨hx, hb, hml, hown, hts⟩ := id hF
  have hP : va_P D vwCl [(M, .inr (3, [.int (iI (th)), .int (iI ((n : Nat) : Int)), .int (iI (rc)), .ref MB, .ref MR, .ref ME, .ref MZ, .int (iI (wo)), .int (iI (wy)), .int (iI (po)), .ref MT, .int (iI (-1)), .int (iI (-1)), .int (iI (-1)), .int (iI (mu))])), (MB, zArr cI 36 b), (MR, zArr cI 6 mr), (ME, zArr cI 6 me), (MZ, zArr cI 6 mq), (MT, zArr cI 6 mt)] s.heap := hP
  have hD : va_D A [(M, .inr (3, [.int (iI (th)), .int (iI ((n : Nat) : Int)), .int (iI (rc)), .ref MB, .ref MR, .ref ME, .ref MZ, .int (iI (wo)), .int (iI (wy)), .int (iI (po)), .ref MT, .int (iI (-1)), .int (iI (-1)), .int (iI (-1)), .int (iI (mu))])), (MB, zArr cI 36 b), (MR, zArr cI 6 mr), (ME, zArr cI 6 me), (MZ, zArr cI 6 mq), (MT, zArr cI 6 mt)] := hD
  skip
  have hl : lv_has ls 3 [(0, .ref M), (1, .int (iI ((x : Nat) : Int)))] := hl
  refine lv_aload_n hx hb dX3_without_0 rfl (lv_at hl 0 rfl) ?_
  refine zr_ic (n := ((0 : Nat) : Int)) hx hb dX3_without_1 ?_
  refine va_put (D := D) (ci := 3) (v := .int (iI ((0 : Nat) : Int))) (ty := .int) (C := RX3) (T := TX3) (N := 15) hx hb hts (by decide +kernel) tyX3 tyX3_ok nmX3 hown hK hP hD hS 0 rfl rfl 0 (by decide) (hts (.fieldLink RX3 35 "RentHarmonyModel" "thrown" "I") (by decide +kernel)) (fun _ h9 => h9) rfl (by decide +kernel) rfl rfl (Nat.le_of_ble_eq_true rfl) dX3_without_2 (fun H locs hP hD hS => ?_)
  have hP : va_P D vwCl [(M, .inr (3, [.int (iI ((0 : Nat) : Int)), .int (iI ((n : Nat) : Int)), .int (iI (rc)), .ref MB, .ref MR, .ref ME, .ref MZ, .int (iI (wo)), .int (iI (wy)), .int (iI (po)), .ref MT, .int (iI (-1)), .int (iI (-1)), .int (iI (-1)), .int (iI (mu))])), (MB, zArr cI 36 b), (MR, zArr cI 6 mr), (ME, zArr cI 6 me), (MZ, zArr cI 6 mq), (MT, zArr cI 6 mt)] H := hP
  have hD : va_D A [(M, .inr (3, [.int (iI ((0 : Nat) : Int)), .int (iI ((n : Nat) : Int)), .int (iI (rc)), .ref MB, .ref MR, .ref ME, .ref MZ, .int (iI (wo)), .int (iI (wy)), .int (iI (po)), .ref MT, .int (iI (-1)), .int (iI (-1)), .int (iI (-1)), .int (iI (mu))])), (MB, zArr cI 36 b), (MR, zArr cI 6 mr), (ME, zArr cI 6 me), (MZ, zArr cI 6 mq), (MT, zArr cI 6 mt)] := hD
  refine lv_aload_n hx hb dX3_without_5 rfl (lv_at hl 0 rfl) ?_
  refine lv_iload_n hx hb dX3_without_6 rfl (lv_at hl 1 rfl) ?_
  refine zc_ri (As := [.int (iI ((x : Nat) : Int))]) (rest := []) hF (c_X3_isOne l D cI M MB MR ME MZ MT n b mr me mq mt ((0 : Nat) : Int) rc wo wy po (-1) (-1) (-1) mu ((x : Nat) : Int) (by omega) (zB_of (by omega) (by omega))) (cwV 1 hts gX3_without_X3_isOne rfl rfl rfl (by decide +kernel) ⟨Nat.le_of_ble_eq_true rfl, Nat.le_of_ble_eq_true rfl⟩) hK hP [0, 1, 2, 3, 4, 5] rfl 0 rfl 0 rfl rfl rfl rfl hl.1 rfl (Nat.le_of_ble_eq_true rfl) dX3_without_7 ⟨Nat.zero_le _, Nat.zero_le _⟩ ?_
  refine zr_ifB_ne (tgt := 19) hx hb dX3_without_10 (by decide)  (fun c1 => ?_) (fun c1 => ?_)
  · refine lv_aload_n hx hb dX3_without_19 rfl (lv_at hl 0 rfl) ?_
    refine lv_iload_n hx hb dX3_without_20 rfl (lv_at hl 1 rfl) ?_
    refine va_put (D := D) (ci := 3) (v := .int (iI ((x : Nat) : Int))) (ty := .int) (C := RX3) (T := TX3) (N := 15) hx hb hts (by decide +kernel) tyX3 tyX3_ok nmX3 hown hK hP hD hS 0 rfl rfl 11 (by decide) (hts (.fieldLink RX3 25 "RentHarmonyModel" "free" "I") (by decide +kernel)) (fun _ h9 => h9) rfl (by decide +kernel) rfl rfl (Nat.le_of_ble_eq_true rfl) dX3_without_21 (fun H locs hP hD hS => ?_)
    have hP : va_P D vwCl [(M, .inr (3, [.int (iI ((0 : Nat) : Int)), .int (iI ((n : Nat) : Int)), .int (iI (rc)), .ref MB, .ref MR, .ref ME, .ref MZ, .int (iI (wo)), .int (iI (wy)), .int (iI (po)), .ref MT, .int (iI ((x : Nat) : Int)), .int (iI (-1)), .int (iI (-1)), .int (iI (mu))])), (MB, zArr cI 36 b), (MR, zArr cI 6 mr), (ME, zArr cI 6 me), (MZ, zArr cI 6 mq), (MT, zArr cI 6 mt)] H := hP
    have hD : va_D A [(M, .inr (3, [.int (iI ((0 : Nat) : Int)), .int (iI ((n : Nat) : Int)), .int (iI (rc)), .ref MB, .ref MR, .ref ME, .ref MZ, .int (iI (wo)), .int (iI (wy)), .int (iI (po)), .ref MT, .int (iI ((x : Nat) : Int)), .int (iI (-1)), .int (iI (-1)), .int (iI (mu))])), (MB, zArr cI 36 b), (MR, zArr cI 6 mr), (ME, zArr cI 6 me), (MZ, zArr cI 6 mq), (MT, zArr cI 6 mt)] := hD
    refine lv_aload_n hx hb dX3_without_24 rfl (lv_at hl 0 rfl) ?_
    refine zc_wi (As := []) (rest := []) hF (c_X3_give l D cI M MB MR ME MZ MT n b mr me mq mt ((0 : Nat) : Int) rc wo wy po ((x : Nat) : Int) (-1) (-1) mu (by omega) (by assumption) (zB_of (by omega) (by omega)) (zB_of (by omega) (by omega)) (zB_of (by omega) (by omega)) (by omega)) (cwV 0 hts gX3_without_X3_give rfl rfl rfl (by decide +kernel) ⟨Nat.le_of_ble_eq_true rfl, Nat.le_of_ble_eq_true rfl⟩) hK hP hD hS [0, 1, 2, 3, 4, 5] rfl rfl (fun _ => rfl) 0 rfl 0 rfl rfl rfl rfl hl.1 rfl (Nat.le_of_ble_eq_true rfl) dX3_without_25 ⟨Nat.zero_le _, Nat.zero_le _⟩ (fun r3 u2 H locs hw hP hD hS => ?_)
    obtain ⟨wo4, wy4, ro4, mt4⟩ := u2
    obtain ⟨hrv4, hgv4⟩ := hw
    subst hrv4
    have hgv4 : zGave n (zX n b ((x : Nat) : Int) (-1) (-1) mu) wo4 wy4 ro4 := hgv4
    have hP : va_P D vwCl [(M, .inr (3, [.int (iI ((0 : Nat) : Int)), .int (iI ((n : Nat) : Int)), .int (iI (rc)), .ref MB, .ref MR, .ref ME, .ref MZ, .int (iI (wo4)), .int (iI (wy4)), .int (iI (po)), .ref MT, .int (iI ((x : Nat) : Int)), .int (iI (-1)), .int (iI (-1)), .int (iI (mu))])), (MB, zArr cI 36 b), (MR, zArr cI 6 ro4), (ME, zArr cI 6 me), (MZ, zArr cI 6 mq), (MT, zArr cI 6 mt4)] H := hP
    have hD : va_D A [(M, .inr (3, [.int (iI ((0 : Nat) : Int)), .int (iI ((n : Nat) : Int)), .int (iI (rc)), .ref MB, .ref MR, .ref ME, .ref MZ, .int (iI (wo4)), .int (iI (wy4)), .int (iI (po)), .ref MT, .int (iI ((x : Nat) : Int)), .int (iI (-1)), .int (iI (-1)), .int (iI (mu))])), (MB, zArr cI 36 b), (MR, zArr cI 6 ro4), (ME, zArr cI 6 me), (MZ, zArr cI 6 mq), (MT, zArr cI 6 mt4)] := hD
    refine lv_istore_n (lv' := [(2, .int (iI (zBest (zX n b ((x : Nat) : Int) (-1) (-1) mu)))), (0, .ref M), (1, .int (iI ((x : Nat) : Int)))]) hx hb dX3_without_28 rfl hl (by decide) rfl (fun ls hl => ?_)
    refine lv_aload_n hx hb dX3_without_29 rfl (lv_at hl 1 rfl) ?_
    refine zr_ic (n := -1) hx hb dX3_without_30 ?_
    refine va_put (D := D) (ci := 3) (v := .int (iI (-1))) (ty := .int) (C := RX3) (T := TX3) (N := 15) hx hb hts (by decide +kernel) tyX3 tyX3_ok nmX3 hown hK hP hD hS 0 rfl rfl 11 (by decide) (hts (.fieldLink RX3 25 "RentHarmonyModel" "free" "I") (by decide +kernel)) (fun _ h9 => h9) rfl (by decide +kernel) rfl rfl (Nat.le_of_ble_eq_true rfl) dX3_without_31 (fun H locs hP hD hS => ?_)
    have hP : va_P D vwCl [(M, .inr (3, [.int (iI ((0 : Nat) : Int)), .int (iI ((n : Nat) : Int)), .int (iI (rc)), .ref MB, .ref MR, .ref ME, .ref MZ, .int (iI (wo4)), .int (iI (wy4)), .int (iI (po)), .ref MT, .int (iI (-1)), .int (iI (-1)), .int (iI (-1)), .int (iI (mu))])), (MB, zArr cI 36 b), (MR, zArr cI 6 ro4), (ME, zArr cI 6 me), (MZ, zArr cI 6 mq), (MT, zArr cI 6 mt4)] H := hP
    have hD : va_D A [(M, .inr (3, [.int (iI ((0 : Nat) : Int)), .int (iI ((n : Nat) : Int)), .int (iI (rc)), .ref MB, .ref MR, .ref ME, .ref MZ, .int (iI (wo4)), .int (iI (wy4)), .int (iI (po)), .ref MT, .int (iI (-1)), .int (iI (-1)), .int (iI (-1)), .int (iI (mu))])), (MB, zArr cI 36 b), (MR, zArr cI 6 ro4), (ME, zArr cI 6 me), (MZ, zArr cI 6 mq), (MT, zArr cI 6 mt4)] := hD
    refine lv_iload_n hx hb dX3_without_34 rfl (lv_at hl 0 rfl) ?_
    exact zWi_ret hx hb hr hlocks hS dX3_without_35 (wo4, wy4, ro4, mt4) rfl hP
  · exact absurd (by omega) c1
