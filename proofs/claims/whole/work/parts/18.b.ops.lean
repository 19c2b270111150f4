set_option maxHeartbeats 8000000 in
set_option maxRecDepth 100000 in
theorem op_gap {p : Program} {l : Launch} {e : Env} {s : State} {m : MethodId} {args : Array Value} {below : List Frame} {meth : Method} {c : Code} {H : Heap} {locs : List Loc} {cells slots : Nat} {Q : State → Prop} {ls : Array Slot} {sb L : Nat} {xs : Nat → Int32} {D : va_G} {cI cJ : ClassId} {h B C G GB GW GR TB TC TG TGB TGW TGR FR CH J M MB MR ME MZ MT : Nat} {k n : Nat} {b : Nat → Int} {rc : Int} {u : zVU} {v : zMU}
    (CC : zLC p l m c s args sb L xs) (I : zLI s D cI cJ sb h B C G GB GW GR TB TC TG TGB TGW TGR FR CH J M MB MR ME MZ MT k n b rc u v H locs ls) (hk : 4 * k + 3 < L) (hc : cells + 1 ≤ 648565) (hs : slots + 6 ≤ 7150408) (K : ∀ (n : Nat) (b : Nat → Int) (rc : Int) (u : zVU) (v : zMU) (H : Heap) (locs : List Loc) (ls : Array Slot), zLI s D cI cJ sb h B C G GB GW GR TB TC TG TGB TGW TGR FR CH J M MB MR ME MZ MT k n b rc u v H locs ls → W p l e room_1 s m args below meth c H locs (cells + 1) (slots + 6) Q (F0 m 955 ls [])) : W p l e room_1 s m args below meth c H locs cells slots Q (F0 m 615 ls []) := by
  obtain ⟨hfl, hF, hX, hsb, hL, hXL⟩ := CC
  obtain ⟨hx, hb, hml, hown, hts⟩ := id hF
  obtain ⟨bo, wo, ro, fr, sh, po, tn, tb, tbo, two, tro, ch, f⟩ := u
  obtain ⟨th, rwo, rwy, rpo, mu, mr, me, mq, mt⟩ := v
  obtain ⟨hn, hb0, hrc, hset, hmu, hK, hP, hD, hS, hl⟩ := I
  have hset : zSet n b rc bo wo ro fr sh po := hset
  have hmu : 0 ≤ mu ∧ mu ≤ 1 := hmu
  have hA : ∀ q, s.heap.size ≤ q → (fun q => s.heap.size ≤ q) q := fun _ h => h
  have hbA : ¬ (fun q => s.heap.size ≤ q) sb := Nat.not_le.mpr hsb
  have hE := hset.2.1
  obtain ⟨z1, hz1, e1⟩ : ∃ z : Int, zB z ∧ (xs (4 * k + 1)).toInt = z := ⟨_, z_toB _, rfl⟩
  obtain ⟨z2, hz2, e2⟩ : ∃ z : Int, zB z ∧ (xs (4 * k + 2)).toInt = z := ⟨_, z_toB _, rfl⟩
  have hz1a := hz1.1
  have hz1b := hz1.2
  have hz2a := hz2.1
  have hz2b := hz2.2
  by_cases hv0 : (0 ≤ z1 ∧ z1 < (n : Int)) ∧ 0 ≤ z2 ∧ z2 < (n : Int)
  · obtain ⟨x, rfl⟩ : ∃ q : Nat, z1 = (q : Int) := ⟨z1.toNat, by omega⟩
    obtain ⟨y, rfl⟩ : ∃ q : Nat, z2 = (q : Int) := ⟨z2.toNat, by omega⟩
    refine lv_aload_n hx hb dL_law_615 rfl (lv_at hl 1 rfl) ?_
    refine lv_aload_n hx hb dL_law_616 rfl (lv_at hl 0 rfl) ?_
    refine lv_iload hx hb dL_law_617 (lv_at hl 4 rfl) ?_
    refine zr_ic (n := ((1 : Nat) : Int)) hx hb dL_law_619 ?_
    refine zr_addN (x := 4 * k) (y := 1) hx hb dL_law_620 ?_
    refine zr_sld hx hb hX hsb hbA hS hL (j := 4 * k + 1) (by omega) dL_law_621 ?_
    rw [e1]
    refine lv_aload_n hx hb dL_law_622 rfl (lv_at hl 0 rfl) ?_
    refine lv_iload hx hb dL_law_623 (lv_at hl 4 rfl) ?_
    refine zr_ic (n := ((2 : Nat) : Int)) hx hb dL_law_625 ?_
    refine zr_addN (x := 4 * k) (y := 2) hx hb dL_law_626 ?_
    refine zr_sld hx hb hX hsb hbA hS hL (j := 4 * k + 2) (by omega) dL_law_627 ?_
    rw [e2]
    refine lv_aload_n hx hb dL_law_628 rfl (lv_at hl 3 rfl) ?_
    refine zc_Ls (As := [.ref h, .int (iI ((x : Nat) : Int)), .int (iI ((y : Nat) : Int)), .ref J]) (rest := []) hF (c_L_gap l D cI h B C G GB GW GR TB TC TG TGB TGW TGR FR CH J cJ n b rc bo wo ro fr sh po tn tb tbo two tro ch f x y hn hb0 hrc hset (by omega) (by omega)) (vx_cwSW 4 hts gL_law_L_gap rfl rfl rfl (by decide +kernel) ⟨Nat.le_of_ble_eq_true rfl, Nat.le_of_ble_eq_true rfl⟩) hK hP hD hS [0, 1, 2, 3, 4, 5, 6, 7, 8, 9, 10, 11, 12, 13, 14, 15] (by decide) rfl (fun _ => rfl) rfl hl.1 rfl (Nat.le_of_ble_eq_true rfl) dL_law_629 ⟨(show cells ≤ 648565 by omega), (show slots ≤ 7150408 by omega)⟩ (fun r u9 H locs hw hP hD hS => ?_)
    obtain ⟨bo2, wo2, ro2, fr2, sh2, po2, tn2, tb2, tbo2, two2, tro2, ch2, f2⟩ := u9
    obtain ⟨hr1, hset2, hV⟩ := hw
    subst hr1
    have hP : va_P D vwCl (zXW h B C G GB GW GR TB TC TG TGB TGW TGR FR CH J cI cJ n b rc (bo2, wo2, ro2, fr2, sh2, po2, tn2, tb2, tbo2, two2, tro2, ch2, f2) ++ zMW M MB MR ME MZ MT cI n b rc (th, rwo, rwy, rpo, mu, mr, me, mq, mt)) H := hP
    have hD : va_D (fun q => s.heap.size ≤ q) (zXW h B C G GB GW GR TB TC TG TGB TGW TGR FR CH J cI cJ n b rc (bo2, wo2, ro2, fr2, sh2, po2, tn2, tb2, tbo2, two2, tro2, ch2, f2) ++ zMW M MB MR ME MZ MT cI n b rc (th, rwo, rwy, rpo, mu, mr, me, mq, mt)) := hD
    have hV : f2 0 = (iI (zGap n b rc fr x y)).toInt64 := hV
    refine lv_istore (lv' := [(5, .int (iI 0)), (0, .ref sb), (1, .ref h), (2, .ref M), (3, .ref J), (4, .int (iI ((4 * k : Nat) : Int)))]) hx hb dL_law_632 hl (by decide) rfl (fun ls hl => ?_)
    refine lv_aload_n hx hb dL_law_634 rfl (lv_at hl 3 rfl) ?_
    refine lv_aload_n hx hb dL_law_635 rfl (lv_at hl 1 rfl) ?_
    refine lv_iload hx hb dL_law_636 (lv_at hl 5 rfl) ?_
    refine zr_ic (n := ((1 : Nat) : Int)) hx hb dL_law_638 ?_
    refine zr_addN (x := 4 * k) (y := 1) hx hb dL_law_639 ?_
    refine zr_sld hx hb hX hsb hbA hS hL (j := 4 * k + 1) (by omega) dL_law_640 ?_
    rw [e1]
    refine lv_aload_n hx hb dL_law_641 rfl (lv_at hl 1 rfl) ?_
    refine lv_iload hx hb dL_law_642 (lv_at hl 5 rfl) ?_
    refine zr_ic (n := ((2 : Nat) : Int)) hx hb dL_law_644 ?_
    refine zr_addN (x := 4 * k) (y := 2) hx hb dL_law_645 ?_
    refine zr_sld hx hb hX hsb hbA hS hL (j := 4 * k + 2) (by omega) dL_law_646 ?_
    rw [e2]
    refine zc_wi (As := [.int (iI ((x : Nat) : Int)), .int (iI ((y : Nat) : Int))]) (rest := []) hF (r_gap_ok l D cI M MB MR ME MZ MT n b mr me mq mt th rc rwo rwy rpo mu x y fr hn hb0 hrc hmu (by omega) (by omega) hE) (cwV 2 hts gL_law_X3_gap rfl rfl rfl (by decide +kernel) ⟨Nat.le_of_ble_eq_true rfl, Nat.le_of_ble_eq_true rfl⟩) hK hP hD hS [16, 17, 18, 19, 20, 21] (by decide) rfl (fun _ => rfl) 0 rfl 0 rfl rfl rfl rfl hl.1 rfl (Nat.le_of_ble_eq_true rfl) dL_law_647 ⟨(show cells ≤ 648565 by omega), (show slots ≤ 7150408 by omega)⟩ (fun r u9 H locs hw hP hD hS => ?_)
    obtain ⟨th2, rwo2, rwy2, rpo2, mu2, mr2, me2, mq2, mt2⟩ := u9
    obtain ⟨hr2, hth, hmu2⟩ := hw
    have hth : th2 = ((0 : Nat) : Int) := hth
    subst hth
    subst hr2
    have hP : va_P D vwCl (zXW h B C G GB GW GR TB TC TG TGB TGW TGR FR CH J cI cJ n b rc (bo2, wo2, ro2, fr2, sh2, po2, tn2, tb2, tbo2, two2, tro2, ch2, f2) ++ zMW M MB MR ME MZ MT cI n b rc (((0 : Nat) : Int), rwo2, rwy2, rpo2, mu2, mr2, me2, mq2, mt2)) H := hP
    have hD : va_D (fun q => s.heap.size ≤ q) (zXW h B C G GB GW GR TB TC TG TGB TGW TGR FR CH J cI cJ n b rc (bo2, wo2, ro2, fr2, sh2, po2, tn2, tb2, tbo2, two2, tro2, ch2, f2) ++ zMW M MB MR ME MZ MT cI n b rc (((0 : Nat) : Int), rwo2, rwy2, rpo2, mu2, mr2, me2, mq2, mt2)) := hD
    refine lv_istore (lv' := [(6, .int (iI (zGap n b rc fr x y))), (5, .int (iI 0)), (0, .ref sb), (1, .ref h), (2, .ref M), (3, .ref J), (4, .int (iI ((4 * k : Nat) : Int)))]) hx hb dL_law_650 hl (by decide) rfl (fun ls hl => ?_)
    refine lv_aload_n hx hb dL_law_652 rfl (lv_at hl 4 rfl) ?_
    refine zc_ri (As := []) (rest := []) hF (c_X3_thrown l D cI M MB MR ME MZ MT n b mr2 me2 mq2 mt2 ((0 : Nat) : Int) rc rwo2 rwy2 rpo2 (-1) (-1) (-1) mu2) (cwV 0 hts gL_law_X3_thrown rfl rfl rfl (by decide +kernel) ⟨Nat.le_of_ble_eq_true rfl, Nat.le_of_ble_eq_true rfl⟩) hK hP [16, 17, 18, 19, 20, 21] rfl 0 rfl 0 rfl rfl rfl rfl hl.1 rfl (Nat.le_of_ble_eq_true rfl) dL_law_653 ⟨(show cells ≤ 648565 by omega), (show slots ≤ 7150408 by omega)⟩ ?_
    refine lv_iload hx hb dL_law_656 (lv_at hl 1 rfl) ?_
    refine zr_icmp_eq (tgt := 663) hx hb dL_law_658 (by decide) (zB_nat (by decide)) zB_0 (fun _ => ?_) (fun q => absurd rfl q)
    refine lv_iload hx hb dL_law_663 (lv_at hl 1 rfl) ?_
    refine zr_if_ne (tgt := 680) hx hb dL_law_665 (by decide) zB_0 (fun q => absurd rfl q) (fun _ => ?_)
    refine lv_aload_n hx hb dL_law_668 rfl (lv_at hl 5 rfl) ?_
    refine zr_ic (n := ((0 : Nat) : Int)) hx hb dL_law_669 ?_
    refine zr_lald0 hx hb hK hP 15 rfl dL_law_670 ?_
    refine lv_iload hx hb dL_law_671 (lv_at hl 0 rfl) ?_
    refine lv_i2l hx hb dL_law_673 rfl ?_
    refine zr_lcmpE (tgt := 680) hx hb hV dL_law_674 dL_law_675 (by decide) ?_
    refine lv_goto (tgt := 955) hx hb dL_law_680 (by decide) ?_
    refine W.widen (k := cells + 1) (n := slots + 6) (by omega) (by omega) ?_
    exact K n b rc (bo2, wo2, ro2, fr2, sh2, po2, tn2, tb2, tbo2, two2, tro2, ch2, f2) (((0 : Nat) : Int), rwo2, rwy2, rpo2, mu2, mr2, me2, mq2, mt2) H locs ls ⟨hn, hb0, hrc, hset2, hmu2, hK, hP, hD, hS, lv_sub hl [2, 3, 4, 5, 6] rfl⟩
  · refine lv_aload_n hx hb dL_law_615 rfl (lv_at hl 1 rfl) ?_
    refine lv_aload_n hx hb dL_law_616 rfl (lv_at hl 0 rfl) ?_
    refine lv_iload hx hb dL_law_617 (lv_at hl 4 rfl) ?_
    refine zr_ic (n := ((1 : Nat) : Int)) hx hb dL_law_619 ?_
    refine zr_addN (x := 4 * k) (y := 1) hx hb dL_law_620 ?_
    refine zr_sld hx hb hX hsb hbA hS hL (j := 4 * k + 1) (by omega) dL_law_621 ?_
    rw [e1]
    refine lv_aload_n hx hb dL_law_622 rfl (lv_at hl 0 rfl) ?_
    refine lv_iload hx hb dL_law_623 (lv_at hl 4 rfl) ?_
    refine zr_ic (n := ((2 : Nat) : Int)) hx hb dL_law_625 ?_
    refine zr_addN (x := 4 * k) (y := 2) hx hb dL_law_626 ?_
    refine zr_sld hx hb hX hsb hbA hS hL (j := 4 * k + 2) (by omega) dL_law_627 ?_
    rw [e2]
    refine lv_aload_n hx hb dL_law_628 rfl (lv_at hl 3 rfl) ?_
    refine zc_Lx (As := [.ref h, .int (iI z1), .int (iI z2), .ref J]) (rest := []) hF (f_L_gap l hfl D cI h B C G GB GW GR TB TC TG TGB TGW TGR FR CH J cJ n b rc bo wo ro fr sh po tn tb tbo two tro ch f z1 z2 hn hb0 hz1 hz2 (by omega)) (vx_cwSW 4 hts gL_law_L_gap rfl rfl rfl (by decide +kernel) ⟨Nat.le_of_ble_eq_true rfl, Nat.le_of_ble_eq_true rfl⟩) (fun U h1 h2 => zXL_at (fun _ h => h) (fun _ h => h) hXL hS h2 h1) hK hP hD hS hA [0, 1, 2, 3, 4, 5, 6, 7, 8, 9, 10, 11, 12, 13, 14, 15] rfl rfl hl.1 rfl (Nat.le_of_ble_eq_true rfl) dL_law_629 ⟨(show cells + 1 ≤ 648565 by omega), (show slots + 6 ≤ 7150408 by omega)⟩ (fun H locs hP hS => ?_)
    have hP : va_P D vwCl (zXW h B C G GB GW GR TB TC TG TGB TGW TGR FR CH J cI cJ n b rc (bo, wo, ro, fr, sh, po, tn, tb, tbo, two, tro, ch, f) ++ zMW M MB MR ME MZ MT cI n b rc (th, rwo, rwy, rpo, mu, mr, me, mq, mt)) H := hP
    refine lv_istore (lv' := [(5, .int (iI ((1 : Nat) : Int))), (0, .ref sb), (1, .ref h), (2, .ref M), (3, .ref J), (4, .int (iI ((4 * k : Nat) : Int)))]) hx hb dL_law_632 hl (by decide) rfl (fun ls hl => ?_)
    refine lv_aload_n hx hb dL_law_634 rfl (lv_at hl 3 rfl) ?_
    refine lv_aload_n hx hb dL_law_635 rfl (lv_at hl 1 rfl) ?_
    refine lv_iload hx hb dL_law_636 (lv_at hl 5 rfl) ?_
    refine zr_ic (n := ((1 : Nat) : Int)) hx hb dL_law_638 ?_
    refine zr_addN (x := 4 * k) (y := 1) hx hb dL_law_639 ?_
    refine zr_sld hx hb hX hsb hbA hS hL (j := 4 * k + 1) (by omega) dL_law_640 ?_
    rw [e1]
    refine lv_aload_n hx hb dL_law_641 rfl (lv_at hl 1 rfl) ?_
    refine lv_iload hx hb dL_law_642 (lv_at hl 5 rfl) ?_
    refine zr_ic (n := ((2 : Nat) : Int)) hx hb dL_law_644 ?_
    refine zr_addN (x := 4 * k) (y := 2) hx hb dL_law_645 ?_
    refine zr_sld hx hb hX hsb hbA hS hL (j := 4 * k + 2) (by omega) dL_law_646 ?_
    rw [e2]
    refine zc_wi (As := [.int (iI z1), .int (iI z2)]) (rest := []) hF (r_gap_bad l D cI M MB MR ME MZ MT n b mr me mq mt th rc rwo rwy rpo mu z1 z2 hn hz1 hz2 (by omega) hmu) (cwV 2 hts gL_law_X3_gap rfl rfl rfl (by decide +kernel) ⟨Nat.le_of_ble_eq_true rfl, Nat.le_of_ble_eq_true rfl⟩) hK hP hD hS [16, 17, 18, 19, 20, 21] (by decide) rfl (fun _ => rfl) 0 rfl 0 rfl rfl rfl rfl hl.1 rfl (Nat.le_of_ble_eq_true rfl) dL_law_647 ⟨(show cells + 1 ≤ 648565 by omega), (show slots + 6 ≤ 7150408 by omega)⟩ (fun r u9 H locs hw hP hD hS => ?_)
    obtain ⟨th2, rwo2, rwy2, rpo2, mu2, mr2, me2, mq2, mt2⟩ := u9
    obtain ⟨hr2, hth, hmu2⟩ := hw
    have hth : th2 = ((1 : Nat) : Int) := hth
    subst hth
    subst hr2
    have hP : va_P D vwCl (zXW h B C G GB GW GR TB TC TG TGB TGW TGR FR CH J cI cJ n b rc (bo, wo, ro, fr, sh, po, tn, tb, tbo, two, tro, ch, f) ++ zMW M MB MR ME MZ MT cI n b rc (((1 : Nat) : Int), rwo2, rwy2, rpo2, mu2, mr2, me2, mq2, mt2)) H := hP
    have hD : va_D (fun q => s.heap.size ≤ q) (zXW h B C G GB GW GR TB TC TG TGB TGW TGR FR CH J cI cJ n b rc (bo, wo, ro, fr, sh, po, tn, tb, tbo, two, tro, ch, f) ++ zMW M MB MR ME MZ MT cI n b rc (((1 : Nat) : Int), rwo2, rwy2, rpo2, mu2, mr2, me2, mq2, mt2)) := hD
    refine lv_istore (lv' := [(6, .int (iI 0)), (5, .int (iI ((1 : Nat) : Int))), (0, .ref sb), (1, .ref h), (2, .ref M), (3, .ref J), (4, .int (iI ((4 * k : Nat) : Int)))]) hx hb dL_law_650 hl (by decide) rfl (fun ls hl => ?_)
    refine lv_aload_n hx hb dL_law_652 rfl (lv_at hl 4 rfl) ?_
    refine zc_ri (As := []) (rest := []) hF (c_X3_thrown l D cI M MB MR ME MZ MT n b mr2 me2 mq2 mt2 ((1 : Nat) : Int) rc rwo2 rwy2 rpo2 (-1) (-1) (-1) mu2) (cwV 0 hts gL_law_X3_thrown rfl rfl rfl (by decide +kernel) ⟨Nat.le_of_ble_eq_true rfl, Nat.le_of_ble_eq_true rfl⟩) hK hP [16, 17, 18, 19, 20, 21] rfl 0 rfl 0 rfl rfl rfl rfl hl.1 rfl (Nat.le_of_ble_eq_true rfl) dL_law_653 ⟨(show cells + 1 ≤ 648565 by omega), (show slots + 6 ≤ 7150408 by omega)⟩ ?_
    refine lv_iload hx hb dL_law_656 (lv_at hl 1 rfl) ?_
    refine zr_icmp_eq (tgt := 663) hx hb dL_law_658 (by decide) (zB_nat (by decide)) (zB_nat (by decide)) (fun _ => ?_) (fun q => absurd rfl q)
    refine lv_iload hx hb dL_law_663 (lv_at hl 1 rfl) ?_
    refine zr_if_ne (tgt := 680) hx hb dL_law_665 (by decide) (zB_nat (by decide)) (fun _ => ?_) (fun q => absurd q (by decide))
    refine lv_goto (tgt := 955) hx hb dL_law_680 (by decide) ?_
    exact K n b rc (bo, wo, ro, fr, sh, po, tn, tb, tbo, two, tro, ch, f) (((1 : Nat) : Int), rwo2, rwy2, rpo2, mu2, mr2, me2, mq2, mt2) H locs ls ⟨hn, hb0, hrc, hset, hmu2, hK, hP, hD, hS, lv_sub hl [2, 3, 4, 5, 6] rfl⟩
set_option maxHeartbeats 8000000 in
set_option maxRecDepth 100000 in
theorem op_envies {p : Program} {l : Launch} {e : Env} {s : State} {m : MethodId} {args : Array Value} {below : List Frame} {meth : Method} {c : Code} {H : Heap} {locs : List Loc} {cells slots : Nat} {Q : State → Prop} {ls : Array Slot} {sb L : Nat} {xs : Nat → Int32} {D : va_G} {cI cJ : ClassId} {h B C G GB GW GR TB TC TG TGB TGW TGR FR CH J M MB MR ME MZ MT : Nat} {k n : Nat} {b : Nat → Int} {rc : Int} {u : zVU} {v : zMU}
    (CC : zLC p l m c s args sb L xs) (I : zLI s D cI cJ sb h B C G GB GW GR TB TC TG TGB TGW TGR FR CH J M MB MR ME MZ MT k n b rc u v H locs ls) (hk : 4 * k + 3 < L) (hc : cells + 1 ≤ 648565) (hs : slots + 6 ≤ 7150408) (K : ∀ (n : Nat) (b : Nat → Int) (rc : Int) (u : zVU) (v : zMU) (H : Heap) (locs : List Loc) (ls : Array Slot), zLI s D cI cJ sb h B C G GB GW GR TB TC TG TGB TGW TGR FR CH J M MB MR ME MZ MT k n b rc u v H locs ls → W p l e room_1 s m args below meth c H locs (cells + 1) (slots + 6) Q (F0 m 955 ls [])) : W p l e room_1 s m args below meth c H locs cells slots Q (F0 m 540 ls []) := by
  obtain ⟨hfl, hF, hX, hsb, hL, hXL⟩ := CC
  obtain ⟨hx, hb, hml, hown, hts⟩ := id hF
  obtain ⟨bo, wo, ro, fr, sh, po, tn, tb, tbo, two, tro, ch, f⟩ := u
  obtain ⟨th, rwo, rwy, rpo, mu, mr, me, mq, mt⟩ := v
  obtain ⟨hn, hb0, hrc, hset, hmu, hK, hP, hD, hS, hl⟩ := I
  have hset : zSet n b rc bo wo ro fr sh po := hset
  have hmu : 0 ≤ mu ∧ mu ≤ 1 := hmu
  have hA : ∀ q, s.heap.size ≤ q → (fun q => s.heap.size ≤ q) q := fun _ h => h
  have hbA : ¬ (fun q => s.heap.size ≤ q) sb := Nat.not_le.mpr hsb
  have hE := hset.2.1
  obtain ⟨z1, hz1, e1⟩ : ∃ z : Int, zB z ∧ (xs (4 * k + 1)).toInt = z := ⟨_, z_toB _, rfl⟩
  obtain ⟨z2, hz2, e2⟩ : ∃ z : Int, zB z ∧ (xs (4 * k + 2)).toInt = z := ⟨_, z_toB _, rfl⟩
  have hz1a := hz1.1
  have hz1b := hz1.2
  have hz2a := hz2.1
  have hz2b := hz2.2
  by_cases hv0 : (0 ≤ z1 ∧ z1 < (n : Int)) ∧ 0 ≤ z2 ∧ z2 < (n : Int)
  · obtain ⟨x, rfl⟩ : ∃ q : Nat, z1 = (q : Int) := ⟨z1.toNat, by omega⟩
    obtain ⟨y, rfl⟩ : ∃ q : Nat, z2 = (q : Int) := ⟨z2.toNat, by omega⟩
    refine lv_aload_n hx hb dL_law_540 rfl (lv_at hl 1 rfl) ?_
    refine lv_aload_n hx hb dL_law_541 rfl (lv_at hl 0 rfl) ?_
    refine lv_iload hx hb dL_law_542 (lv_at hl 4 rfl) ?_
    refine zr_ic (n := ((1 : Nat) : Int)) hx hb dL_law_544 ?_
    refine zr_addN (x := 4 * k) (y := 1) hx hb dL_law_545 ?_
    refine zr_sld hx hb hX hsb hbA hS hL (j := 4 * k + 1) (by omega) dL_law_546 ?_
    rw [e1]
    refine lv_aload_n hx hb dL_law_547 rfl (lv_at hl 0 rfl) ?_
    refine lv_iload hx hb dL_law_548 (lv_at hl 4 rfl) ?_
    refine zr_ic (n := ((2 : Nat) : Int)) hx hb dL_law_550 ?_
    refine zr_addN (x := 4 * k) (y := 2) hx hb dL_law_551 ?_
    refine zr_sld hx hb hX hsb hbA hS hL (j := 4 * k + 2) (by omega) dL_law_552 ?_
    rw [e2]
    refine lv_aload_n hx hb dL_law_553 rfl (lv_at hl 3 rfl) ?_
    refine zc_Ls (As := [.ref h, .int (iI ((x : Nat) : Int)), .int (iI ((y : Nat) : Int)), .ref J]) (rest := []) hF (c_L_envies l D cI h B C G GB GW GR TB TC TG TGB TGW TGR FR CH J cJ n b rc bo wo ro fr sh po tn tb tbo two tro ch f x y hn hb0 hrc hset (by omega) (by omega)) (vx_cwSW 4 hts gL_law_L_envies rfl rfl rfl (by decide +kernel) ⟨Nat.le_of_ble_eq_true rfl, Nat.le_of_ble_eq_true rfl⟩) hK hP hD hS [0, 1, 2, 3, 4, 5, 6, 7, 8, 9, 10, 11, 12, 13, 14, 15] (by decide) rfl (fun _ => rfl) rfl hl.1 rfl (Nat.le_of_ble_eq_true rfl) dL_law_554 ⟨(show cells ≤ 648565 by omega), (show slots ≤ 7150408 by omega)⟩ (fun r u9 H locs hw hP hD hS => ?_)
    obtain ⟨bo2, wo2, ro2, fr2, sh2, po2, tn2, tb2, tbo2, two2, tro2, ch2, f2⟩ := u9
    obtain ⟨hr1, hset2, hV⟩ := hw
    subst hr1
    have hP : va_P D vwCl (zXW h B C G GB GW GR TB TC TG TGB TGW TGR FR CH J cI cJ n b rc (bo2, wo2, ro2, fr2, sh2, po2, tn2, tb2, tbo2, two2, tro2, ch2, f2) ++ zMW M MB MR ME MZ MT cI n b rc (th, rwo, rwy, rpo, mu, mr, me, mq, mt)) H := hP
    have hD : va_D (fun q => s.heap.size ≤ q) (zXW h B C G GB GW GR TB TC TG TGB TGW TGR FR CH J cI cJ n b rc (bo2, wo2, ro2, fr2, sh2, po2, tn2, tb2, tbo2, two2, tro2, ch2, f2) ++ zMW M MB MR ME MZ MT cI n b rc (th, rwo, rwy, rpo, mu, mr, me, mq, mt)) := hD
    have hV : f2 0 = if zEn b (zRo n b) x y then 1 else 0 := hV
    refine lv_istore (lv' := [(5, .int (iI 0)), (0, .ref sb), (1, .ref h), (2, .ref M), (3, .ref J), (4, .int (iI ((4 * k : Nat) : Int)))]) hx hb dL_law_557 hl (by decide) rfl (fun ls hl => ?_)
    refine lv_aload_n hx hb dL_law_559 rfl (lv_at hl 3 rfl) ?_
    refine lv_aload_n hx hb dL_law_560 rfl (lv_at hl 1 rfl) ?_
    refine lv_iload hx hb dL_law_561 (lv_at hl 5 rfl) ?_
    refine zr_ic (n := ((1 : Nat) : Int)) hx hb dL_law_563 ?_
    refine zr_addN (x := 4 * k) (y := 1) hx hb dL_law_564 ?_
    refine zr_sld hx hb hX hsb hbA hS hL (j := 4 * k + 1) (by omega) dL_law_565 ?_
    rw [e1]
    refine lv_aload_n hx hb dL_law_566 rfl (lv_at hl 1 rfl) ?_
    refine lv_iload hx hb dL_law_567 (lv_at hl 5 rfl) ?_
    refine zr_ic (n := ((2 : Nat) : Int)) hx hb dL_law_569 ?_
    refine zr_addN (x := 4 * k) (y := 2) hx hb dL_law_570 ?_
    refine zr_sld hx hb hX hsb hbA hS hL (j := 4 * k + 2) (by omega) dL_law_571 ?_
    rw [e2]
    refine zc_wi (As := [.int (iI ((x : Nat) : Int)), .int (iI ((y : Nat) : Int))]) (rest := []) hF (r_envies_ok l D cI M MB MR ME MZ MT n b mr me mq mt th rc rwo rwy rpo mu x y hn hb0 hrc hmu (by omega) (by omega)) (cwV 2 hts gL_law_X3_envies rfl rfl rfl (by decide +kernel) ⟨Nat.le_of_ble_eq_true rfl, Nat.le_of_ble_eq_true rfl⟩) hK hP hD hS [16, 17, 18, 19, 20, 21] (by decide) rfl (fun _ => rfl) 0 rfl 0 rfl rfl rfl rfl hl.1 rfl (Nat.le_of_ble_eq_true rfl) dL_law_572 ⟨(show cells ≤ 648565 by omega), (show slots ≤ 7150408 by omega)⟩ (fun r u9 H locs hw hP hD hS => ?_)
    obtain ⟨th2, rwo2, rwy2, rpo2, mu2, mr2, me2, mq2, mt2⟩ := u9
    obtain ⟨hr2, hth, hmu2⟩ := hw
    have hth : th2 = ((0 : Nat) : Int) := hth
    subst hth
    subst hr2
    have hP : va_P D vwCl (zXW h B C G GB GW GR TB TC TG TGB TGW TGR FR CH J cI cJ n b rc (bo2, wo2, ro2, fr2, sh2, po2, tn2, tb2, tbo2, two2, tro2, ch2, f2) ++ zMW M MB MR ME MZ MT cI n b rc (((0 : Nat) : Int), rwo2, rwy2, rpo2, mu2, mr2, me2, mq2, mt2)) H := hP
    have hD : va_D (fun q => s.heap.size ≤ q) (zXW h B C G GB GW GR TB TC TG TGB TGW TGR FR CH J cI cJ n b rc (bo2, wo2, ro2, fr2, sh2, po2, tn2, tb2, tbo2, two2, tro2, ch2, f2) ++ zMW M MB MR ME MZ MT cI n b rc (((0 : Nat) : Int), rwo2, rwy2, rpo2, mu2, mr2, me2, mq2, mt2)) := hD
    refine lv_istore (lv' := [(6, .int (iI (bZ (zEn b (zRo n b) x y)))), (5, .int (iI 0)), (0, .ref sb), (1, .ref h), (2, .ref M), (3, .ref J), (4, .int (iI ((4 * k : Nat) : Int)))]) hx hb dL_law_575 hl (by decide) rfl (fun ls hl => ?_)
    refine lv_aload_n hx hb dL_law_577 rfl (lv_at hl 4 rfl) ?_
    refine zc_ri (As := []) (rest := []) hF (c_X3_thrown l D cI M MB MR ME MZ MT n b mr2 me2 mq2 mt2 ((0 : Nat) : Int) rc rwo2 rwy2 rpo2 (-1) (-1) (-1) mu2) (cwV 0 hts gL_law_X3_thrown rfl rfl rfl (by decide +kernel) ⟨Nat.le_of_ble_eq_true rfl, Nat.le_of_ble_eq_true rfl⟩) hK hP [16, 17, 18, 19, 20, 21] rfl 0 rfl 0 rfl rfl rfl rfl hl.1 rfl (Nat.le_of_ble_eq_true rfl) dL_law_578 ⟨(show cells ≤ 648565 by omega), (show slots ≤ 7150408 by omega)⟩ ?_
    refine lv_iload hx hb dL_law_581 (lv_at hl 1 rfl) ?_
    refine zr_icmp_eq (tgt := 588) hx hb dL_law_583 (by decide) (zB_nat (by decide)) zB_0 (fun _ => ?_) (fun q => absurd rfl q)
    refine lv_iload hx hb dL_law_588 (lv_at hl 1 rfl) ?_
    refine zr_if_ne (tgt := 612) hx hb dL_law_590 (by decide) zB_0 (fun q => absurd rfl q) (fun _ => ?_)
    refine lv_aload_n hx hb dL_law_593 rfl (lv_at hl 5 rfl) ?_
    refine zr_ic (n := ((0 : Nat) : Int)) hx hb dL_law_594 ?_
    refine zr_lald0 hx hb hK hP 15 rfl dL_law_595 ?_
    refine lv_iload hx hb dL_law_596 (lv_at hl 0 rfl) ?_
    refine zr_ifB_eq (tgt := 605) hx hb dL_law_598 (by decide) (fun q => ?_) (fun q => ?_)
    · refine lv_lconst (v := 0) hx hb dL_law_605 (by decide) ?_
      refine zr_lcmpE (tgt := 612) hx hb (hV.trans (if_neg q)) dL_law_606 dL_law_607 (by decide) ?_
      refine lv_goto (tgt := 955) hx hb dL_law_612 (by decide) ?_
      refine W.widen (k := cells + 1) (n := slots + 6) (by omega) (by omega) ?_
      exact K n b rc (bo2, wo2, ro2, fr2, sh2, po2, tn2, tb2, tbo2, two2, tro2, ch2, f2) (((0 : Nat) : Int), rwo2, rwy2, rpo2, mu2, mr2, me2, mq2, mt2) H locs ls ⟨hn, hb0, hrc, hset2, hmu2, hK, hP, hD, hS, lv_sub hl [2, 3, 4, 5, 6] rfl⟩
    · refine lv_lconst (v := 1) hx hb dL_law_601 (by decide) ?_
      refine lv_goto (tgt := 606) hx hb dL_law_602 (by decide) ?_
      refine zr_lcmpE (tgt := 612) hx hb (hV.trans (if_pos q)) dL_law_606 dL_law_607 (by decide) ?_
      refine lv_goto (tgt := 955) hx hb dL_law_612 (by decide) ?_
      refine W.widen (k := cells + 1) (n := slots + 6) (by omega) (by omega) ?_
      exact K n b rc (bo2, wo2, ro2, fr2, sh2, po2, tn2, tb2, tbo2, two2, tro2, ch2, f2) (((0 : Nat) : Int), rwo2, rwy2, rpo2, mu2, mr2, me2, mq2, mt2) H locs ls ⟨hn, hb0, hrc, hset2, hmu2, hK, hP, hD, hS, lv_sub hl [2, 3, 4, 5, 6] rfl⟩
  · refine lv_aload_n hx hb dL_law_540 rfl (lv_at hl 1 rfl) ?_
    refine lv_aload_n hx hb dL_law_541 rfl (lv_at hl 0 rfl) ?_
    refine lv_iload hx hb dL_law_542 (lv_at hl 4 rfl) ?_
    refine zr_ic (n := ((1 : Nat) : Int)) hx hb dL_law_544 ?_
    refine zr_addN (x := 4 * k) (y := 1) hx hb dL_law_545 ?_
    refine zr_sld hx hb hX hsb hbA hS hL (j := 4 * k + 1) (by omega) dL_law_546 ?_
    rw [e1]
    refine lv_aload_n hx hb dL_law_547 rfl (lv_at hl 0 rfl) ?_
    refine lv_iload hx hb dL_law_548 (lv_at hl 4 rfl) ?_
    refine zr_ic (n := ((2 : Nat) : Int)) hx hb dL_law_550 ?_
    refine zr_addN (x := 4 * k) (y := 2) hx hb dL_law_551 ?_
    refine zr_sld hx hb hX hsb hbA hS hL (j := 4 * k + 2) (by omega) dL_law_552 ?_
    rw [e2]
    refine lv_aload_n hx hb dL_law_553 rfl (lv_at hl 3 rfl) ?_
    refine zc_Lx (As := [.ref h, .int (iI z1), .int (iI z2), .ref J]) (rest := []) hF (f_L_envies l hfl D cI h B C G GB GW GR TB TC TG TGB TGW TGR FR CH J cJ n b rc bo wo ro fr sh po tn tb tbo two tro ch f z1 z2 hn hb0 hz1 hz2 (by omega)) (vx_cwSW 4 hts gL_law_L_envies rfl rfl rfl (by decide +kernel) ⟨Nat.le_of_ble_eq_true rfl, Nat.le_of_ble_eq_true rfl⟩) (fun U h1 h2 => zXL_at (fun _ h => h) (fun _ h => h) hXL hS h2 h1) hK hP hD hS hA [0, 1, 2, 3, 4, 5, 6, 7, 8, 9, 10, 11, 12, 13, 14, 15] rfl rfl hl.1 rfl (Nat.le_of_ble_eq_true rfl) dL_law_554 ⟨(show cells + 1 ≤ 648565 by omega), (show slots + 6 ≤ 7150408 by omega)⟩ (fun H locs hP hS => ?_)
    have hP : va_P D vwCl (zXW h B C G GB GW GR TB TC TG TGB TGW TGR FR CH J cI cJ n b rc (bo, wo, ro, fr, sh, po, tn, tb, tbo, two, tro, ch, f) ++ zMW M MB MR ME MZ MT cI n b rc (th, rwo, rwy, rpo, mu, mr, me, mq, mt)) H := hP
    refine lv_istore (lv' := [(5, .int (iI ((1 : Nat) : Int))), (0, .ref sb), (1, .ref h), (2, .ref M), (3, .ref J), (4, .int (iI ((4 * k : Nat) : Int)))]) hx hb dL_law_557 hl (by decide) rfl (fun ls hl => ?_)
    refine lv_aload_n hx hb dL_law_559 rfl (lv_at hl 3 rfl) ?_
    refine lv_aload_n hx hb dL_law_560 rfl (lv_at hl 1 rfl) ?_
    refine lv_iload hx hb dL_law_561 (lv_at hl 5 rfl) ?_
    refine zr_ic (n := ((1 : Nat) : Int)) hx hb dL_law_563 ?_
    refine zr_addN (x := 4 * k) (y := 1) hx hb dL_law_564 ?_
    refine zr_sld hx hb hX hsb hbA hS hL (j := 4 * k + 1) (by omega) dL_law_565 ?_
    rw [e1]
    refine lv_aload_n hx hb dL_law_566 rfl (lv_at hl 1 rfl) ?_
    refine lv_iload hx hb dL_law_567 (lv_at hl 5 rfl) ?_
    refine zr_ic (n := ((2 : Nat) : Int)) hx hb dL_law_569 ?_
    refine zr_addN (x := 4 * k) (y := 2) hx hb dL_law_570 ?_
    refine zr_sld hx hb hX hsb hbA hS hL (j := 4 * k + 2) (by omega) dL_law_571 ?_
    rw [e2]
    refine zc_wi (As := [.int (iI z1), .int (iI z2)]) (rest := []) hF (r_envies_bad l D cI M MB MR ME MZ MT n b mr me mq mt th rc rwo rwy rpo mu z1 z2 hn hz1 hz2 (by omega) hmu) (cwV 2 hts gL_law_X3_envies rfl rfl rfl (by decide +kernel) ⟨Nat.le_of_ble_eq_true rfl, Nat.le_of_ble_eq_true rfl⟩) hK hP hD hS [16, 17, 18, 19, 20, 21] (by decide) rfl (fun _ => rfl) 0 rfl 0 rfl rfl rfl rfl hl.1 rfl (Nat.le_of_ble_eq_true rfl) dL_law_572 ⟨(show cells + 1 ≤ 648565 by omega), (show slots + 6 ≤ 7150408 by omega)⟩ (fun r u9 H locs hw hP hD hS => ?_)
    obtain ⟨th2, rwo2, rwy2, rpo2, mu2, mr2, me2, mq2, mt2⟩ := u9
    obtain ⟨hr2, hth, hmu2⟩ := hw
    have hth : th2 = ((1 : Nat) : Int) := hth
    subst hth
    subst hr2
    have hP : va_P D vwCl (zXW h B C G GB GW GR TB TC TG TGB TGW TGR FR CH J cI cJ n b rc (bo, wo, ro, fr, sh, po, tn, tb, tbo, two, tro, ch, f) ++ zMW M MB MR ME MZ MT cI n b rc (((1 : Nat) : Int), rwo2, rwy2, rpo2, mu2, mr2, me2, mq2, mt2)) H := hP
    have hD : va_D (fun q => s.heap.size ≤ q) (zXW h B C G GB GW GR TB TC TG TGB TGW TGR FR CH J cI cJ n b rc (bo, wo, ro, fr, sh, po, tn, tb, tbo, two, tro, ch, f) ++ zMW M MB MR ME MZ MT cI n b rc (((1 : Nat) : Int), rwo2, rwy2, rpo2, mu2, mr2, me2, mq2, mt2)) := hD
    refine lv_istore (lv' := [(6, .int (iI 0)), (5, .int (iI ((1 : Nat) : Int))), (0, .ref sb), (1, .ref h), (2, .ref M), (3, .ref J), (4, .int (iI ((4 * k : Nat) : Int)))]) hx hb dL_law_575 hl (by decide) rfl (fun ls hl => ?_)
    refine lv_aload_n hx hb dL_law_577 rfl (lv_at hl 4 rfl) ?_
    refine zc_ri (As := []) (rest := []) hF (c_X3_thrown l D cI M MB MR ME MZ MT n b mr2 me2 mq2 mt2 ((1 : Nat) : Int) rc rwo2 rwy2 rpo2 (-1) (-1) (-1) mu2) (cwV 0 hts gL_law_X3_thrown rfl rfl rfl (by decide +kernel) ⟨Nat.le_of_ble_eq_true rfl, Nat.le_of_ble_eq_true rfl⟩) hK hP [16, 17, 18, 19, 20, 21] rfl 0 rfl 0 rfl rfl rfl rfl hl.1 rfl (Nat.le_of_ble_eq_true rfl) dL_law_578 ⟨(show cells + 1 ≤ 648565 by omega), (show slots + 6 ≤ 7150408 by omega)⟩ ?_
    refine lv_iload hx hb dL_law_581 (lv_at hl 1 rfl) ?_
    refine zr_icmp_eq (tgt := 588) hx hb dL_law_583 (by decide) (zB_nat (by decide)) (zB_nat (by decide)) (fun _ => ?_) (fun q => absurd rfl q)
    refine lv_iload hx hb dL_law_588 (lv_at hl 1 rfl) ?_
    refine zr_if_ne (tgt := 612) hx hb dL_law_590 (by decide) (zB_nat (by decide)) (fun _ => ?_) (fun q => absurd q (by decide))
    refine lv_goto (tgt := 955) hx hb dL_law_612 (by decide) ?_
    exact K n b rc (bo, wo, ro, fr, sh, po, tn, tb, tbo, two, tro, ch, f) (((1 : Nat) : Int), rwo2, rwy2, rpo2, mu2, mr2, me2, mq2, mt2) H locs ls ⟨hn, hb0, hrc, hset, hmu2, hK, hP, hD, hS, lv_sub hl [2, 3, 4, 5, 6] rfl⟩
set_option maxHeartbeats 8000000 in
set_option maxRecDepth 100000 in
theorem op_leave {p : Program} {l : Launch} {e : Env} {s : State} {m : MethodId} {args : Array Value} {below : List Frame} {meth : Method} {c : Code} {H : Heap} {locs : List Loc} {cells slots : Nat} {Q : State → Prop} {ls : Array Slot} {sb L : Nat} {xs : Nat → Int32} {D : va_G} {cI cJ : ClassId} {h B C G GB GW GR TB TC TG TGB TGW TGR FR CH J M MB MR ME MZ MT : Nat} {k n : Nat} {b : Nat → Int} {rc : Int} {u : zVU} {v : zMU}
    (CC : zLC p l m c s args sb L xs) (I : zLI s D cI cJ sb h B C G GB GW GR TB TC TG TGB TGW TGR FR CH J M MB MR ME MZ MT k n b rc u v H locs ls) (hk : 4 * k + 3 < L) (hc : cells + 1 ≤ 648565) (hs : slots + 6 ≤ 7150408) (K : ∀ (n : Nat) (b : Nat → Int) (rc : Int) (u : zVU) (v : zMU) (H : Heap) (locs : List Loc) (ls : Array Slot), zLI s D cI cJ sb h B C G GB GW GR TB TC TG TGB TGW TGR FR CH J M MB MR ME MZ MT k n b rc u v H locs ls → W p l e room_1 s m args below meth c H locs (cells + 1) (slots + 6) Q (F0 m 955 ls [])) : W p l e room_1 s m args below meth c H locs cells slots Q (F0 m 292 ls []) := by
  obtain ⟨hfl, hF, hX, hsb, hL, hXL⟩ := CC
  obtain ⟨hx, hb, hml, hown, hts⟩ := id hF
  obtain ⟨bo, wo, ro, fr, sh, po, tn, tb, tbo, two, tro, ch, f⟩ := u
  obtain ⟨th, rwo, rwy, rpo, mu, mr, me, mq, mt⟩ := v
  obtain ⟨hn, hb0, hrc, hset, hmu, hK, hP, hD, hS, hl⟩ := I
  have hset : zSet n b rc bo wo ro fr sh po := hset
  have hmu : 0 ≤ mu ∧ mu ≤ 1 := hmu
  have hA : ∀ q, s.heap.size ≤ q → (fun q => s.heap.size ≤ q) q := fun _ h => h
  have hbA : ¬ (fun q => s.heap.size ≤ q) sb := Nat.not_le.mpr hsb
  have hE := hset.2.1
  obtain ⟨z1, hz1, e1⟩ : ∃ z : Int, zB z ∧ (xs (4 * k + 1)).toInt = z := ⟨_, z_toB _, rfl⟩
  have hz1a := hz1.1
  have hz1b := hz1.2
  by_cases hv0 : 0 ≤ z1 ∧ z1 < (n : Int)
  · obtain ⟨x, rfl⟩ : ∃ q : Nat, z1 = (q : Int) := ⟨z1.toNat, by omega⟩
    refine lv_aload_n hx hb dL_law_292 rfl (lv_at hl 1 rfl) ?_
    refine lv_aload_n hx hb dL_law_293 rfl (lv_at hl 0 rfl) ?_
    refine lv_iload hx hb dL_law_294 (lv_at hl 4 rfl) ?_
    refine zr_ic (n := ((1 : Nat) : Int)) hx hb dL_law_296 ?_
    refine zr_addN (x := 4 * k) (y := 1) hx hb dL_law_297 ?_
    refine zr_sld hx hb hX hsb hbA hS hL (j := 4 * k + 1) (by omega) dL_law_298 ?_
    rw [e1]
    refine lv_aload_n hx hb dL_law_299 rfl (lv_at hl 3 rfl) ?_
    refine zc_Ls (As := [.ref h, .int (iI ((x : Nat) : Int)), .ref J]) (rest := []) hF (c_L_leave l D cI h B C G GB GW GR TB TC TG TGB TGW TGR FR CH J cJ n b rc bo wo ro fr sh po tn tb tbo two tro ch f x hn hb0 hrc hset (by omega)) (vx_cwSW 3 hts gL_law_L_leave rfl rfl rfl (by decide +kernel) ⟨Nat.le_of_ble_eq_true rfl, Nat.le_of_ble_eq_true rfl⟩) hK hP hD hS [0, 1, 2, 3, 4, 5, 6, 7, 8, 9, 10, 11, 12, 13, 14, 15] (by decide) rfl (fun _ => rfl) rfl hl.1 rfl (Nat.le_of_ble_eq_true rfl) dL_law_300 ⟨(show cells ≤ 648565 by omega), (show slots ≤ 7150408 by omega)⟩ (fun r u9 H locs hw hP hD hS => ?_)
    obtain ⟨bo2, wo2, ro2, fr2, sh2, po2, tn2, tb2, tbo2, two2, tro2, ch2, f2⟩ := u9
    obtain ⟨hr1, hset2, hV⟩ := hw
    subst hr1
    have hP : va_P D vwCl (zXW h B C G GB GW GR TB TC TG TGB TGW TGR FR CH J cI cJ (n - 1) (zSh x (zRo n b x) (n - 1) b (n - 1)) rc (bo2, wo2, ro2, fr2, sh2, po2, tn2, tb2, tbo2, two2, tro2, ch2, f2) ++ zMW M MB MR ME MZ MT cI n b rc (th, rwo, rwy, rpo, mu, mr, me, mq, mt)) H := hP
    have hD : va_D (fun q => s.heap.size ≤ q) (zXW h B C G GB GW GR TB TC TG TGB TGW TGR FR CH J cI cJ (n - 1) (zSh x (zRo n b x) (n - 1) b (n - 1)) rc (bo2, wo2, ro2, fr2, sh2, po2, tn2, tb2, tbo2, two2, tro2, ch2, f2) ++ zMW M MB MR ME MZ MT cI n b rc (th, rwo, rwy, rpo, mu, mr, me, mq, mt)) := hD
    have hV : f2 0 = (iI (((zRo n b x : Nat) : Int))).toInt64 := hV
    refine lv_istore (lv' := [(5, .int (iI 0)), (0, .ref sb), (1, .ref h), (2, .ref M), (3, .ref J), (4, .int (iI ((4 * k : Nat) : Int)))]) hx hb dL_law_303 hl (by decide) rfl (fun ls hl => ?_)
    refine lv_aload_n hx hb dL_law_305 rfl (lv_at hl 3 rfl) ?_
    refine lv_aload_n hx hb dL_law_306 rfl (lv_at hl 1 rfl) ?_
    refine lv_iload hx hb dL_law_307 (lv_at hl 5 rfl) ?_
    refine zr_ic (n := ((1 : Nat) : Int)) hx hb dL_law_309 ?_
    refine zr_addN (x := 4 * k) (y := 1) hx hb dL_law_310 ?_
    refine zr_sld hx hb hX hsb hbA hS hL (j := 4 * k + 1) (by omega) dL_law_311 ?_
    rw [e1]
    refine zc_wi (As := [.int (iI ((x : Nat) : Int))]) (rest := []) hF (r_leave_ok l D cI M MB MR ME MZ MT n b mr me mq mt th rc rwo rwy rpo mu x hn hb0 hrc hmu (by omega)) (cwV 1 hts gL_law_X3_leave rfl rfl rfl (by decide +kernel) ⟨Nat.le_of_ble_eq_true rfl, Nat.le_of_ble_eq_true rfl⟩) hK hP hD hS [16, 17, 18, 19, 20, 21] (by decide) rfl (fun _ => rfl) 0 rfl 0 rfl rfl rfl rfl hl.1 rfl (Nat.le_of_ble_eq_true rfl) dL_law_312 ⟨(show cells ≤ 648565 by omega), (show slots ≤ 7150408 by omega)⟩ (fun r u9 H locs hw hP hD hS => ?_)
    obtain ⟨th2, rwo2, rwy2, rpo2, mu2, mr2, me2, mq2, mt2⟩ := u9
    obtain ⟨hr2, hth, hmu2⟩ := hw
    have hth : th2 = ((0 : Nat) : Int) := hth
    subst hth
    subst hr2
    have hP : va_P D vwCl (zXW h B C G GB GW GR TB TC TG TGB TGW TGR FR CH J cI cJ (n - 1) (zSh x (zRo n b x) (n - 1) b (n - 1)) rc (bo2, wo2, ro2, fr2, sh2, po2, tn2, tb2, tbo2, two2, tro2, ch2, f2) ++ zMW M MB MR ME MZ MT cI (n - 1) (zSh x (zRo n b x) (n - 1) b (n - 1)) rc (((0 : Nat) : Int), rwo2, rwy2, rpo2, mu2, mr2, me2, mq2, mt2)) H := hP
    have hD : va_D (fun q => s.heap.size ≤ q) (zXW h B C G GB GW GR TB TC TG TGB TGW TGR FR CH J cI cJ (n - 1) (zSh x (zRo n b x) (n - 1) b (n - 1)) rc (bo2, wo2, ro2, fr2, sh2, po2, tn2, tb2, tbo2, two2, tro2, ch2, f2) ++ zMW M MB MR ME MZ MT cI (n - 1) (zSh x (zRo n b x) (n - 1) b (n - 1)) rc (((0 : Nat) : Int), rwo2, rwy2, rpo2, mu2, mr2, me2, mq2, mt2)) := hD
    refine lv_istore (lv' := [(6, .int (iI (((zRo n b x : Nat) : Int)))), (5, .int (iI 0)), (0, .ref sb), (1, .ref h), (2, .ref M), (3, .ref J), (4, .int (iI ((4 * k : Nat) : Int)))]) hx hb dL_law_315 hl (by decide) rfl (fun ls hl => ?_)
    refine lv_aload_n hx hb dL_law_317 rfl (lv_at hl 4 rfl) ?_
    refine zc_ri (As := []) (rest := []) hF (c_X3_thrown l D cI M MB MR ME MZ MT (n - 1) (zSh x (zRo n b x) (n - 1) b (n - 1)) mr2 me2 mq2 mt2 ((0 : Nat) : Int) rc rwo2 rwy2 rpo2 (-1) (-1) (-1) mu2) (cwV 0 hts gL_law_X3_thrown rfl rfl rfl (by decide +kernel) ⟨Nat.le_of_ble_eq_true rfl, Nat.le_of_ble_eq_true rfl⟩) hK hP [16, 17, 18, 19, 20, 21] rfl 0 rfl 0 rfl rfl rfl rfl hl.1 rfl (Nat.le_of_ble_eq_true rfl) dL_law_318 ⟨(show cells ≤ 648565 by omega), (show slots ≤ 7150408 by omega)⟩ ?_
    refine lv_iload hx hb dL_law_321 (lv_at hl 1 rfl) ?_
    refine zr_icmp_eq (tgt := 328) hx hb dL_law_323 (by decide) (zB_nat (by decide)) zB_0 (fun _ => ?_) (fun q => absurd rfl q)
    refine lv_iload hx hb dL_law_328 (lv_at hl 1 rfl) ?_
    refine zr_if_ne (tgt := 345) hx hb dL_law_330 (by decide) zB_0 (fun q => absurd rfl q) (fun _ => ?_)
    refine lv_aload_n hx hb dL_law_333 rfl (lv_at hl 5 rfl) ?_
    refine zr_ic (n := ((0 : Nat) : Int)) hx hb dL_law_334 ?_
    refine zr_lald0 hx hb hK hP 15 rfl dL_law_335 ?_
    refine lv_iload hx hb dL_law_336 (lv_at hl 0 rfl) ?_
    refine lv_i2l hx hb dL_law_338 rfl ?_
    refine zr_lcmpE (tgt := 345) hx hb hV dL_law_339 dL_law_340 (by decide) ?_
    refine lv_goto (tgt := 955) hx hb dL_law_345 (by decide) ?_
    refine W.widen (k := cells + 1) (n := slots + 6) (by omega) (by omega) ?_
    exact K (n - 1) (zSh x (zRo n b x) (n - 1) b (n - 1)) rc (bo2, wo2, ro2, fr2, sh2, po2, tn2, tb2, tbo2, two2, tro2, ch2, f2) (((0 : Nat) : Int), rwo2, rwy2, rpo2, mu2, mr2, me2, mq2, mt2) H locs ls ⟨(by omega), (zSh_b x (zRo n b x) (n - 1) hb0 (n - 1)), hrc, hset2, hmu2, hK, hP, hD, hS, lv_sub hl [2, 3, 4, 5, 6] rfl⟩
  · refine lv_aload_n hx hb dL_law_292 rfl (lv_at hl 1 rfl) ?_
    refine lv_aload_n hx hb dL_law_293 rfl (lv_at hl 0 rfl) ?_
    refine lv_iload hx hb dL_law_294 (lv_at hl 4 rfl) ?_
    refine zr_ic (n := ((1 : Nat) : Int)) hx hb dL_law_296 ?_
    refine zr_addN (x := 4 * k) (y := 1) hx hb dL_law_297 ?_
    refine zr_sld hx hb hX hsb hbA hS hL (j := 4 * k + 1) (by omega) dL_law_298 ?_
    rw [e1]
    refine lv_aload_n hx hb dL_law_299 rfl (lv_at hl 3 rfl) ?_
    refine zc_Lx (As := [.ref h, .int (iI z1), .ref J]) (rest := []) hF (f_L_leave l hfl D cI h B C G GB GW GR TB TC TG TGB TGW TGR FR CH J cJ n b rc bo wo ro fr sh po tn tb tbo two tro ch f z1 hn hb0 hz1 (by omega)) (vx_cwSW 3 hts gL_law_L_leave rfl rfl rfl (by decide +kernel) ⟨Nat.le_of_ble_eq_true rfl, Nat.le_of_ble_eq_true rfl⟩) (fun U h1 h2 => zXL_at (fun _ h => h) (fun _ h => h) hXL hS h2 h1) hK hP hD hS hA [0, 1, 2, 3, 4, 5, 6, 7, 8, 9, 10, 11, 12, 13, 14, 15] rfl rfl hl.1 rfl (Nat.le_of_ble_eq_true rfl) dL_law_300 ⟨(show cells + 1 ≤ 648565 by omega), (show slots + 6 ≤ 7150408 by omega)⟩ (fun H locs hP hS => ?_)
    have hP : va_P D vwCl (zXW h B C G GB GW GR TB TC TG TGB TGW TGR FR CH J cI cJ n b rc (bo, wo, ro, fr, sh, po, tn, tb, tbo, two, tro, ch, f) ++ zMW M MB MR ME MZ MT cI n b rc (th, rwo, rwy, rpo, mu, mr, me, mq, mt)) H := hP
    refine lv_istore (lv' := [(5, .int (iI ((1 : Nat) : Int))), (0, .ref sb), (1, .ref h), (2, .ref M), (3, .ref J), (4, .int (iI ((4 * k : Nat) : Int)))]) hx hb dL_law_303 hl (by decide) rfl (fun ls hl => ?_)
    refine lv_aload_n hx hb dL_law_305 rfl (lv_at hl 3 rfl) ?_
    refine lv_aload_n hx hb dL_law_306 rfl (lv_at hl 1 rfl) ?_
    refine lv_iload hx hb dL_law_307 (lv_at hl 5 rfl) ?_
    refine zr_ic (n := ((1 : Nat) : Int)) hx hb dL_law_309 ?_
    refine zr_addN (x := 4 * k) (y := 1) hx hb dL_law_310 ?_
    refine zr_sld hx hb hX hsb hbA hS hL (j := 4 * k + 1) (by omega) dL_law_311 ?_
    rw [e1]
    refine zc_wi (As := [.int (iI z1)]) (rest := []) hF (r_leave_bad l D cI M MB MR ME MZ MT n b mr me mq mt th rc rwo rwy rpo mu z1 hn hz1 (by omega) hmu) (cwV 1 hts gL_law_X3_leave rfl rfl rfl (by decide +kernel) ⟨Nat.le_of_ble_eq_true rfl, Nat.le_of_ble_eq_true rfl⟩) hK hP hD hS [16, 17, 18, 19, 20, 21] (by decide) rfl (fun _ => rfl) 0 rfl 0 rfl rfl rfl rfl hl.1 rfl (Nat.le_of_ble_eq_true rfl) dL_law_312 ⟨(show cells + 1 ≤ 648565 by omega), (show slots + 6 ≤ 7150408 by omega)⟩ (fun r u9 H locs hw hP hD hS => ?_)
    obtain ⟨th2, rwo2, rwy2, rpo2, mu2, mr2, me2, mq2, mt2⟩ := u9
    obtain ⟨hr2, hth, hmu2⟩ := hw
    have hth : th2 = ((1 : Nat) : Int) := hth
    subst hth
    subst hr2
    have hP : va_P D vwCl (zXW h B C G GB GW GR TB TC TG TGB TGW TGR FR CH J cI cJ n b rc (bo, wo, ro, fr, sh, po, tn, tb, tbo, two, tro, ch, f) ++ zMW M MB MR ME MZ MT cI n b rc (((1 : Nat) : Int), rwo2, rwy2, rpo2, mu2, mr2, me2, mq2, mt2)) H := hP
    have hD : va_D (fun q => s.heap.size ≤ q) (zXW h B C G GB GW GR TB TC TG TGB TGW TGR FR CH J cI cJ n b rc (bo, wo, ro, fr, sh, po, tn, tb, tbo, two, tro, ch, f) ++ zMW M MB MR ME MZ MT cI n b rc (((1 : Nat) : Int), rwo2, rwy2, rpo2, mu2, mr2, me2, mq2, mt2)) := hD
    refine lv_istore (lv' := [(6, .int (iI 0)), (5, .int (iI ((1 : Nat) : Int))), (0, .ref sb), (1, .ref h), (2, .ref M), (3, .ref J), (4, .int (iI ((4 * k : Nat) : Int)))]) hx hb dL_law_315 hl (by decide) rfl (fun ls hl => ?_)
    refine lv_aload_n hx hb dL_law_317 rfl (lv_at hl 4 rfl) ?_
    refine zc_ri (As := []) (rest := []) hF (c_X3_thrown l D cI M MB MR ME MZ MT n b mr2 me2 mq2 mt2 ((1 : Nat) : Int) rc rwo2 rwy2 rpo2 (-1) (-1) (-1) mu2) (cwV 0 hts gL_law_X3_thrown rfl rfl rfl (by decide +kernel) ⟨Nat.le_of_ble_eq_true rfl, Nat.le_of_ble_eq_true rfl⟩) hK hP [16, 17, 18, 19, 20, 21] rfl 0 rfl 0 rfl rfl rfl rfl hl.1 rfl (Nat.le_of_ble_eq_true rfl) dL_law_318 ⟨(show cells + 1 ≤ 648565 by omega), (show slots + 6 ≤ 7150408 by omega)⟩ ?_
    refine lv_iload hx hb dL_law_321 (lv_at hl 1 rfl) ?_
    refine zr_icmp_eq (tgt := 328) hx hb dL_law_323 (by decide) (zB_nat (by decide)) (zB_nat (by decide)) (fun _ => ?_) (fun q => absurd rfl q)
    refine lv_iload hx hb dL_law_328 (lv_at hl 1 rfl) ?_
    refine zr_if_ne (tgt := 345) hx hb dL_law_330 (by decide) (zB_nat (by decide)) (fun _ => ?_) (fun q => absurd q (by decide))
    refine lv_goto (tgt := 955) hx hb dL_law_345 (by decide) ?_
    exact K n b rc (bo, wo, ro, fr, sh, po, tn, tb, tbo, two, tro, ch, f) (((1 : Nat) : Int), rwo2, rwy2, rpo2, mu2, mr2, me2, mq2, mt2) H locs ls ⟨hn, hb0, hrc, hset, hmu2, hK, hP, hD, hS, lv_sub hl [2, 3, 4, 5, 6] rfl⟩
