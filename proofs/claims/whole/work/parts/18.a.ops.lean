theorem z_toB (x : Int32) : zB x.toInt := ⟨by have := x.le_toInt; omega, by have := x.toInt_lt; omega⟩
set_option maxHeartbeats 8000000 in
set_option maxRecDepth 100000 in
theorem op_come {p : Program} {l : Launch} {e : Env} {s : State} {m : MethodId} {args : Array Value} {below : List Frame} {meth : Method} {c : Code} {H : Heap} {locs : List Loc} {cells slots : Nat} {Q : State → Prop} {ls : Array Slot} {sb L : Nat} {xs : Nat → Int32} {D : va_G} {cI cJ : ClassId} {h B C G GB GW GR TB TC TG TGB TGW TGR FR CH J M MB MR ME MZ MT : Nat} {k n : Nat} {b : Nat → Int} {rc : Int} {u : zVU} {v : zMU}
    (CC : zLC p l m c s args sb L xs) (I : zLI s D cI cJ sb h B C G GB GW GR TB TC TG TGB TGW TGR FR CH J M MB MR ME MZ MT k n b rc u v H locs ls) (hk : 4 * k + 3 < L) (hc : cells + 1 ≤ 648565) (hs : slots + 6 ≤ 7150408) (K : ∀ (n : Nat) (b : Nat → Int) (rc : Int) (u : zVU) (v : zMU) (H : Heap) (locs : List Loc) (ls : Array Slot), zLI s D cI cJ sb h B C G GB GW GR TB TC TG TGB TGW TGR FR CH J M MB MR ME MZ MT k n b rc u v H locs ls → W p l e room_1 s m args below meth c H locs (cells + 1) (slots + 6) Q (F0 m 955 ls [])) : W p l e room_1 s m args below meth c H locs cells slots Q (F0 m 112 ls []) := by
  obtain ⟨hfl, hF, hX, hsb, hL, hXL⟩ := CC
  obtain ⟨hx, hb, hml, hown, hts⟩ := id hF
  obtain ⟨bo, wo, ro, fr, sh, po, tn, tb, tbo, two, tro, ch, f⟩ := u
  obtain ⟨th, rwo, rwy, rpo, mu, mr, me, mq, mt⟩ := v
  obtain ⟨hn, hb0, hrc, hset, hmu, hK, hP, hD, hS, hl⟩ := I
  have hset : zSet n b rc bo wo ro fr sh po := hset
  have hmu : 0 ≤ mu ∧ mu ≤ 1 := hmu
  have hA : ∀ q, s.heap.size ≤ q → (fun q => s.heap.size ≤ q) q := fun _ h => h
  have hbA : ¬ (fun q => s.heap.size ≤ q) sb := Nat.not_le.mpr hsb
  have hE := hset.2.1
  by_cases hv0 : n < 6
  · refine lv_aload_n hx hb dL_law_112 rfl (lv_at hl 1 rfl) ?_
    refine lv_aload_n hx hb dL_law_113 rfl (lv_at hl 3 rfl) ?_
    refine zc_Ls (As := [.ref h, .ref J]) (rest := []) hF (c_L_come l D cI h B C G GB GW GR TB TC TG TGB TGW TGR FR CH J cJ n b rc bo wo ro fr sh po tn tb tbo two tro ch f  hn hb0 hrc hset hv0) (vx_cwSW 2 hts gL_law_L_come rfl rfl rfl (by decide +kernel) ⟨Nat.le_of_ble_eq_true rfl, Nat.le_of_ble_eq_true rfl⟩) hK hP hD hS [0, 1, 2, 3, 4, 5, 6, 7, 8, 9, 10, 11, 12, 13, 14, 15] (by decide) rfl (fun _ => rfl) rfl hl.1 rfl (Nat.le_of_ble_eq_true rfl) dL_law_114 ⟨(show cells ≤ 648565 by omega), (show slots ≤ 7150408 by omega)⟩ (fun r u9 H locs hw hP hD hS => ?_)
    obtain ⟨bo2, wo2, ro2, fr2, sh2, po2, tn2, tb2, tbo2, two2, tro2, ch2, f2⟩ := u9
    obtain ⟨hr1, hset2, hV⟩ := hw
    subst hr1
    have hP : va_P D vwCl (zXW h B C G GB GW GR TB TC TG TGB TGW TGR FR CH J cI cJ (n + 1) (zGr b n (n + 1)) rc (bo2, wo2, ro2, fr2, sh2, po2, tn2, tb2, tbo2, two2, tro2, ch2, f2) ++ zMW M MB MR ME MZ MT cI n b rc (th, rwo, rwy, rpo, mu, mr, me, mq, mt)) H := hP
    have hD : va_D (fun q => s.heap.size ≤ q) (zXW h B C G GB GW GR TB TC TG TGB TGW TGR FR CH J cI cJ (n + 1) (zGr b n (n + 1)) rc (bo2, wo2, ro2, fr2, sh2, po2, tn2, tb2, tbo2, two2, tro2, ch2, f2) ++ zMW M MB MR ME MZ MT cI n b rc (th, rwo, rwy, rpo, mu, mr, me, mq, mt)) := hD
    have hV : f2 0 = (iI (((n : Nat) : Int))).toInt64 := hV
    refine lv_istore (lv' := [(5, .int (iI 0)), (0, .ref sb), (1, .ref h), (2, .ref M), (3, .ref J), (4, .int (iI ((4 * k : Nat) : Int)))]) hx hb dL_law_117 hl (by decide) rfl (fun ls hl => ?_)
    refine lv_aload_n hx hb dL_law_119 rfl (lv_at hl 3 rfl) ?_
    refine zc_wi (As := []) (rest := []) hF (r_come_ok l D cI M MB MR ME MZ MT n b mr me mq mt th rc rwo rwy rpo mu hn hb0 hrc hmu (by omega)) (cwV 0 hts gL_law_X3_come rfl rfl rfl (by decide +kernel) ⟨Nat.le_of_ble_eq_true rfl, Nat.le_of_ble_eq_true rfl⟩) hK hP hD hS [16, 17, 18, 19, 20, 21] (by decide) rfl (fun _ => rfl) 0 rfl 0 rfl rfl rfl rfl hl.1 rfl (Nat.le_of_ble_eq_true rfl) dL_law_120 ⟨(show cells ≤ 648565 by omega), (show slots ≤ 7150408 by omega)⟩ (fun r u9 H locs hw hP hD hS => ?_)
    obtain ⟨th2, rwo2, rwy2, rpo2, mu2, mr2, me2, mq2, mt2⟩ := u9
    obtain ⟨hr2, hth, hmu2⟩ := hw
    have hth : th2 = ((0 : Nat) : Int) := hth
    subst hth
    subst hr2
    have hP : va_P D vwCl (zXW h B C G GB GW GR TB TC TG TGB TGW TGR FR CH J cI cJ (n + 1) (zGr b n (n + 1)) rc (bo2, wo2, ro2, fr2, sh2, po2, tn2, tb2, tbo2, two2, tro2, ch2, f2) ++ zMW M MB MR ME MZ MT cI (n + 1) (zGr b n (n + 1)) rc (((0 : Nat) : Int), rwo2, rwy2, rpo2, mu2, mr2, me2, mq2, mt2)) H := hP
    have hD : va_D (fun q => s.heap.size ≤ q) (zXW h B C G GB GW GR TB TC TG TGB TGW TGR FR CH J cI cJ (n + 1) (zGr b n (n + 1)) rc (bo2, wo2, ro2, fr2, sh2, po2, tn2, tb2, tbo2, two2, tro2, ch2, f2) ++ zMW M MB MR ME MZ MT cI (n + 1) (zGr b n (n + 1)) rc (((0 : Nat) : Int), rwo2, rwy2, rpo2, mu2, mr2, me2, mq2, mt2)) := hD
    refine lv_istore (lv' := [(6, .int (iI (((n : Nat) : Int)))), (5, .int (iI 0)), (0, .ref sb), (1, .ref h), (2, .ref M), (3, .ref J), (4, .int (iI ((4 * k : Nat) : Int)))]) hx hb dL_law_123 hl (by decide) rfl (fun ls hl => ?_)
    refine lv_aload_n hx hb dL_law_125 rfl (lv_at hl 4 rfl) ?_
    refine zc_ri (As := []) (rest := []) hF (c_X3_thrown l D cI M MB MR ME MZ MT (n + 1) (zGr b n (n + 1)) mr2 me2 mq2 mt2 ((0 : Nat) : Int) rc rwo2 rwy2 rpo2 (-1) (-1) (-1) mu2) (cwV 0 hts gL_law_X3_thrown rfl rfl rfl (by decide +kernel) ⟨Nat.le_of_ble_eq_true rfl, Nat.le_of_ble_eq_true rfl⟩) hK hP [16, 17, 18, 19, 20, 21] rfl 0 rfl 0 rfl rfl rfl rfl hl.1 rfl (Nat.le_of_ble_eq_true rfl) dL_law_126 ⟨(show cells ≤ 648565 by omega), (show slots ≤ 7150408 by omega)⟩ ?_
    refine lv_iload hx hb dL_law_129 (lv_at hl 1 rfl) ?_
    refine zr_icmp_eq (tgt := 136) hx hb dL_law_131 (by decide) (zB_nat (by decide)) zB_0 (fun _ => ?_) (fun q => absurd rfl q)
    refine lv_iload hx hb dL_law_136 (lv_at hl 1 rfl) ?_
    refine zr_if_ne (tgt := 153) hx hb dL_law_138 (by decide) zB_0 (fun q => absurd rfl q) (fun _ => ?_)
    refine lv_aload_n hx hb dL_law_141 rfl (lv_at hl 5 rfl) ?_
    refine zr_ic (n := ((0 : Nat) : Int)) hx hb dL_law_142 ?_
    refine zr_lald0 hx hb hK hP 15 rfl dL_law_143 ?_
    refine lv_iload hx hb dL_law_144 (lv_at hl 0 rfl) ?_
    refine lv_i2l hx hb dL_law_146 rfl ?_
    refine zr_lcmpE (tgt := 153) hx hb hV dL_law_147 dL_law_148 (by decide) ?_
    refine lv_goto (tgt := 955) hx hb dL_law_153 (by decide) ?_
    refine W.widen (k := cells + 1) (n := slots + 6) (by omega) (by omega) ?_
    exact K (n + 1) (zGr b n (n + 1)) rc (bo2, wo2, ro2, fr2, sh2, po2, tn2, tb2, tbo2, two2, tro2, ch2, f2) (((0 : Nat) : Int), rwo2, rwy2, rpo2, mu2, mr2, me2, mq2, mt2) H locs ls ⟨(by omega), (zGr_b hb0 n (n + 1)), hrc, hset2, hmu2, hK, hP, hD, hS, lv_sub hl [2, 3, 4, 5, 6] rfl⟩
  · refine lv_aload_n hx hb dL_law_112 rfl (lv_at hl 1 rfl) ?_
    refine lv_aload_n hx hb dL_law_113 rfl (lv_at hl 3 rfl) ?_
    refine zc_Lx (As := [.ref h, .ref J]) (rest := []) hF (f_L_come l hfl D cI h B C G GB GW GR TB TC TG TGB TGW TGR FR CH J cJ n b rc bo wo ro fr sh po tn tb tbo two tro ch f  hn hb0 (by omega)) (vx_cwSW 2 hts gL_law_L_come rfl rfl rfl (by decide +kernel) ⟨Nat.le_of_ble_eq_true rfl, Nat.le_of_ble_eq_true rfl⟩) (fun U h1 h2 => zXL_at (fun _ h => h) (fun _ h => h) hXL hS h2 h1) hK hP hD hS hA [0, 1, 2, 3, 4, 5, 6, 7, 8, 9, 10, 11, 12, 13, 14, 15] rfl rfl hl.1 rfl (Nat.le_of_ble_eq_true rfl) dL_law_114 ⟨(show cells + 1 ≤ 648565 by omega), (show slots + 6 ≤ 7150408 by omega)⟩ (fun H locs hP hS => ?_)
    have hP : va_P D vwCl (zXW h B C G GB GW GR TB TC TG TGB TGW TGR FR CH J cI cJ n b rc (bo, wo, ro, fr, sh, po, tn, tb, tbo, two, tro, ch, f) ++ zMW M MB MR ME MZ MT cI n b rc (th, rwo, rwy, rpo, mu, mr, me, mq, mt)) H := hP
    refine lv_istore (lv' := [(5, .int (iI ((1 : Nat) : Int))), (0, .ref sb), (1, .ref h), (2, .ref M), (3, .ref J), (4, .int (iI ((4 * k : Nat) : Int)))]) hx hb dL_law_117 hl (by decide) rfl (fun ls hl => ?_)
    refine lv_aload_n hx hb dL_law_119 rfl (lv_at hl 3 rfl) ?_
    refine zc_wi (As := []) (rest := []) hF (r_come_full l D cI M MB MR ME MZ MT n b mr me mq mt th rc rwo rwy rpo mu hn (by omega) hmu) (cwV 0 hts gL_law_X3_come rfl rfl rfl (by decide +kernel) ⟨Nat.le_of_ble_eq_true rfl, Nat.le_of_ble_eq_true rfl⟩) hK hP hD hS [16, 17, 18, 19, 20, 21] (by decide) rfl (fun _ => rfl) 0 rfl 0 rfl rfl rfl rfl hl.1 rfl (Nat.le_of_ble_eq_true rfl) dL_law_120 ⟨(show cells + 1 ≤ 648565 by omega), (show slots + 6 ≤ 7150408 by omega)⟩ (fun r u9 H locs hw hP hD hS => ?_)
    obtain ⟨th2, rwo2, rwy2, rpo2, mu2, mr2, me2, mq2, mt2⟩ := u9
    obtain ⟨hr2, hth, hmu2⟩ := hw
    have hth : th2 = ((1 : Nat) : Int) := hth
    subst hth
    subst hr2
    have hP : va_P D vwCl (zXW h B C G GB GW GR TB TC TG TGB TGW TGR FR CH J cI cJ n b rc (bo, wo, ro, fr, sh, po, tn, tb, tbo, two, tro, ch, f) ++ zMW M MB MR ME MZ MT cI n b rc (((1 : Nat) : Int), rwo2, rwy2, rpo2, mu2, mr2, me2, mq2, mt2)) H := hP
    have hD : va_D (fun q => s.heap.size ≤ q) (zXW h B C G GB GW GR TB TC TG TGB TGW TGR FR CH J cI cJ n b rc (bo, wo, ro, fr, sh, po, tn, tb, tbo, two, tro, ch, f) ++ zMW M MB MR ME MZ MT cI n b rc (((1 : Nat) : Int), rwo2, rwy2, rpo2, mu2, mr2, me2, mq2, mt2)) := hD
    refine lv_istore (lv' := [(6, .int (iI 0)), (5, .int (iI ((1 : Nat) : Int))), (0, .ref sb), (1, .ref h), (2, .ref M), (3, .ref J), (4, .int (iI ((4 * k : Nat) : Int)))]) hx hb dL_law_123 hl (by decide) rfl (fun ls hl => ?_)
    refine lv_aload_n hx hb dL_law_125 rfl (lv_at hl 4 rfl) ?_
    refine zc_ri (As := []) (rest := []) hF (c_X3_thrown l D cI M MB MR ME MZ MT n b mr2 me2 mq2 mt2 ((1 : Nat) : Int) rc rwo2 rwy2 rpo2 (-1) (-1) (-1) mu2) (cwV 0 hts gL_law_X3_thrown rfl rfl rfl (by decide +kernel) ⟨Nat.le_of_ble_eq_true rfl, Nat.le_of_ble_eq_true rfl⟩) hK hP [16, 17, 18, 19, 20, 21] rfl 0 rfl 0 rfl rfl rfl rfl hl.1 rfl (Nat.le_of_ble_eq_true rfl) dL_law_126 ⟨(show cells + 1 ≤ 648565 by omega), (show slots + 6 ≤ 7150408 by omega)⟩ ?_
    refine lv_iload hx hb dL_law_129 (lv_at hl 1 rfl) ?_
    refine zr_icmp_eq (tgt := 136) hx hb dL_law_131 (by decide) (zB_nat (by decide)) (zB_nat (by decide)) (fun _ => ?_) (fun q => absurd rfl q)
    refine lv_iload hx hb dL_law_136 (lv_at hl 1 rfl) ?_
    refine zr_if_ne (tgt := 153) hx hb dL_law_138 (by decide) (zB_nat (by decide)) (fun _ => ?_) (fun q => absurd q (by decide))
    refine lv_goto (tgt := 955) hx hb dL_law_153 (by decide) ?_
    exact K n b rc (bo, wo, ro, fr, sh, po, tn, tb, tbo, two, tro, ch, f) (((1 : Nat) : Int), rwo2, rwy2, rpo2, mu2, mr2, me2, mq2, mt2) H locs ls ⟨hn, hb0, hrc, hset, hmu2, hK, hP, hD, hS, lv_sub hl [2, 3, 4, 5, 6] rfl⟩
set_option maxHeartbeats 8000000 in
set_option maxRecDepth 100000 in
theorem op_told {p : Program} {l : Launch} {e : Env} {s : State} {m : MethodId} {args : Array Value} {below : List Frame} {meth : Method} {c : Code} {H : Heap} {locs : List Loc} {cells slots : Nat} {Q : State → Prop} {ls : Array Slot} {sb L : Nat} {xs : Nat → Int32} {D : va_G} {cI cJ : ClassId} {h B C G GB GW GR TB TC TG TGB TGW TGR FR CH J M MB MR ME MZ MT : Nat} {k n : Nat} {b : Nat → Int} {rc : Int} {u : zVU} {v : zMU}
    (CC : zLC p l m c s args sb L xs) (I : zLI s D cI cJ sb h B C G GB GW GR TB TC TG TGB TGW TGR FR CH J M MB MR ME MZ MT k n b rc u v H locs ls) (hk : 4 * k + 3 < L) (hc : cells + 1 ≤ 648565) (hs : slots + 6 ≤ 7150408) (K : ∀ (n : Nat) (b : Nat → Int) (rc : Int) (u : zVU) (v : zMU) (H : Heap) (locs : List Loc) (ls : Array Slot), zLI s D cI cJ sb h B C G GB GW GR TB TC TG TGB TGW TGR FR CH J M MB MR ME MZ MT k n b rc u v H locs ls → W p l e room_1 s m args below meth c H locs (cells + 1) (slots + 6) Q (F0 m 955 ls [])) : W p l e room_1 s m args below meth c H locs cells slots Q (F0 m 348 ls []) := by
  obtain ⟨hfl, hF, hX, hsb, hL, hXL⟩ := CC
  obtain ⟨hx, hb, hml, hown, hts⟩ := id hF
  obtain ⟨bo, wo, ro, fr, sh, po, tn, tb, tbo, two, tro, ch, f⟩ := u
  obtain ⟨th, rwo, rwy, rpo, mu, mr, me, mq, mt⟩ := v
  obtain ⟨hn, hb0, hrc, hset, hmu, hK, hP, hD, hS, hl⟩ := I
  have hset : zSet n b rc bo wo ro fr sh po := hset
  have hmu : 0 ≤ mu ∧ mu ≤ 1 := hmu
  have hA : ∀ q, s.heap.size ≤ q → (fun q => s.heap.size ≤ q) q := fun _ h => h
  have hbA : ¬ (fun q => s.heap.size ≤ q) sb := Nat.not_le.mpr hsb
  have hE := hset.2.1
  obtain ⟨z1, hz1, e1⟩ : ∃ z : Int, zB z ∧ (xs (4 * k + 1)).toInt = z := ⟨_, z_toB _, rfl⟩
  obtain ⟨z2, hz2, e2⟩ : ∃ z : Int, zB z ∧ (xs (4 * k + 2)).toInt = z := ⟨_, z_toB _, rfl⟩
  have hz1a := hz1.1
  have hz1b := hz1.2
  have hz2a := hz2.1
  have hz2b := hz2.2
  by_cases hv0 : (0 ≤ z1 ∧ z1 < (n : Int)) ∧ 0 ≤ z2 ∧ z2 < 6
  · obtain ⟨x, rfl⟩ : ∃ q : Nat, z1 = (q : Int) := ⟨z1.toNat, by omega⟩
    obtain ⟨w, rfl⟩ : ∃ q : Nat, z2 = (q : Int) := ⟨z2.toNat, by omega⟩
    refine lv_aload_n hx hb dL_law_348 rfl (lv_at hl 1 rfl) ?_
    refine lv_aload_n hx hb dL_law_349 rfl (lv_at hl 0 rfl) ?_
    refine lv_iload hx hb dL_law_350 (lv_at hl 4 rfl) ?_
    refine zr_ic (n := ((1 : Nat) : Int)) hx hb dL_law_352 ?_
    refine zr_addN (x := 4 * k) (y := 1) hx hb dL_law_353 ?_
    refine zr_sld hx hb hX hsb hbA hS hL (j := 4 * k + 1) (by omega) dL_law_354 ?_
    rw [e1]
    refine lv_aload_n hx hb dL_law_355 rfl (lv_at hl 0 rfl) ?_
    refine lv_iload hx hb dL_law_356 (lv_at hl 4 rfl) ?_
    refine zr_ic (n := ((2 : Nat) : Int)) hx hb dL_law_358 ?_
    refine zr_addN (x := 4 * k) (y := 2) hx hb dL_law_359 ?_
    refine zr_sld hx hb hX hsb hbA hS hL (j := 4 * k + 2) (by omega) dL_law_360 ?_
    rw [e2]
    refine lv_aload_n hx hb dL_law_361 rfl (lv_at hl 3 rfl) ?_
    refine zc_Ls (As := [.ref h, .int (iI ((x : Nat) : Int)), .int (iI ((w : Nat) : Int)), .ref J]) (rest := []) hF (c_L_told l D cI h B C G GB GW GR TB TC TG TGB TGW TGR FR CH J cJ n b rc bo wo ro fr sh po tn tb tbo two tro ch f x w hn hb0 hrc hset (by omega) (by omega)) (vx_cwSW 4 hts gL_law_L_told rfl rfl rfl (by decide +kernel) ⟨Nat.le_of_ble_eq_true rfl, Nat.le_of_ble_eq_true rfl⟩) hK hP hD hS [0, 1, 2, 3, 4, 5, 6, 7, 8, 9, 10, 11, 12, 13, 14, 15] (by decide) rfl (fun _ => rfl) rfl hl.1 rfl (Nat.le_of_ble_eq_true rfl) dL_law_362 ⟨(show cells ≤ 648565 by omega), (show slots ≤ 7150408 by omega)⟩ (fun r u9 H locs hw hP hD hS => ?_)
    obtain ⟨bo2, wo2, ro2, fr2, sh2, po2, tn2, tb2, tbo2, two2, tro2, ch2, f2⟩ := u9
    obtain ⟨hr1, hset2, hV⟩ := hw
    subst hr1
    have hP : va_P D vwCl (zXW h B C G GB GW GR TB TC TG TGB TGW TGR FR CH J cI cJ n b rc (bo2, wo2, ro2, fr2, sh2, po2, tn2, tb2, tbo2, two2, tro2, ch2, f2) ++ zMW M MB MR ME MZ MT cI n b rc (th, rwo, rwy, rpo, mu, mr, me, mq, mt)) H := hP
    have hD : va_D (fun q => s.heap.size ≤ q) (zXW h B C G GB GW GR TB TC TG TGB TGW TGR FR CH J cI cJ n b rc (bo2, wo2, ro2, fr2, sh2, po2, tn2, tb2, tbo2, two2, tro2, ch2, f2) ++ zMW M MB MR ME MZ MT cI n b rc (th, rwo, rwy, rpo, mu, mr, me, mq, mt)) := hD
    have hV : f2 0 = (iI (zFa n b rc fr x w)).toInt64 := hV
    refine lv_istore (lv' := [(5, .int (iI 0)), (0, .ref sb), (1, .ref h), (2, .ref M), (3, .ref J), (4, .int (iI ((4 * k : Nat) : Int)))]) hx hb dL_law_365 hl (by decide) rfl (fun ls hl => ?_)
    refine lv_aload_n hx hb dL_law_367 rfl (lv_at hl 3 rfl) ?_
    refine lv_aload_n hx hb dL_law_368 rfl (lv_at hl 1 rfl) ?_
    refine lv_iload hx hb dL_law_369 (lv_at hl 5 rfl) ?_
    refine zr_ic (n := ((1 : Nat) : Int)) hx hb dL_law_371 ?_
    refine zr_addN (x := 4 * k) (y := 1) hx hb dL_law_372 ?_
    refine zr_sld hx hb hX hsb hbA hS hL (j := 4 * k + 1) (by omega) dL_law_373 ?_
    rw [e1]
    refine lv_aload_n hx hb dL_law_374 rfl (lv_at hl 1 rfl) ?_
    refine lv_iload hx hb dL_law_375 (lv_at hl 5 rfl) ?_
    refine zr_ic (n := ((2 : Nat) : Int)) hx hb dL_law_377 ?_
    refine zr_addN (x := 4 * k) (y := 2) hx hb dL_law_378 ?_
    refine zr_sld hx hb hX hsb hbA hS hL (j := 4 * k + 2) (by omega) dL_law_379 ?_
    rw [e2]
    refine zc_wi (As := [.int (iI ((x : Nat) : Int)), .int (iI ((w : Nat) : Int))]) (rest := []) hF (r_told_ok l D cI M MB MR ME MZ MT n b mr me mq mt th rc rwo rwy rpo mu x w fr hn hb0 hrc hmu (by omega) (by omega) hE) (cwV 2 hts gL_law_X3_told rfl rfl rfl (by decide +kernel) ⟨Nat.le_of_ble_eq_true rfl, Nat.le_of_ble_eq_true rfl⟩) hK hP hD hS [16, 17, 18, 19, 20, 21] (by decide) rfl (fun _ => rfl) 0 rfl 0 rfl rfl rfl rfl hl.1 rfl (Nat.le_of_ble_eq_true rfl) dL_law_380 ⟨(show cells ≤ 648565 by omega), (show slots ≤ 7150408 by omega)⟩ (fun r u9 H locs hw hP hD hS => ?_)
    obtain ⟨th2, rwo2, rwy2, rpo2, mu2, mr2, me2, mq2, mt2⟩ := u9
    obtain ⟨hr2, hth, hmu2⟩ := hw
    have hth : th2 = ((0 : Nat) : Int) := hth
    subst hth
    subst hr2
    have hP : va_P D vwCl (zXW h B C G GB GW GR TB TC TG TGB TGW TGR FR CH J cI cJ n b rc (bo2, wo2, ro2, fr2, sh2, po2, tn2, tb2, tbo2, two2, tro2, ch2, f2) ++ zMW M MB MR ME MZ MT cI n b rc (((0 : Nat) : Int), rwo2, rwy2, rpo2, mu2, mr2, me2, mq2, mt2)) H := hP
    have hD : va_D (fun q => s.heap.size ≤ q) (zXW h B C G GB GW GR TB TC TG TGB TGW TGR FR CH J cI cJ n b rc (bo2, wo2, ro2, fr2, sh2, po2, tn2, tb2, tbo2, two2, tro2, ch2, f2) ++ zMW M MB MR ME MZ MT cI n b rc (((0 : Nat) : Int), rwo2, rwy2, rpo2, mu2, mr2, me2, mq2, mt2)) := hD
    refine lv_istore (lv' := [(6, .int (iI (zFa n b rc fr x w))), (5, .int (iI 0)), (0, .ref sb), (1, .ref h), (2, .ref M), (3, .ref J), (4, .int (iI ((4 * k : Nat) : Int)))]) hx hb dL_law_383 hl (by decide) rfl (fun ls hl => ?_)
    refine lv_aload_n hx hb dL_law_385 rfl (lv_at hl 4 rfl) ?_
    refine zc_ri (As := []) (rest := []) hF (c_X3_thrown l D cI M MB MR ME MZ MT n b mr2 me2 mq2 mt2 ((0 : Nat) : Int) rc rwo2 rwy2 rpo2 (-1) (-1) (-1) mu2) (cwV 0 hts gL_law_X3_thrown rfl rfl rfl (by decide +kernel) ⟨Nat.le_of_ble_eq_true rfl, Nat.le_of_ble_eq_true rfl⟩) hK hP [16, 17, 18, 19, 20, 21] rfl 0 rfl 0 rfl rfl rfl rfl hl.1 rfl (Nat.le_of_ble_eq_true rfl) dL_law_386 ⟨(show cells ≤ 648565 by omega), (show slots ≤ 7150408 by omega)⟩ ?_
    refine lv_iload hx hb dL_law_389 (lv_at hl 1 rfl) ?_
    refine zr_icmp_eq (tgt := 396) hx hb dL_law_391 (by decide) (zB_nat (by decide)) zB_0 (fun _ => ?_) (fun q => absurd rfl q)
    refine lv_iload hx hb dL_law_396 (lv_at hl 1 rfl) ?_
    refine zr_if_ne (tgt := 413) hx hb dL_law_398 (by decide) zB_0 (fun q => absurd rfl q) (fun _ => ?_)
    refine lv_aload_n hx hb dL_law_401 rfl (lv_at hl 5 rfl) ?_
    refine zr_ic (n := ((0 : Nat) : Int)) hx hb dL_law_402 ?_
    refine zr_lald0 hx hb hK hP 15 rfl dL_law_403 ?_
    refine lv_iload hx hb dL_law_404 (lv_at hl 0 rfl) ?_
    refine lv_i2l hx hb dL_law_406 rfl ?_
    refine zr_lcmpE (tgt := 413) hx hb hV dL_law_407 dL_law_408 (by decide) ?_
    refine lv_goto (tgt := 955) hx hb dL_law_413 (by decide) ?_
    refine W.widen (k := cells + 1) (n := slots + 6) (by omega) (by omega) ?_
    exact K n b rc (bo2, wo2, ro2, fr2, sh2, po2, tn2, tb2, tbo2, two2, tro2, ch2, f2) (((0 : Nat) : Int), rwo2, rwy2, rpo2, mu2, mr2, me2, mq2, mt2) H locs ls ⟨hn, hb0, hrc, hset2, hmu2, hK, hP, hD, hS, lv_sub hl [2, 3, 4, 5, 6] rfl⟩
  · refine lv_aload_n hx hb dL_law_348 rfl (lv_at hl 1 rfl) ?_
    refine lv_aload_n hx hb dL_law_349 rfl (lv_at hl 0 rfl) ?_
    refine lv_iload hx hb dL_law_350 (lv_at hl 4 rfl) ?_
    refine zr_ic (n := ((1 : Nat) : Int)) hx hb dL_law_352 ?_
    refine zr_addN (x := 4 * k) (y := 1) hx hb dL_law_353 ?_
    refine zr_sld hx hb hX hsb hbA hS hL (j := 4 * k + 1) (by omega) dL_law_354 ?_
    rw [e1]
    refine lv_aload_n hx hb dL_law_355 rfl (lv_at hl 0 rfl) ?_
    refine lv_iload hx hb dL_law_356 (lv_at hl 4 rfl) ?_
    refine zr_ic (n := ((2 : Nat) : Int)) hx hb dL_law_358 ?_
    refine zr_addN (x := 4 * k) (y := 2) hx hb dL_law_359 ?_
    refine zr_sld hx hb hX hsb hbA hS hL (j := 4 * k + 2) (by omega) dL_law_360 ?_
    rw [e2]
    refine lv_aload_n hx hb dL_law_361 rfl (lv_at hl 3 rfl) ?_
    refine zc_Lx (As := [.ref h, .int (iI z1), .int (iI z2), .ref J]) (rest := []) hF (f_L_told l hfl D cI h B C G GB GW GR TB TC TG TGB TGW TGR FR CH J cJ n b rc bo wo ro fr sh po tn tb tbo two tro ch f z1 z2 hn hb0 hz1 hz2 (by omega)) (vx_cwSW 4 hts gL_law_L_told rfl rfl rfl (by decide +kernel) ⟨Nat.le_of_ble_eq_true rfl, Nat.le_of_ble_eq_true rfl⟩) (fun U h1 h2 => zXL_at (fun _ h => h) (fun _ h => h) hXL hS h2 h1) hK hP hD hS hA [0, 1, 2, 3, 4, 5, 6, 7, 8, 9, 10, 11, 12, 13, 14, 15] rfl rfl hl.1 rfl (Nat.le_of_ble_eq_true rfl) dL_law_362 ⟨(show cells + 1 ≤ 648565 by omega), (show slots + 6 ≤ 7150408 by omega)⟩ (fun H locs hP hS => ?_)
    have hP : va_P D vwCl (zXW h B C G GB GW GR TB TC TG TGB TGW TGR FR CH J cI cJ n b rc (bo, wo, ro, fr, sh, po, tn, tb, tbo, two, tro, ch, f) ++ zMW M MB MR ME MZ MT cI n b rc (th, rwo, rwy, rpo, mu, mr, me, mq, mt)) H := hP
    refine lv_istore (lv' := [(5, .int (iI ((1 : Nat) : Int))), (0, .ref sb), (1, .ref h), (2, .ref M), (3, .ref J), (4, .int (iI ((4 * k : Nat) : Int)))]) hx hb dL_law_365 hl (by decide) rfl (fun ls hl => ?_)
    refine lv_aload_n hx hb dL_law_367 rfl (lv_at hl 3 rfl) ?_
    refine lv_aload_n hx hb dL_law_368 rfl (lv_at hl 1 rfl) ?_
    refine lv_iload hx hb dL_law_369 (lv_at hl 5 rfl) ?_
    refine zr_ic (n := ((1 : Nat) : Int)) hx hb dL_law_371 ?_
    refine zr_addN (x := 4 * k) (y := 1) hx hb dL_law_372 ?_
    refine zr_sld hx hb hX hsb hbA hS hL (j := 4 * k + 1) (by omega) dL_law_373 ?_
    rw [e1]
    refine lv_aload_n hx hb dL_law_374 rfl (lv_at hl 1 rfl) ?_
    refine lv_iload hx hb dL_law_375 (lv_at hl 5 rfl) ?_
    refine zr_ic (n := ((2 : Nat) : Int)) hx hb dL_law_377 ?_
    refine zr_addN (x := 4 * k) (y := 2) hx hb dL_law_378 ?_
    refine zr_sld hx hb hX hsb hbA hS hL (j := 4 * k + 2) (by omega) dL_law_379 ?_
    rw [e2]
    refine zc_wi (As := [.int (iI z1), .int (iI z2)]) (rest := []) hF (r_told_bad l D cI M MB MR ME MZ MT n b mr me mq mt th rc rwo rwy rpo mu z1 z2 hn hz1 hz2 (by omega) hmu) (cwV 2 hts gL_law_X3_told rfl rfl rfl (by decide +kernel) ⟨Nat.le_of_ble_eq_true rfl, Nat.le_of_ble_eq_true rfl⟩) hK hP hD hS [16, 17, 18, 19, 20, 21] (by decide) rfl (fun _ => rfl) 0 rfl 0 rfl rfl rfl rfl hl.1 rfl (Nat.le_of_ble_eq_true rfl) dL_law_380 ⟨(show cells + 1 ≤ 648565 by omega), (show slots + 6 ≤ 7150408 by omega)⟩ (fun r u9 H locs hw hP hD hS => ?_)
    obtain ⟨th2, rwo2, rwy2, rpo2, mu2, mr2, me2, mq2, mt2⟩ := u9
    obtain ⟨hr2, hth, hmu2⟩ := hw
    have hth : th2 = ((1 : Nat) : Int) := hth
    subst hth
    subst hr2
    have hP : va_P D vwCl (zXW h B C G GB GW GR TB TC TG TGB TGW TGR FR CH J cI cJ n b rc (bo, wo, ro, fr, sh, po, tn, tb, tbo, two, tro, ch, f) ++ zMW M MB MR ME MZ MT cI n b rc (((1 : Nat) : Int), rwo2, rwy2, rpo2, mu2, mr2, me2, mq2, mt2)) H := hP
    have hD : va_D (fun q => s.heap.size ≤ q) (zXW h B C G GB GW GR TB TC TG TGB TGW TGR FR CH J cI cJ n b rc (bo, wo, ro, fr, sh, po, tn, tb, tbo, two, tro, ch, f) ++ zMW M MB MR ME MZ MT cI n b rc (((1 : Nat) : Int), rwo2, rwy2, rpo2, mu2, mr2, me2, mq2, mt2)) := hD
    refine lv_istore (lv' := [(6, .int (iI 0)), (5, .int (iI ((1 : Nat) : Int))), (0, .ref sb), (1, .ref h), (2, .ref M), (3, .ref J), (4, .int (iI ((4 * k : Nat) : Int)))]) hx hb dL_law_383 hl (by decide) rfl (fun ls hl => ?_)
    refine lv_aload_n hx hb dL_law_385 rfl (lv_at hl 4 rfl) ?_
    refine zc_ri (As := []) (rest := []) hF (c_X3_thrown l D cI M MB MR ME MZ MT n b mr2 me2 mq2 mt2 ((1 : Nat) : Int) rc rwo2 rwy2 rpo2 (-1) (-1) (-1) mu2) (cwV 0 hts gL_law_X3_thrown rfl rfl rfl (by decide +kernel) ⟨Nat.le_of_ble_eq_true rfl, Nat.le_of_ble_eq_true rfl⟩) hK hP [16, 17, 18, 19, 20, 21] rfl 0 rfl 0 rfl rfl rfl rfl hl.1 rfl (Nat.le_of_ble_eq_true rfl) dL_law_386 ⟨(show cells + 1 ≤ 648565 by omega), (show slots + 6 ≤ 7150408 by omega)⟩ ?_
    refine lv_iload hx hb dL_law_389 (lv_at hl 1 rfl) ?_
    refine zr_icmp_eq (tgt := 396) hx hb dL_law_391 (by decide) (zB_nat (by decide)) (zB_nat (by decide)) (fun _ => ?_) (fun q => absurd rfl q)
    refine lv_iload hx hb dL_law_396 (lv_at hl 1 rfl) ?_
    refine zr_if_ne (tgt := 413) hx hb dL_law_398 (by decide) (zB_nat (by decide)) (fun _ => ?_) (fun q => absurd q (by decide))
    refine lv_goto (tgt := 955) hx hb dL_law_413 (by decide) ?_
    exact K n b rc (bo, wo, ro, fr, sh, po, tn, tb, tbo, two, tro, ch, f) (((1 : Nat) : Int), rwo2, rwy2, rpo2, mu2, mr2, me2, mq2, mt2) H locs ls ⟨hn, hb0, hrc, hset, hmu2, hK, hP, hD, hS, lv_sub hl [2, 3, 4, 5, 6] rfl⟩
set_option maxHeartbeats 8000000 in
set_option maxRecDepth 100000 in
theorem op_offer {p : Program} {l : Launch} {e : Env} {s : State} {m : MethodId} {args : Array Value} {below : List Frame} {meth : Method} {c : Code} {H : Heap} {locs : List Loc} {cells slots : Nat} {Q : State → Prop} {ls : Array Slot} {sb L : Nat} {xs : Nat → Int32} {D : va_G} {cI cJ : ClassId} {h B C G GB GW GR TB TC TG TGB TGW TGR FR CH J M MB MR ME MZ MT : Nat} {k n : Nat} {b : Nat → Int} {rc : Int} {u : zVU} {v : zMU}
    (CC : zLC p l m c s args sb L xs) (I : zLI s D cI cJ sb h B C G GB GW GR TB TC TG TGB TGW TGR FR CH J M MB MR ME MZ MT k n b rc u v H locs ls) (hk : 4 * k + 3 < L) (hc : cells + 1 ≤ 648565) (hs : slots + 6 ≤ 7150408) (K : ∀ (n : Nat) (b : Nat → Int) (rc : Int) (u : zVU) (v : zMU) (H : Heap) (locs : List Loc) (ls : Array Slot), zLI s D cI cJ sb h B C G GB GW GR TB TC TG TGB TGW TGR FR CH J M MB MR ME MZ MT k n b rc u v H locs ls → W p l e room_1 s m args below meth c H locs (cells + 1) (slots + 6) Q (F0 m 955 ls [])) : W p l e room_1 s m args below meth c H locs cells slots Q (F0 m 416 ls []) := by
  obtain ⟨hfl, hF, hX, hsb, hL, hXL⟩ := CC
  obtain ⟨hx, hb, hml, hown, hts⟩ := id hF
  obtain ⟨bo, wo, ro, fr, sh, po, tn, tb, tbo, two, tro, ch, f⟩ := u
  obtain ⟨th, rwo, rwy, rpo, mu, mr, me, mq, mt⟩ := v
  obtain ⟨hn, hb0, hrc, hset, hmu, hK, hP, hD, hS, hl⟩ := I
  have hset : zSet n b rc bo wo ro fr sh po := hset
  have hmu : 0 ≤ mu ∧ mu ≤ 1 := hmu
  have hA : ∀ q, s.heap.size ≤ q → (fun q => s.heap.size ≤ q) q := fun _ h => h
  have hbA : ¬ (fun q => s.heap.size ≤ q) sb := Nat.not_le.mpr hsb
  have hE := hset.2.1
  obtain ⟨z1, hz1, e1⟩ : ∃ z : Int, zB z ∧ (xs (4 * k + 1)).toInt = z := ⟨_, z_toB _, rfl⟩
  obtain ⟨z2, hz2, e2⟩ : ∃ z : Int, zB z ∧ (xs (4 * k + 2)).toInt = z := ⟨_, z_toB _, rfl⟩
  have hz1a := hz1.1
  have hz1b := hz1.2
  have hz2a := hz2.1
  have hz2b := hz2.2
  by_cases hv0 : (0 ≤ z1 ∧ z1 < (n : Int)) ∧ 0 ≤ z2 ∧ z2 < (n : Int)
  · obtain ⟨x, rfl⟩ : ∃ q : Nat, z1 = (q : Int) := ⟨z1.toNat, by omega⟩
    obtain ⟨y, rfl⟩ : ∃ q : Nat, z2 = (q : Int) := ⟨z2.toNat, by omega⟩
    refine lv_aload_n hx hb dL_law_416 rfl (lv_at hl 1 rfl) ?_
    refine lv_aload_n hx hb dL_law_417 rfl (lv_at hl 0 rfl) ?_
    refine lv_iload hx hb dL_law_418 (lv_at hl 4 rfl) ?_
    refine zr_ic (n := ((1 : Nat) : Int)) hx hb dL_law_420 ?_
    refine zr_addN (x := 4 * k) (y := 1) hx hb dL_law_421 ?_
    refine zr_sld hx hb hX hsb hbA hS hL (j := 4 * k + 1) (by omega) dL_law_422 ?_
    rw [e1]
    refine lv_aload_n hx hb dL_law_423 rfl (lv_at hl 0 rfl) ?_
    refine lv_iload hx hb dL_law_424 (lv_at hl 4 rfl) ?_
    refine zr_ic (n := ((2 : Nat) : Int)) hx hb dL_law_426 ?_
    refine zr_addN (x := 4 * k) (y := 2) hx hb dL_law_427 ?_
    refine zr_sld hx hb hX hsb hbA hS hL (j := 4 * k + 2) (by omega) dL_law_428 ?_
    rw [e2]
    refine lv_aload_n hx hb dL_law_429 rfl (lv_at hl 3 rfl) ?_
    refine zc_Ls (As := [.ref h, .int (iI ((x : Nat) : Int)), .int (iI ((y : Nat) : Int)), .ref J]) (rest := []) hF (c_L_offer l D cI h B C G GB GW GR TB TC TG TGB TGW TGR FR CH J cJ n b rc bo wo ro fr sh po tn tb tbo two tro ch f x y hn hb0 hrc hset (by omega) (by omega)) (vx_cwSW 4 hts gL_law_L_offer rfl rfl rfl (by decide +kernel) ⟨Nat.le_of_ble_eq_true rfl, Nat.le_of_ble_eq_true rfl⟩) hK hP hD hS [0, 1, 2, 3, 4, 5, 6, 7, 8, 9, 10, 11, 12, 13, 14, 15] (by decide) rfl (fun _ => rfl) rfl hl.1 rfl (Nat.le_of_ble_eq_true rfl) dL_law_430 ⟨(show cells ≤ 648565 by omega), (show slots ≤ 7150408 by omega)⟩ (fun r u9 H locs hw hP hD hS => ?_)
    obtain ⟨bo2, wo2, ro2, fr2, sh2, po2, tn2, tb2, tbo2, two2, tro2, ch2, f2⟩ := u9
    obtain ⟨hr1, hset2, hV⟩ := hw
    subst hr1
    have hP : va_P D vwCl (zXW h B C G GB GW GR TB TC TG TGB TGW TGR FR CH J cI cJ n b rc (bo2, wo2, ro2, fr2, sh2, po2, tn2, tb2, tbo2, two2, tro2, ch2, f2) ++ zMW M MB MR ME MZ MT cI n b rc (th, rwo, rwy, rpo, mu, mr, me, mq, mt)) H := hP
    have hD : va_D (fun q => s.heap.size ≤ q) (zXW h B C G GB GW GR TB TC TG TGB TGW TGR FR CH J cI cJ n b rc (bo2, wo2, ro2, fr2, sh2, po2, tn2, tb2, tbo2, two2, tro2, ch2, f2) ++ zMW M MB MR ME MZ MT cI n b rc (th, rwo, rwy, rpo, mu, mr, me, mq, mt)) := hD
    have hV : f2 0 = (iI (b (x * 6 + y))).toInt64 := hV
    refine lv_istore (lv' := [(5, .int (iI 0)), (0, .ref sb), (1, .ref h), (2, .ref M), (3, .ref J), (4, .int (iI ((4 * k : Nat) : Int)))]) hx hb dL_law_433 hl (by decide) rfl (fun ls hl => ?_)
    refine lv_aload_n hx hb dL_law_435 rfl (lv_at hl 3 rfl) ?_
    refine lv_aload_n hx hb dL_law_436 rfl (lv_at hl 1 rfl) ?_
    refine lv_iload hx hb dL_law_437 (lv_at hl 5 rfl) ?_
    refine zr_ic (n := ((1 : Nat) : Int)) hx hb dL_law_439 ?_
    refine zr_addN (x := 4 * k) (y := 1) hx hb dL_law_440 ?_
    refine zr_sld hx hb hX hsb hbA hS hL (j := 4 * k + 1) (by omega) dL_law_441 ?_
    rw [e1]
    refine lv_aload_n hx hb dL_law_442 rfl (lv_at hl 1 rfl) ?_
    refine lv_iload hx hb dL_law_443 (lv_at hl 5 rfl) ?_
    refine zr_ic (n := ((2 : Nat) : Int)) hx hb dL_law_445 ?_
    refine zr_addN (x := 4 * k) (y := 2) hx hb dL_law_446 ?_
    refine zr_sld hx hb hX hsb hbA hS hL (j := 4 * k + 2) (by omega) dL_law_447 ?_
    rw [e2]
    refine zc_wi (As := [.int (iI ((x : Nat) : Int)), .int (iI ((y : Nat) : Int))]) (rest := []) hF (r_offer_ok l D cI M MB MR ME MZ MT n b mr me mq mt th rc rwo rwy rpo mu x y hn hb0 hrc hmu (by omega) (by omega)) (cwV 2 hts gL_law_X3_offer rfl rfl rfl (by decide +kernel) ⟨Nat.le_of_ble_eq_true rfl, Nat.le_of_ble_eq_true rfl⟩) hK hP hD hS [16, 17, 18, 19, 20, 21] (by decide) rfl (fun _ => rfl) 0 rfl 0 rfl rfl rfl rfl hl.1 rfl (Nat.le_of_ble_eq_true rfl) dL_law_448 ⟨(show cells ≤ 648565 by omega), (show slots ≤ 7150408 by omega)⟩ (fun r u9 H locs hw hP hD hS => ?_)
    obtain ⟨th2, rwo2, rwy2, rpo2, mu2, mr2, me2, mq2, mt2⟩ := u9
    obtain ⟨hr2, hth, hmu2⟩ := hw
    have hth : th2 = ((0 : Nat) : Int) := hth
    subst hth
    subst hr2
    have hP : va_P D vwCl (zXW h B C G GB GW GR TB TC TG TGB TGW TGR FR CH J cI cJ n b rc (bo2, wo2, ro2, fr2, sh2, po2, tn2, tb2, tbo2, two2, tro2, ch2, f2) ++ zMW M MB MR ME MZ MT cI n b rc (((0 : Nat) : Int), rwo2, rwy2, rpo2, mu2, mr2, me2, mq2, mt2)) H := hP
    have hD : va_D (fun q => s.heap.size ≤ q) (zXW h B C G GB GW GR TB TC TG TGB TGW TGR FR CH J cI cJ n b rc (bo2, wo2, ro2, fr2, sh2, po2, tn2, tb2, tbo2, two2, tro2, ch2, f2) ++ zMW M MB MR ME MZ MT cI n b rc (((0 : Nat) : Int), rwo2, rwy2, rpo2, mu2, mr2, me2, mq2, mt2)) := hD
    refine lv_istore (lv' := [(6, .int (iI (b (x * 6 + y)))), (5, .int (iI 0)), (0, .ref sb), (1, .ref h), (2, .ref M), (3, .ref J), (4, .int (iI ((4 * k : Nat) : Int)))]) hx hb dL_law_451 hl (by decide) rfl (fun ls hl => ?_)
    refine lv_aload_n hx hb dL_law_453 rfl (lv_at hl 4 rfl) ?_
    refine zc_ri (As := []) (rest := []) hF (c_X3_thrown l D cI M MB MR ME MZ MT n b mr2 me2 mq2 mt2 ((0 : Nat) : Int) rc rwo2 rwy2 rpo2 (-1) (-1) (-1) mu2) (cwV 0 hts gL_law_X3_thrown rfl rfl rfl (by decide +kernel) ⟨Nat.le_of_ble_eq_true rfl, Nat.le_of_ble_eq_true rfl⟩) hK hP [16, 17, 18, 19, 20, 21] rfl 0 rfl 0 rfl rfl rfl rfl hl.1 rfl (Nat.le_of_ble_eq_true rfl) dL_law_454 ⟨(show cells ≤ 648565 by omega), (show slots ≤ 7150408 by omega)⟩ ?_
    refine lv_iload hx hb dL_law_457 (lv_at hl 1 rfl) ?_
    refine zr_icmp_eq (tgt := 464) hx hb dL_law_459 (by decide) (zB_nat (by decide)) zB_0 (fun _ => ?_) (fun q => absurd rfl q)
    refine lv_iload hx hb dL_law_464 (lv_at hl 1 rfl) ?_
    refine zr_if_ne (tgt := 481) hx hb dL_law_466 (by decide) zB_0 (fun q => absurd rfl q) (fun _ => ?_)
    refine lv_aload_n hx hb dL_law_469 rfl (lv_at hl 5 rfl) ?_
    refine zr_ic (n := ((0 : Nat) : Int)) hx hb dL_law_470 ?_
    refine zr_lald0 hx hb hK hP 15 rfl dL_law_471 ?_
    refine lv_iload hx hb dL_law_472 (lv_at hl 0 rfl) ?_
    refine lv_i2l hx hb dL_law_474 rfl ?_
    refine zr_lcmpE (tgt := 481) hx hb hV dL_law_475 dL_law_476 (by decide) ?_
    refine lv_goto (tgt := 955) hx hb dL_law_481 (by decide) ?_
    refine W.widen (k := cells + 1) (n := slots + 6) (by omega) (by omega) ?_
    exact K n b rc (bo2, wo2, ro2, fr2, sh2, po2, tn2, tb2, tbo2, two2, tro2, ch2, f2) (((0 : Nat) : Int), rwo2, rwy2, rpo2, mu2, mr2, me2, mq2, mt2) H locs ls ⟨hn, hb0, hrc, hset2, hmu2, hK, hP, hD, hS, lv_sub hl [2, 3, 4, 5, 6] rfl⟩
  · refine lv_aload_n hx hb dL_law_416 rfl (lv_at hl 1 rfl) ?_
    refine lv_aload_n hx hb dL_law_417 rfl (lv_at hl 0 rfl) ?_
    refine lv_iload hx hb dL_law_418 (lv_at hl 4 rfl) ?_
    refine zr_ic (n := ((1 : Nat) : Int)) hx hb dL_law_420 ?_
    refine zr_addN (x := 4 * k) (y := 1) hx hb dL_law_421 ?_
    refine zr_sld hx hb hX hsb hbA hS hL (j := 4 * k + 1) (by omega) dL_law_422 ?_
    rw [e1]
    refine lv_aload_n hx hb dL_law_423 rfl (lv_at hl 0 rfl) ?_
    refine lv_iload hx hb dL_law_424 (lv_at hl 4 rfl) ?_
    refine zr_ic (n := ((2 : Nat) : Int)) hx hb dL_law_426 ?_
    refine zr_addN (x := 4 * k) (y := 2) hx hb dL_law_427 ?_
    refine zr_sld hx hb hX hsb hbA hS hL (j := 4 * k + 2) (by omega) dL_law_428 ?_
    rw [e2]
    refine lv_aload_n hx hb dL_law_429 rfl (lv_at hl 3 rfl) ?_
    refine zc_Lx (As := [.ref h, .int (iI z1), .int (iI z2), .ref J]) (rest := []) hF (f_L_offer l hfl D cI h B C G GB GW GR TB TC TG TGB TGW TGR FR CH J cJ n b rc bo wo ro fr sh po tn tb tbo two tro ch f z1 z2 hn hb0 hz1 hz2 (by omega)) (vx_cwSW 4 hts gL_law_L_offer rfl rfl rfl (by decide +kernel) ⟨Nat.le_of_ble_eq_true rfl, Nat.le_of_ble_eq_true rfl⟩) (fun U h1 h2 => zXL_at (fun _ h => h) (fun _ h => h) hXL hS h2 h1) hK hP hD hS hA [0, 1, 2, 3, 4, 5, 6, 7, 8, 9, 10, 11, 12, 13, 14, 15] rfl rfl hl.1 rfl (Nat.le_of_ble_eq_true rfl) dL_law_430 ⟨(show cells + 1 ≤ 648565 by omega), (show slots + 6 ≤ 7150408 by omega)⟩ (fun H locs hP hS => ?_)
    have hP : va_P D vwCl (zXW h B C G GB GW GR TB TC TG TGB TGW TGR FR CH J cI cJ n b rc (bo, wo, ro, fr, sh, po, tn, tb, tbo, two, tro, ch, f) ++ zMW M MB MR ME MZ MT cI n b rc (th, rwo, rwy, rpo, mu, mr, me, mq, mt)) H := hP
    refine lv_istore (lv' := [(5, .int (iI ((1 : Nat) : Int))), (0, .ref sb), (1, .ref h), (2, .ref M), (3, .ref J), (4, .int (iI ((4 * k : Nat) : Int)))]) hx hb dL_law_433 hl (by decide) rfl (fun ls hl => ?_)
    refine lv_aload_n hx hb dL_law_435 rfl (lv_at hl 3 rfl) ?_
    refine lv_aload_n hx hb dL_law_436 rfl (lv_at hl 1 rfl) ?_
    refine lv_iload hx hb dL_law_437 (lv_at hl 5 rfl) ?_
    refine zr_ic (n := ((1 : Nat) : Int)) hx hb dL_law_439 ?_
    refine zr_addN (x := 4 * k) (y := 1) hx hb dL_law_440 ?_
    refine zr_sld hx hb hX hsb hbA hS hL (j := 4 * k + 1) (by omega) dL_law_441 ?_
    rw [e1]
    refine lv_aload_n hx hb dL_law_442 rfl (lv_at hl 1 rfl) ?_
    refine lv_iload hx hb dL_law_443 (lv_at hl 5 rfl) ?_
    refine zr_ic (n := ((2 : Nat) : Int)) hx hb dL_law_445 ?_
    refine zr_addN (x := 4 * k) (y := 2) hx hb dL_law_446 ?_
    refine zr_sld hx hb hX hsb hbA hS hL (j := 4 * k + 2) (by omega) dL_law_447 ?_
    rw [e2]
    refine zc_wi (As := [.int (iI z1), .int (iI z2)]) (rest := []) hF (r_offer_bad l D cI M MB MR ME MZ MT n b mr me mq mt th rc rwo rwy rpo mu z1 z2 hn hz1 hz2 (by omega) hmu) (cwV 2 hts gL_law_X3_offer rfl rfl rfl (by decide +kernel) ⟨Nat.le_of_ble_eq_true rfl, Nat.le_of_ble_eq_true rfl⟩) hK hP hD hS [16, 17, 18, 19, 20, 21] (by decide) rfl (fun _ => rfl) 0 rfl 0 rfl rfl rfl rfl hl.1 rfl (Nat.le_of_ble_eq_true rfl) dL_law_448 ⟨(show cells + 1 ≤ 648565 by omega), (show slots + 6 ≤ 7150408 by omega)⟩ (fun r u9 H locs hw hP hD hS => ?_)
    obtain ⟨th2, rwo2, rwy2, rpo2, mu2, mr2, me2, mq2, mt2⟩ := u9
    obtain ⟨hr2, hth, hmu2⟩ := hw
    have hth : th2 = ((1 : Nat) : Int) := hth
    subst hth
    subst hr2
    have hP : va_P D vwCl (zXW h B C G GB GW GR TB TC TG TGB TGW TGR FR CH J cI cJ n b rc (bo, wo, ro, fr, sh, po, tn, tb, tbo, two, tro, ch, f) ++ zMW M MB MR ME MZ MT cI n b rc (((1 : Nat) : Int), rwo2, rwy2, rpo2, mu2, mr2, me2, mq2, mt2)) H := hP
    have hD : va_D (fun q => s.heap.size ≤ q) (zXW h B C G GB GW GR TB TC TG TGB TGW TGR FR CH J cI cJ n b rc (bo, wo, ro, fr, sh, po, tn, tb, tbo, two, tro, ch, f) ++ zMW M MB MR ME MZ MT cI n b rc (((1 : Nat) : Int), rwo2, rwy2, rpo2, mu2, mr2, me2, mq2, mt2)) := hD
    refine lv_istore (lv' := [(6, .int (iI 0)), (5, .int (iI ((1 : Nat) : Int))), (0, .ref sb), (1, .ref h), (2, .ref M), (3, .ref J), (4, .int (iI ((4 * k : Nat) : Int)))]) hx hb dL_law_451 hl (by decide) rfl (fun ls hl => ?_)
    refine lv_aload_n hx hb dL_law_453 rfl (lv_at hl 4 rfl) ?_
    refine zc_ri (As := []) (rest := []) hF (c_X3_thrown l D cI M MB MR ME MZ MT n b mr2 me2 mq2 mt2 ((1 : Nat) : Int) rc rwo2 rwy2 rpo2 (-1) (-1) (-1) mu2) (cwV 0 hts gL_law_X3_thrown rfl rfl rfl (by decide +kernel) ⟨Nat.le_of_ble_eq_true rfl, Nat.le_of_ble_eq_true rfl⟩) hK hP [16, 17, 18, 19, 20, 21] rfl 0 rfl 0 rfl rfl rfl rfl hl.1 rfl (Nat.le_of_ble_eq_true rfl) dL_law_454 ⟨(show cells + 1 ≤ 648565 by omega), (show slots + 6 ≤ 7150408 by omega)⟩ ?_
    refine lv_iload hx hb dL_law_457 (lv_at hl 1 rfl) ?_
    refine zr_icmp_eq (tgt := 464) hx hb dL_law_459 (by decide) (zB_nat (by decide)) (zB_nat (by decide)) (fun _ => ?_) (fun q => absurd rfl q)
    refine lv_iload hx hb dL_law_464 (lv_at hl 1 rfl) ?_
    refine zr_if_ne (tgt := 481) hx hb dL_law_466 (by decide) (zB_nat (by decide)) (fun _ => ?_) (fun q => absurd q (by decide))
    refine lv_goto (tgt := 955) hx hb dL_law_481 (by decide) ?_
    exact K n b rc (bo, wo, ro, fr, sh, po, tn, tb, tbo, two, tro, ch, f) (((1 : Nat) : Int), rwo2, rwy2, rpo2, mu2, mr2, me2, mq2, mt2) H locs ls ⟨hn, hb0, hrc, hset, hmu2, hK, hP, hD, hS, lv_sub hl [2, 3, 4, 5, 6] rfl⟩
set_option maxHeartbeats 8000000 in
set_option maxRecDepth 100000 in
theorem op_count {p : Program} {l : Launch} {e : Env} {s : State} {m : MethodId} {args : Array Value} {below : List Frame} {meth : Method} {c : Code} {H : Heap} {locs : List Loc} {cells slots : Nat} {Q : State → Prop} {ls : Array Slot} {sb L : Nat} {xs : Nat → Int32} {D : va_G} {cI cJ : ClassId} {h B C G GB GW GR TB TC TG TGB TGW TGR FR CH J M MB MR ME MZ MT : Nat} {k n : Nat} {b : Nat → Int} {rc : Int} {u : zVU} {v : zMU}
    (CC : zLC p l m c s args sb L xs) (I : zLI s D cI cJ sb h B C G GB GW GR TB TC TG TGB TGW TGR FR CH J M MB MR ME MZ MT k n b rc u v H locs ls) (hk : 4 * k + 3 < L) (hc : cells + 1 ≤ 648565) (hs : slots + 6 ≤ 7150408) (K : ∀ (n : Nat) (b : Nat → Int) (rc : Int) (u : zVU) (v : zMU) (H : Heap) (locs : List Loc) (ls : Array Slot), zLI s D cI cJ sb h B C G GB GW GR TB TC TG TGB TGW TGR FR CH J M MB MR ME MZ MT k n b rc u v H locs ls → W p l e room_1 s m args below meth c H locs (cells + 1) (slots + 6) Q (F0 m 955 ls [])) : W p l e room_1 s m args below meth c H locs cells slots Q (F0 m 484 ls []) := by
  obtain ⟨hfl, hF, hX, hsb, hL, hXL⟩ := CC
  obtain ⟨hx, hb, hml, hown, hts⟩ := id hF
  obtain ⟨bo, wo, ro, fr, sh, po, tn, tb, tbo, two, tro, ch, f⟩ := u
  obtain ⟨th, rwo, rwy, rpo, mu, mr, me, mq, mt⟩ := v
  obtain ⟨hn, hb0, hrc, hset, hmu, hK, hP, hD, hS, hl⟩ := I
  have hset : zSet n b rc bo wo ro fr sh po := hset
  have hmu : 0 ≤ mu ∧ mu ≤ 1 := hmu
  have hA : ∀ q, s.heap.size ≤ q → (fun q => s.heap.size ≤ q) q := fun _ h => h
  have hbA : ¬ (fun q => s.heap.size ≤ q) sb := Nat.not_le.mpr hsb
  have hE := hset.2.1
  obtain ⟨z1, hz1, e1⟩ : ∃ z : Int, zB z ∧ (xs (4 * k + 1)).toInt = z := ⟨_, z_toB _, rfl⟩
  have hz1a := hz1.1
  have hz1b := hz1.2
  by_cases hv0 : 0 ≤ z1 ∧ z1 < 7
  · obtain ⟨w, rfl⟩ : ∃ q : Nat, z1 = (q : Int) := ⟨z1.toNat, by omega⟩
    refine lv_aload_n hx hb dL_law_484 rfl (lv_at hl 1 rfl) ?_
    refine lv_aload_n hx hb dL_law_485 rfl (lv_at hl 0 rfl) ?_
    refine lv_iload hx hb dL_law_486 (lv_at hl 4 rfl) ?_
    refine zr_ic (n := ((1 : Nat) : Int)) hx hb dL_law_488 ?_
    refine zr_addN (x := 4 * k) (y := 1) hx hb dL_law_489 ?_
    refine zr_sld hx hb hX hsb hbA hS hL (j := 4 * k + 1) (by omega) dL_law_490 ?_
    rw [e1]
    refine lv_aload_n hx hb dL_law_491 rfl (lv_at hl 3 rfl) ?_
    refine zc_Ls (As := [.ref h, .int (iI ((w : Nat) : Int)), .ref J]) (rest := []) hF (c_L_count l D cI h B C G GB GW GR TB TC TG TGB TGW TGR FR CH J cJ n b rc bo wo ro fr sh po tn tb tbo two tro ch f w hn hb0 hrc hset (by omega)) (vx_cwSW 3 hts gL_law_L_count rfl rfl rfl (by decide +kernel) ⟨Nat.le_of_ble_eq_true rfl, Nat.le_of_ble_eq_true rfl⟩) hK hP hD hS [0, 1, 2, 3, 4, 5, 6, 7, 8, 9, 10, 11, 12, 13, 14, 15] (by decide) rfl (fun _ => rfl) rfl hl.1 rfl (Nat.le_of_ble_eq_true rfl) dL_law_492 ⟨(show cells ≤ 648565 by omega), (show slots ≤ 7150408 by omega)⟩ (fun r u9 H locs hw hP hD hS => ?_)
    obtain ⟨bo2, wo2, ro2, fr2, sh2, po2, tn2, tb2, tbo2, two2, tro2, ch2, f2⟩ := u9
    obtain ⟨hr1, hset2, hV⟩ := hw
    subst hr1
    have hP : va_P D vwCl (zXW h B C G GB GW GR TB TC TG TGB TGW TGR FR CH J cI cJ n b rc (bo2, wo2, ro2, fr2, sh2, po2, tn2, tb2, tbo2, two2, tro2, ch2, f2) ++ zMW M MB MR ME MZ MT cI n b rc (th, rwo, rwy, rpo, mu, mr, me, mq, mt)) H := hP
    have hD : va_D (fun q => s.heap.size ≤ q) (zXW h B C G GB GW GR TB TC TG TGB TGW TGR FR CH J cI cJ n b rc (bo2, wo2, ro2, fr2, sh2, po2, tn2, tb2, tbo2, two2, tro2, ch2, f2) ++ zMW M MB MR ME MZ MT cI n b rc (th, rwo, rwy, rpo, mu, mr, me, mq, mt)) := hD
    have hV : f2 0 = (iI (zTo n b rc fr w)).toInt64 := hV
    refine lv_istore (lv' := [(5, .int (iI 0)), (0, .ref sb), (1, .ref h), (2, .ref M), (3, .ref J), (4, .int (iI ((4 * k : Nat) : Int)))]) hx hb dL_law_495 hl (by decide) rfl (fun ls hl => ?_)
    refine lv_aload_n hx hb dL_law_497 rfl (lv_at hl 3 rfl) ?_
    refine lv_aload_n hx hb dL_law_498 rfl (lv_at hl 1 rfl) ?_
    refine lv_iload hx hb dL_law_499 (lv_at hl 5 rfl) ?_
    refine zr_ic (n := ((1 : Nat) : Int)) hx hb dL_law_501 ?_
    refine zr_addN (x := 4 * k) (y := 1) hx hb dL_law_502 ?_
    refine zr_sld hx hb hX hsb hbA hS hL (j := 4 * k + 1) (by omega) dL_law_503 ?_
    rw [e1]
    refine zc_wi (As := [.int (iI ((w : Nat) : Int))]) (rest := []) hF (r_count_ok l D cI M MB MR ME MZ MT n b mr me mq mt th rc rwo rwy rpo mu w fr hn hb0 hrc hmu (by omega) hE) (cwV 1 hts gL_law_X3_count rfl rfl rfl (by decide +kernel) ⟨Nat.le_of_ble_eq_true rfl, Nat.le_of_ble_eq_true rfl⟩) hK hP hD hS [16, 17, 18, 19, 20, 21] (by decide) rfl (fun _ => rfl) 0 rfl 0 rfl rfl rfl rfl hl.1 rfl (Nat.le_of_ble_eq_true rfl) dL_law_504 ⟨(show cells ≤ 648565 by omega), (show slots ≤ 7150408 by omega)⟩ (fun r u9 H locs hw hP hD hS => ?_)
    obtain ⟨th2, rwo2, rwy2, rpo2, mu2, mr2, me2, mq2, mt2⟩ := u9
    obtain ⟨hr2, hth, hmu2⟩ := hw
    have hth : th2 = ((0 : Nat) : Int) := hth
    subst hth
    subst hr2
    have hP : va_P D vwCl (zXW h B C G GB GW GR TB TC TG TGB TGW TGR FR CH J cI cJ n b rc (bo2, wo2, ro2, fr2, sh2, po2, tn2, tb2, tbo2, two2, tro2, ch2, f2) ++ zMW M MB MR ME MZ MT cI n b rc (((0 : Nat) : Int), rwo2, rwy2, rpo2, mu2, mr2, me2, mq2, mt2)) H := hP
    have hD : va_D (fun q => s.heap.size ≤ q) (zXW h B C G GB GW GR TB TC TG TGB TGW TGR FR CH J cI cJ n b rc (bo2, wo2, ro2, fr2, sh2, po2, tn2, tb2, tbo2, two2, tro2, ch2, f2) ++ zMW M MB MR ME MZ MT cI n b rc (((0 : Nat) : Int), rwo2, rwy2, rpo2, mu2, mr2, me2, mq2, mt2)) := hD
    refine lv_istore (lv' := [(6, .int (iI (zTo n b rc fr w))), (5, .int (iI 0)), (0, .ref sb), (1, .ref h), (2, .ref M), (3, .ref J), (4, .int (iI ((4 * k : Nat) : Int)))]) hx hb dL_law_507 hl (by decide) rfl (fun ls hl => ?_)
    refine lv_aload_n hx hb dL_law_509 rfl (lv_at hl 4 rfl) ?_
    refine zc_ri (As := []) (rest := []) hF (c_X3_thrown l D cI M MB MR ME MZ MT n b mr2 me2 mq2 mt2 ((0 : Nat) : Int) rc rwo2 rwy2 rpo2 (-1) (-1) (-1) mu2) (cwV 0 hts gL_law_X3_thrown rfl rfl rfl (by decide +kernel) ⟨Nat.le_of_ble_eq_true rfl, Nat.le_of_ble_eq_true rfl⟩) hK hP [16, 17, 18, 19, 20, 21] rfl 0 rfl 0 rfl rfl rfl rfl hl.1 rfl (Nat.le_of_ble_eq_true rfl) dL_law_510 ⟨(show cells ≤ 648565 by omega), (show slots ≤ 7150408 by omega)⟩ ?_
    refine lv_iload hx hb dL_law_513 (lv_at hl 1 rfl) ?_
    refine zr_icmp_eq (tgt := 520) hx hb dL_law_515 (by decide) (zB_nat (by decide)) zB_0 (fun _ => ?_) (fun q => absurd rfl q)
    refine lv_iload hx hb dL_law_520 (lv_at hl 1 rfl) ?_
    refine zr_if_ne (tgt := 537) hx hb dL_law_522 (by decide) zB_0 (fun q => absurd rfl q) (fun _ => ?_)
    refine lv_aload_n hx hb dL_law_525 rfl (lv_at hl 5 rfl) ?_
    refine zr_ic (n := ((0 : Nat) : Int)) hx hb dL_law_526 ?_
    refine zr_lald0 hx hb hK hP 15 rfl dL_law_527 ?_
    refine lv_iload hx hb dL_law_528 (lv_at hl 0 rfl) ?_
    refine lv_i2l hx hb dL_law_530 rfl ?_
    refine zr_lcmpE (tgt := 537) hx hb hV dL_law_531 dL_law_532 (by decide) ?_
    refine lv_goto (tgt := 955) hx hb dL_law_537 (by decide) ?_
    refine W.widen (k := cells + 1) (n := slots + 6) (by omega) (by omega) ?_
    exact K n b rc (bo2, wo2, ro2, fr2, sh2, po2, tn2, tb2, tbo2, two2, tro2, ch2, f2) (((0 : Nat) : Int), rwo2, rwy2, rpo2, mu2, mr2, me2, mq2, mt2) H locs ls ⟨hn, hb0, hrc, hset2, hmu2, hK, hP, hD, hS, lv_sub hl [2, 3, 4, 5, 6] rfl⟩
  · refine lv_aload_n hx hb dL_law_484 rfl (lv_at hl 1 rfl) ?_
    refine lv_aload_n hx hb dL_law_485 rfl (lv_at hl 0 rfl) ?_
    refine lv_iload hx hb dL_law_486 (lv_at hl 4 rfl) ?_
    refine zr_ic (n := ((1 : Nat) : Int)) hx hb dL_law_488 ?_
    refine zr_addN (x := 4 * k) (y := 1) hx hb dL_law_489 ?_
    refine zr_sld hx hb hX hsb hbA hS hL (j := 4 * k + 1) (by omega) dL_law_490 ?_
    rw [e1]
    refine lv_aload_n hx hb dL_law_491 rfl (lv_at hl 3 rfl) ?_
    refine zc_Lx (As := [.ref h, .int (iI z1), .ref J]) (rest := []) hF (f_L_count l hfl D cI h B C G GB GW GR TB TC TG TGB TGW TGR FR CH J cJ n b rc bo wo ro fr sh po tn tb tbo two tro ch f z1 hn hb0 hz1 (by omega)) (vx_cwSW 3 hts gL_law_L_count rfl rfl rfl (by decide +kernel) ⟨Nat.le_of_ble_eq_true rfl, Nat.le_of_ble_eq_true rfl⟩) (fun U h1 h2 => zXL_at (fun _ h => h) (fun _ h => h) hXL hS h2 h1) hK hP hD hS hA [0, 1, 2, 3, 4, 5, 6, 7, 8, 9, 10, 11, 12, 13, 14, 15] rfl rfl hl.1 rfl (Nat.le_of_ble_eq_true rfl) dL_law_492 ⟨(show cells + 1 ≤ 648565 by omega), (show slots + 6 ≤ 7150408 by omega)⟩ (fun H locs hP hS => ?_)
    have hP : va_P D vwCl (zXW h B C G GB GW GR TB TC TG TGB TGW TGR FR CH J cI cJ n b rc (bo, wo, ro, fr, sh, po, tn, tb, tbo, two, tro, ch, f) ++ zMW M MB MR ME MZ MT cI n b rc (th, rwo, rwy, rpo, mu, mr, me, mq, mt)) H := hP
    refine lv_istore (lv' := [(5, .int (iI ((1 : Nat) : Int))), (0, .ref sb), (1, .ref h), (2, .ref M), (3, .ref J), (4, .int (iI ((4 * k : Nat) : Int)))]) hx hb dL_law_495 hl (by decide) rfl (fun ls hl => ?_)
    refine lv_aload_n hx hb dL_law_497 rfl (lv_at hl 3 rfl) ?_
    refine lv_aload_n hx hb dL_law_498 rfl (lv_at hl 1 rfl) ?_
    refine lv_iload hx hb dL_law_499 (lv_at hl 5 rfl) ?_
    refine zr_ic (n := ((1 : Nat) : Int)) hx hb dL_law_501 ?_
    refine zr_addN (x := 4 * k) (y := 1) hx hb dL_law_502 ?_
    refine zr_sld hx hb hX hsb hbA hS hL (j := 4 * k + 1) (by omega) dL_law_503 ?_
    rw [e1]
    refine zc_wi (As := [.int (iI z1)]) (rest := []) hF (r_count_bad l D cI M MB MR ME MZ MT n b mr me mq mt th rc rwo rwy rpo mu z1 hn hz1 (by omega) hmu) (cwV 1 hts gL_law_X3_count rfl rfl rfl (by decide +kernel) ⟨Nat.le_of_ble_eq_true rfl, Nat.le_of_ble_eq_true rfl⟩) hK hP hD hS [16, 17, 18, 19, 20, 21] (by decide) rfl (fun _ => rfl) 0 rfl 0 rfl rfl rfl rfl hl.1 rfl (Nat.le_of_ble_eq_true rfl) dL_law_504 ⟨(show cells + 1 ≤ 648565 by omega), (show slots + 6 ≤ 7150408 by omega)⟩ (fun r u9 H locs hw hP hD hS => ?_)
    obtain ⟨th2, rwo2, rwy2, rpo2, mu2, mr2, me2, mq2, mt2⟩ := u9
    obtain ⟨hr2, hth, hmu2⟩ := hw
    have hth : th2 = ((1 : Nat) : Int) := hth
    subst hth
    subst hr2
    have hP : va_P D vwCl (zXW h B C G GB GW GR TB TC TG TGB TGW TGR FR CH J cI cJ n b rc (bo, wo, ro, fr, sh, po, tn, tb, tbo, two, tro, ch, f) ++ zMW M MB MR ME MZ MT cI n b rc (((1 : Nat) : Int), rwo2, rwy2, rpo2, mu2, mr2, me2, mq2, mt2)) H := hP
    have hD : va_D (fun q => s.heap.size ≤ q) (zXW h B C G GB GW GR TB TC TG TGB TGW TGR FR CH J cI cJ n b rc (bo, wo, ro, fr, sh, po, tn, tb, tbo, two, tro, ch, f) ++ zMW M MB MR ME MZ MT cI n b rc (((1 : Nat) : Int), rwo2, rwy2, rpo2, mu2, mr2, me2, mq2, mt2)) := hD
    refine lv_istore (lv' := [(6, .int (iI 0)), (5, .int (iI ((1 : Nat) : Int))), (0, .ref sb), (1, .ref h), (2, .ref M), (3, .ref J), (4, .int (iI ((4 * k : Nat) : Int)))]) hx hb dL_law_507 hl (by decide) rfl (fun ls hl => ?_)
    refine lv_aload_n hx hb dL_law_509 rfl (lv_at hl 4 rfl) ?_
    refine zc_ri (As := []) (rest := []) hF (c_X3_thrown l D cI M MB MR ME MZ MT n b mr2 me2 mq2 mt2 ((1 : Nat) : Int) rc rwo2 rwy2 rpo2 (-1) (-1) (-1) mu2) (cwV 0 hts gL_law_X3_thrown rfl rfl rfl (by decide +kernel) ⟨Nat.le_of_ble_eq_true rfl, Nat.le_of_ble_eq_true rfl⟩) hK hP [16, 17, 18, 19, 20, 21] rfl 0 rfl 0 rfl rfl rfl rfl hl.1 rfl (Nat.le_of_ble_eq_true rfl) dL_law_510 ⟨(show cells + 1 ≤ 648565 by omega), (show slots + 6 ≤ 7150408 by omega)⟩ ?_
    refine lv_iload hx hb dL_law_513 (lv_at hl 1 rfl) ?_
    refine zr_icmp_eq (tgt := 520) hx hb dL_law_515 (by decide) (zB_nat (by decide)) (zB_nat (by decide)) (fun _ => ?_) (fun q => absurd rfl q)
    refine lv_iload hx hb dL_law_520 (lv_at hl 1 rfl) ?_
    refine zr_if_ne (tgt := 537) hx hb dL_law_522 (by decide) (zB_nat (by decide)) (fun _ => ?_) (fun q => absurd q (by decide))
    refine lv_goto (tgt := 955) hx hb dL_law_537 (by decide) ?_
    exact K n b rc (bo, wo, ro, fr, sh, po, tn, tb, tbo, two, tro, ch, f) (((1 : Nat) : Int), rwo2, rwy2, rpo2, mu2, mr2, me2, mq2, mt2) H locs ls ⟨hn, hb0, hrc, hset, hmu2, hK, hP, hD, hS, lv_sub hl [2, 3, 4, 5, 6] rfl⟩
