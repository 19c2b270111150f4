set_option maxHeartbeats 8000000 in
set_option maxRecDepth 100000 in
theorem op_rent {p : Program} {l : Launch} {e : Env} {s : State} {m : MethodId} {args : Array Value} {below : List Frame} {meth : Method} {c : Code} {H : Heap} {locs : List Loc} {cells slots : Nat} {Q : State → Prop} {ls : Array Slot} {sb L : Nat} {xs : Nat → Int32} {D : va_G} {cI cJ : ClassId} {h B C G GB GW GR TB TC TG TGB TGW TGR FR CH J M MB MR ME MZ MT : Nat} {k n : Nat} {b : Nat → Int} {rc : Int} {u : zVU} {v : zMU}
    (CC : zLC p l m c s args sb L xs) (I : zLI s D cI cJ sb h B C G GB GW GR TB TC TG TGB TGW TGR FR CH J M MB MR ME MZ MT k n b rc u v H locs ls) (hk : 4 * k + 3 < L) (hc : cells + 1 ≤ 648565) (hs : slots + 6 ≤ 7150408) (K : ∀ (n : Nat) (b : Nat → Int) (rc : Int) (u : zVU) (v : zMU) (H : Heap) (locs : List Loc) (ls : Array Slot), zLI s D cI cJ sb h B C G GB GW GR TB TC TG TGB TGW TGR FR CH J M MB MR ME MZ MT k n b rc u v H locs ls → W p l e room_1 s m args below meth c H locs (cells + 1) (slots + 6) Q (F0 m 955 ls [])) : W p l e room_1 s m args below meth c H locs cells slots Q (F0 m 236 ls []) := by
  obtain ⟨hfl, hF, hX, hsb, hL, hXL⟩ := CC
  obtain ⟨hx, hb, hml, hown, hts⟩ := id hF
  obtain ⟨bo, wo, ro, fr, sh, po, tn, tb, tbo, two, tro, ch, f⟩ := u
  obtain ⟨th, rwo, rwy, rpo, mu, mr, me, mq, mt⟩ := v
  obtain ⟨hn, hb0, hrc, hset, hmu, hK, hP, hD, hS, hl⟩ := I
  have hset : zSet n b rc bo wo ro fr sh po := hset
  have hmu : 0 ≤ mu ∧ mu ≤ 1 := hmu
  have hA : ∀ q, s.heap.size ≤ q → (fun q => s.heap.size ≤ q) q := fun _ h => h
  have hbA : ¬ (fun q => s.heap.size ≤ q) sb := Nat.not_le.mpr hsb
  have hE := hset.2.1
  obtain ⟨z1, hz1, e1⟩ : ∃ z : Int, zB z ∧ (xs (4 * k + 1)).toInt = z := ⟨_, z_toB _, rfl⟩
  have hz1a := hz1.1
  have hz1b := hz1.2
  by_cases hv0 : 0 ≤ z1 ∧ z1 ≤ 5999
  · refine lv_aload_n hx hb dL_law_236 rfl (lv_at hl 1 rfl) ?_
    refine lv_aload_n hx hb dL_law_237 rfl (lv_at hl 0 rfl) ?_
    refine lv_iload hx hb dL_law_238 (lv_at hl 4 rfl) ?_
    refine zr_ic (n := ((1 : Nat) : Int)) hx hb dL_law_240 ?_
    refine zr_addN (x := 4 * k) (y := 1) hx hb dL_law_241 ?_
    refine zr_sld hx hb hX hsb hbA hS hL (j := 4 * k + 1) (by omega) dL_law_242 ?_
    rw [e1]
    refine lv_aload_n hx hb dL_law_243 rfl (lv_at hl 3 rfl) ?_
    refine zc_Ls (As := [.ref h, .int (iI z1), .ref J]) (rest := []) hF (c_L_rent l D cI h B C G GB GW GR TB TC TG TGB TGW TGR FR CH J cJ n b rc bo wo ro fr sh po tn tb tbo two tro ch f z1 hn hb0 hrc hset hv0) (vx_cwSW 3 hts gL_law_L_rent rfl rfl rfl (by decide +kernel) ⟨Nat.le_of_ble_eq_true rfl, Nat.le_of_ble_eq_true rfl⟩) hK hP hD hS [0, 1, 2, 3, 4, 5, 6, 7, 8, 9, 10, 11, 12, 13, 14, 15] (by decide) rfl (fun _ => rfl) rfl hl.1 rfl (Nat.le_of_ble_eq_true rfl) dL_law_244 ⟨(show cells ≤ 648565 by omega), (show slots ≤ 7150408 by omega)⟩ (fun r u9 H locs hw hP hD hS => ?_)
    obtain ⟨bo2, wo2, ro2, fr2, sh2, po2, tn2, tb2, tbo2, two2, tro2, ch2, f2⟩ := u9
    obtain ⟨hr1, hset2, hV⟩ := hw
    subst hr1
    have hP : va_P D vwCl (zXW h B C G GB GW GR TB TC TG TGB TGW TGR FR CH J cI cJ n b z1 (bo2, wo2, ro2, fr2, sh2, po2, tn2, tb2, tbo2, two2, tro2, ch2, f2) ++ zMW M MB MR ME MZ MT cI n b rc (th, rwo, rwy, rpo, mu, mr, me, mq, mt)) H := hP
    have hD : va_D (fun q => s.heap.size ≤ q) (zXW h B C G GB GW GR TB TC TG TGB TGW TGR FR CH J cI cJ n b z1 (bo2, wo2, ro2, fr2, sh2, po2, tn2, tb2, tbo2, two2, tro2, ch2, f2) ++ zMW M MB MR ME MZ MT cI n b rc (th, rwo, rwy, rpo, mu, mr, me, mq, mt)) := hD
    have hV : f2 0 = (iI (rc)).toInt64 := hV
    refine lv_istore (lv' := [(5, .int (iI 0)), (0, .ref sb), (1, .ref h), (2, .ref M), (3, .ref J), (4, .int (iI ((4 * k : Nat) : Int)))]) hx hb dL_law_247 hl (by decide) rfl (fun ls hl => ?_)
    refine lv_aload_n hx hb dL_law_249 rfl (lv_at hl 3 rfl) ?_
    refine lv_aload_n hx hb dL_law_250 rfl (lv_at hl 1 rfl) ?_
    refine lv_iload hx hb dL_law_251 (lv_at hl 5 rfl) ?_
    refine zr_ic (n := ((1 : Nat) : Int)) hx hb dL_law_253 ?_
    refine zr_addN (x := 4 * k) (y := 1) hx hb dL_law_254 ?_
    refine zr_sld hx hb hX hsb hbA hS hL (j := 4 * k + 1) (by omega) dL_law_255 ?_
    rw [e1]
    refine zc_wi (As := [.int (iI z1)]) (rest := []) hF (r_rent_ok l D cI M MB MR ME MZ MT n b mr me mq mt th rc rwo rwy rpo mu z1 hn hb0 hrc hmu hv0) (cwV 1 hts gL_law_X3_rent rfl rfl rfl (by decide +kernel) ⟨Nat.le_of_ble_eq_true rfl, Nat.le_of_ble_eq_true rfl⟩) hK hP hD hS [16, 17, 18, 19, 20, 21] (by decide) rfl (fun _ => rfl) 0 rfl 0 rfl rfl rfl rfl hl.1 rfl (Nat.le_of_ble_eq_true rfl) dL_law_256 ⟨(show cells ≤ 648565 by omega), (show slots ≤ 7150408 by omega)⟩ (fun r u9 H locs hw hP hD hS => ?_)
    obtain ⟨th2, rwo2, rwy2, rpo2, mu2, mr2, me2, mq2, mt2⟩ := u9
    obtain ⟨hr2, hth, hmu2⟩ := hw
    have hth : th2 = ((0 : Nat) : Int) := hth
    subst hth
    subst hr2
    have hP : va_P D vwCl (zXW h B C G GB GW GR TB TC TG TGB TGW TGR FR CH J cI cJ n b z1 (bo2, wo2, ro2, fr2, sh2, po2, tn2, tb2, tbo2, two2, tro2, ch2, f2) ++ zMW M MB MR ME MZ MT cI n b z1 (((0 : Nat) : Int), rwo2, rwy2, rpo2, mu2, mr2, me2, mq2, mt2)) H := hP
    have hD : va_D (fun q => s.heap.size ≤ q) (zXW h B C G GB GW GR TB TC TG TGB TGW TGR FR CH J cI cJ n b z1 (bo2, wo2, ro2, fr2, sh2, po2, tn2, tb2, tbo2, two2, tro2, ch2, f2) ++ zMW M MB MR ME MZ MT cI n b z1 (((0 : Nat) : Int), rwo2, rwy2, rpo2, mu2, mr2, me2, mq2, mt2)) := hD
    refine lv_istore (lv' := [(6, .int (iI (rc))), (5, .int (iI 0)), (0, .ref sb), (1, .ref h), (2, .ref M), (3, .ref J), (4, .int (iI ((4 * k : Nat) : Int)))]) hx hb dL_law_259 hl (by decide) rfl (fun ls hl => ?_)
    refine lv_aload_n hx hb dL_law_261 rfl (lv_at hl 4 rfl) ?_
    refine zc_ri (As := []) (rest := []) hF (c_X3_thrown l D cI M MB MR ME MZ MT n b mr2 me2 mq2 mt2 ((0 : Nat) : Int) z1 rwo2 rwy2 rpo2 (-1) (-1) (-1) mu2) (cwV 0 hts gL_law_X3_thrown rfl rfl rfl (by decide +kernel) ⟨Nat.le_of_ble_eq_true rfl, Nat.le_of_ble_eq_true rfl⟩) hK hP [16, 17, 18, 19, 20, 21] rfl 0 rfl 0 rfl rfl rfl rfl hl.1 rfl (Nat.le_of_ble_eq_true rfl) dL_law_262 ⟨(show cells ≤ 648565 by omega), (show slots ≤ 7150408 by omega)⟩ ?_
    refine lv_iload hx hb dL_law_265 (lv_at hl 1 rfl) ?_
    refine zr_icmp_eq (tgt := 272) hx hb dL_law_267 (by decide) (zB_nat (by decide)) zB_0 (fun _ => ?_) (fun q => absurd rfl q)
    refine lv_iload hx hb dL_law_272 (lv_at hl 1 rfl) ?_
    refine zr_if_ne (tgt := 289) hx hb dL_law_274 (by decide) zB_0 (fun q => absurd rfl q) (fun _ => ?_)
    refine lv_aload_n hx hb dL_law_277 rfl (lv_at hl 5 rfl) ?_
    refine zr_ic (n := ((0 : Nat) : Int)) hx hb dL_law_278 ?_
    refine zr_lald0 hx hb hK hP 15 rfl dL_law_279 ?_
    refine lv_iload hx hb dL_law_280 (lv_at hl 0 rfl) ?_
    refine lv_i2l hx hb dL_law_282 rfl ?_
    refine zr_lcmpE (tgt := 289) hx hb hV dL_law_283 dL_law_284 (by decide) ?_
    refine lv_goto (tgt := 955) hx hb dL_law_289 (by decide) ?_
    refine W.widen (k := cells + 1) (n := slots + 6) (by omega) (by omega) ?_
    exact K n b z1 (bo2, wo2, ro2, fr2, sh2, po2, tn2, tb2, tbo2, two2, tro2, ch2, f2) (((0 : Nat) : Int), rwo2, rwy2, rpo2, mu2, mr2, me2, mq2, mt2) H locs ls ⟨hn, hb0, hv0, hset2, hmu2, hK, hP, hD, hS, lv_sub hl [2, 3, 4, 5, 6] rfl⟩
  · refine lv_aload_n hx hb dL_law_236 rfl (lv_at hl 1 rfl) ?_
    refine lv_aload_n hx hb dL_law_237 rfl (lv_at hl 0 rfl) ?_
    refine lv_iload hx hb dL_law_238 (lv_at hl 4 rfl) ?_
    refine zr_ic (n := ((1 : Nat) : Int)) hx hb dL_law_240 ?_
    refine zr_addN (x := 4 * k) (y := 1) hx hb dL_law_241 ?_
    refine zr_sld hx hb hX hsb hbA hS hL (j := 4 * k + 1) (by omega) dL_law_242 ?_
    rw [e1]
    refine lv_aload_n hx hb dL_law_243 rfl (lv_at hl 3 rfl) ?_
    refine zc_Lx (As := [.ref h, .int (iI z1), .ref J]) (rest := []) hF (f_L_rent l hfl D cI h B C G GB GW GR TB TC TG TGB TGW TGR FR CH J cJ n b rc bo wo ro fr sh po tn tb tbo two tro ch f z1 hn hb0 hz1 (by omega)) (vx_cwSW 3 hts gL_law_L_rent rfl rfl rfl (by decide +kernel) ⟨Nat.le_of_ble_eq_true rfl, Nat.le_of_ble_eq_true rfl⟩) (fun U h1 h2 => zXL_at (fun _ h => h) (fun _ h => h) hXL hS h2 h1) hK hP hD hS hA [0, 1, 2, 3, 4, 5, 6, 7, 8, 9, 10, 11, 12, 13, 14, 15] rfl rfl hl.1 rfl (Nat.le_of_ble_eq_true rfl) dL_law_244 ⟨(show cells + 1 ≤ 648565 by omega), (show slots + 6 ≤ 7150408 by omega)⟩ (fun H locs hP hS => ?_)
    have hP : va_P D vwCl (zXW h B C G GB GW GR TB TC TG TGB TGW TGR FR CH J cI cJ n b rc (bo, wo, ro, fr, sh, po, tn, tb, tbo, two, tro, ch, f) ++ zMW M MB MR ME MZ MT cI n b rc (th, rwo, rwy, rpo, mu, mr, me, mq, mt)) H := hP
    refine lv_istore (lv' := [(5, .int (iI ((1 : Nat) : Int))), (0, .ref sb), (1, .ref h), (2, .ref M), (3, .ref J), (4, .int (iI ((4 * k : Nat) : Int)))]) hx hb dL_law_247 hl (by decide) rfl (fun ls hl => ?_)
    refine lv_aload_n hx hb dL_law_249 rfl (lv_at hl 3 rfl) ?_
    refine lv_aload_n hx hb dL_law_250 rfl (lv_at hl 1 rfl) ?_
    refine lv_iload hx hb dL_law_251 (lv_at hl 5 rfl) ?_
    refine zr_ic (n := ((1 : Nat) : Int)) hx hb dL_law_253 ?_
    refine zr_addN (x := 4 * k) (y := 1) hx hb dL_law_254 ?_
    refine zr_sld hx hb hX hsb hbA hS hL (j := 4 * k + 1) (by omega) dL_law_255 ?_
    rw [e1]
    refine zc_wi (As := [.int (iI z1)]) (rest := []) hF (r_rent_bad l D cI M MB MR ME MZ MT n b mr me mq mt th rc rwo rwy rpo mu z1 hn hz1 (by omega) hmu) (cwV 1 hts gL_law_X3_rent rfl rfl rfl (by decide +kernel) ⟨Nat.le_of_ble_eq_true rfl, Nat.le_of_ble_eq_true rfl⟩) hK hP hD hS [16, 17, 18, 19, 20, 21] (by decide) rfl (fun _ => rfl) 0 rfl 0 rfl rfl rfl rfl hl.1 rfl (Nat.le_of_ble_eq_true rfl) dL_law_256 ⟨(show cells + 1 ≤ 648565 by omega), (show slots + 6 ≤ 7150408 by omega)⟩ (fun r u9 H locs hw hP hD hS => ?_)
    obtain ⟨th2, rwo2, rwy2, rpo2, mu2, mr2, me2, mq2, mt2⟩ := u9
    obtain ⟨hr2, hth, hmu2⟩ := hw
    have hth : th2 = ((1 : Nat) : Int) := hth
    subst hth
    subst hr2
    have hP : va_P D vwCl (zXW h B C G GB GW GR TB TC TG TGB TGW TGR FR CH J cI cJ n b rc (bo, wo, ro, fr, sh, po, tn, tb, tbo, two, tro, ch, f) ++ zMW M MB MR ME MZ MT cI n b rc (((1 : Nat) : Int), rwo2, rwy2, rpo2, mu2, mr2, me2, mq2, mt2)) H := hP
    have hD : va_D (fun q => s.heap.size ≤ q) (zXW h B C G GB GW GR TB TC TG TGB TGW TGR FR CH J cI cJ n b rc (bo, wo, ro, fr, sh, po, tn, tb, tbo, two, tro, ch, f) ++ zMW M MB MR ME MZ MT cI n b rc (((1 : Nat) : Int), rwo2, rwy2, rpo2, mu2, mr2, me2, mq2, mt2)) := hD
    refine lv_istore (lv' := [(6, .int (iI 0)), (5, .int (iI ((1 : Nat) : Int))), (0, .ref sb), (1, .ref h), (2, .ref M), (3, .ref J), (4, .int (iI ((4 * k : Nat) : Int)))]) hx hb dL_law_259 hl (by decide) rfl (fun ls hl => ?_)
    refine lv_aload_n hx hb dL_law_261 rfl (lv_at hl 4 rfl) ?_
    refine zc_ri (As := []) (rest := []) hF (c_X3_thrown l D cI M MB MR ME MZ MT n b mr2 me2 mq2 mt2 ((1 : Nat) : Int) rc rwo2 rwy2 rpo2 (-1) (-1) (-1) mu2) (cwV 0 hts gL_law_X3_thrown rfl rfl rfl (by decide +kernel) ⟨Nat.le_of_ble_eq_true rfl, Nat.le_of_ble_eq_true rfl⟩) hK hP [16, 17, 18, 19, 20, 21] rfl 0 rfl 0 rfl rfl rfl rfl hl.1 rfl (Nat.le_of_ble_eq_true rfl) dL_law_262 ⟨(show cells + 1 ≤ 648565 by omega), (show slots + 6 ≤ 7150408 by omega)⟩ ?_
    refine lv_iload hx hb dL_law_265 (lv_at hl 1 rfl) ?_
    refine zr_icmp_eq (tgt := 272) hx hb dL_law_267 (by decide) (zB_nat (by decide)) (zB_nat (by decide)) (fun _ => ?_) (fun q => absurd rfl q)
    refine lv_iload hx hb dL_law_272 (lv_at hl 1 rfl) ?_
    refine zr_if_ne (tgt := 289) hx hb dL_law_274 (by decide) (zB_nat (by decide)) (fun _ => ?_) (fun q => absurd q (by decide))
    refine lv_goto (tgt := 955) hx hb dL_law_289 (by decide) ?_
    exact K n b rc (bo, wo, ro, fr, sh, po, tn, tb, tbo, two, tro, ch, f) (((1 : Nat) : Int), rwo2, rwy2, rpo2, mu2, mr2, me2, mq2, mt2) H locs ls ⟨hn, hb0, hrc, hset, hmu2, hK, hP, hD, hS, lv_sub hl [2, 3, 4, 5, 6] rfl⟩
set_option maxHeartbeats 8000000 in
set_option maxRecDepth 100000 in
theorem op_bid {p : Program} {l : Launch} {e : Env} {s : State} {m : MethodId} {args : Array Value} {below : List Frame} {meth : Method} {c : Code} {H : Heap} {locs : List Loc} {cells slots : Nat} {Q : State → Prop} {ls : Array Slot} {sb L : Nat} {xs : Nat → Int32} {D : va_G} {cI cJ : ClassId} {h B C G GB GW GR TB TC TG TGB TGW TGR FR CH J M MB MR ME MZ MT : Nat} {k n : Nat} {b : Nat → Int} {rc : Int} {u : zVU} {v : zMU}
    (CC : zLC p l m c s args sb L xs) (I : zLI s D cI cJ sb h B C G GB GW GR TB TC TG TGB TGW TGR FR CH J M MB MR ME MZ MT k n b rc u v H locs ls) (hk : 4 * k + 3 < L) (hc : cells + 1 ≤ 648565) (hs : slots + 6 ≤ 7150408) (K : ∀ (n : Nat) (b : Nat → Int) (rc : Int) (u : zVU) (v : zMU) (H : Heap) (locs : List Loc) (ls : Array Slot), zLI s D cI cJ sb h B C G GB GW GR TB TC TG TGB TGW TGR FR CH J M MB MR ME MZ MT k n b rc u v H locs ls → W p l e room_1 s m args below meth c H locs (cells + 1) (slots + 6) Q (F0 m 955 ls [])) : W p l e room_1 s m args below meth c H locs cells slots Q (F0 m 156 ls []) := by
  obtain ⟨hfl, hF, hX, hsb, hL, hXL⟩ := CC
  obtain ⟨hx, hb, hml, hown, hts⟩ := id hF
  obtain ⟨bo, wo, ro, fr, sh, po, tn, tb, tbo, two, tro, ch, f⟩ := u
  obtain ⟨th, rwo, rwy, rpo, mu, mr, me, mq, mt⟩ := v
  obtain ⟨hn, hb0, hrc, hset, hmu, hK, hP, hD, hS, hl⟩ := I
  have hset : zSet n b rc bo wo ro fr sh po := hset
  have hmu : 0 ≤ mu ∧ mu ≤ 1 := hmu
  have hA : ∀ q, s.heap.size ≤ q → (fun q => s.heap.size ≤ q) q := fun _ h => h
  have hbA : ¬ (fun q => s.heap.size ≤ q) sb := Nat.not_le.mpr hsb
  have hE := hset.2.1
  obtain ⟨z1, hz1, e1⟩ : ∃ z : Int, zB z ∧ (xs (4 * k + 1)).toInt = z := ⟨_, z_toB _, rfl⟩
  obtain ⟨z2, hz2, e2⟩ : ∃ z : Int, zB z ∧ (xs (4 * k + 2)).toInt = z := ⟨_, z_toB _, rfl⟩
  obtain ⟨z3, hz3, e3⟩ : ∃ z : Int, zB z ∧ (xs (4 * k + 3)).toInt = z := ⟨_, z_toB _, rfl⟩
  have hz1a := hz1.1
  have hz1b := hz1.2
  have hz2a := hz2.1
  have hz2b := hz2.2
  have hz3a := hz3.1
  have hz3b := hz3.2
  by_cases hv0 : ((0 ≤ z1 ∧ z1 < (n : Int)) ∧ 0 ≤ z2 ∧ z2 < (n : Int)) ∧ 0 ≤ z3 ∧ z3 ≤ 999
  · obtain ⟨x, rfl⟩ : ∃ q : Nat, z1 = (q : Int) := ⟨z1.toNat, by omega⟩
    obtain ⟨y, rfl⟩ : ∃ q : Nat, z2 = (q : Int) := ⟨z2.toNat, by omega⟩
    refine lv_aload_n hx hb dL_law_156 rfl (lv_at hl 1 rfl) ?_
    refine lv_aload_n hx hb dL_law_157 rfl (lv_at hl 0 rfl) ?_
    refine lv_iload hx hb dL_law_158 (lv_at hl 4 rfl) ?_
    refine zr_ic (n := ((1 : Nat) : Int)) hx hb dL_law_160 ?_
    refine zr_addN (x := 4 * k) (y := 1) hx hb dL_law_161 ?_
    refine zr_sld hx hb hX hsb hbA hS hL (j := 4 * k + 1) (by omega) dL_law_162 ?_
    rw [e1]
    refine lv_aload_n hx hb dL_law_163 rfl (lv_at hl 0 rfl) ?_
    refine lv_iload hx hb dL_law_164 (lv_at hl 4 rfl) ?_
    refine zr_ic (n := ((2 : Nat) : Int)) hx hb dL_law_166 ?_
    refine zr_addN (x := 4 * k) (y := 2) hx hb dL_law_167 ?_
    refine zr_sld hx hb hX hsb hbA hS hL (j := 4 * k + 2) (by omega) dL_law_168 ?_
    rw [e2]
    refine lv_aload_n hx hb dL_law_169 rfl (lv_at hl 0 rfl) ?_
    refine lv_iload hx hb dL_law_170 (lv_at hl 4 rfl) ?_
    refine zr_ic (n := ((3 : Nat) : Int)) hx hb dL_law_172 ?_
    refine zr_addN (x := 4 * k) (y := 3) hx hb dL_law_173 ?_
    refine zr_sld hx hb hX hsb hbA hS hL (j := 4 * k + 3) (by omega) dL_law_174 ?_
    rw [e3]
    refine lv_aload_n hx hb dL_law_175 rfl (lv_at hl 3 rfl) ?_
    refine zc_Ls (As := [.ref h, .int (iI ((x : Nat) : Int)), .int (iI ((y : Nat) : Int)), .int (iI z3), .ref J]) (rest := []) hF (c_L_bid l D cI h B C G GB GW GR TB TC TG TGB TGW TGR FR CH J cJ n b rc bo wo ro fr sh po tn tb tbo two tro ch f x y z3 hn hb0 hrc hset (by omega) (by omega) hv0.2) (vx_cwSW 5 hts gL_law_L_bid rfl rfl rfl (by decide +kernel) ⟨Nat.le_of_ble_eq_true rfl, Nat.le_of_ble_eq_true rfl⟩) hK hP hD hS [0, 1, 2, 3, 4, 5, 6, 7, 8, 9, 10, 11, 12, 13, 14, 15] (by decide) rfl (fun _ => rfl) rfl hl.1 rfl (Nat.le_of_ble_eq_true rfl) dL_law_176 ⟨(show cells ≤ 648565 by omega), (show slots ≤ 7150408 by omega)⟩ (fun r u9 H locs hw hP hD hS => ?_)
    obtain ⟨bo2, wo2, ro2, fr2, sh2, po2, tn2, tb2, tbo2, two2, tro2, ch2, f2⟩ := u9
    obtain ⟨hr1, hset2, hV⟩ := hw
    subst hr1
    have hP : va_P D vwCl (zXW h B C G GB GW GR TB TC TG TGB TGW TGR FR CH J cI cJ n (uZ b (x * 6 + y) z3) rc (bo2, wo2, ro2, fr2, sh2, po2, tn2, tb2, tbo2, two2, tro2, ch2, f2) ++ zMW M MB MR ME MZ MT cI n b rc (th, rwo, rwy, rpo, mu, mr, me, mq, mt)) H := hP
    have hD : va_D (fun q => s.heap.size ≤ q) (zXW h B C G GB GW GR TB TC TG TGB TGW TGR FR CH J cI cJ n (uZ b (x * 6 + y) z3) rc (bo2, wo2, ro2, fr2, sh2, po2, tn2, tb2, tbo2, two2, tro2, ch2, f2) ++ zMW M MB MR ME MZ MT cI n b rc (th, rwo, rwy, rpo, mu, mr, me, mq, mt)) := hD
    have hV : f2 0 = (iI (b (x * 6 + y))).toInt64 := hV
    refine lv_istore (lv' := [(5, .int (iI 0)), (0, .ref sb), (1, .ref h), (2, .ref M), (3, .ref J), (4, .int (iI ((4 * k : Nat) : Int)))]) hx hb dL_law_179 hl (by decide) rfl (fun ls hl => ?_)
    refine lv_aload_n hx hb dL_law_181 rfl (lv_at hl 3 rfl) ?_
    refine lv_aload_n hx hb dL_law_182 rfl (lv_at hl 1 rfl) ?_
    refine lv_iload hx hb dL_law_183 (lv_at hl 5 rfl) ?_
    refine zr_ic (n := ((1 : Nat) : Int)) hx hb dL_law_185 ?_
    refine zr_addN (x := 4 * k) (y := 1) hx hb dL_law_186 ?_
    refine zr_sld hx hb hX hsb hbA hS hL (j := 4 * k + 1) (by omega) dL_law_187 ?_
    rw [e1]
    refine lv_aload_n hx hb dL_law_188 rfl (lv_at hl 1 rfl) ?_
    refine lv_iload hx hb dL_law_189 (lv_at hl 5 rfl) ?_
    refine zr_ic (n := ((2 : Nat) : Int)) hx hb dL_law_191 ?_
    refine zr_addN (x := 4 * k) (y := 2) hx hb dL_law_192 ?_
    refine zr_sld hx hb hX hsb hbA hS hL (j := 4 * k + 2) (by omega) dL_law_193 ?_
    rw [e2]
    refine lv_aload_n hx hb dL_law_194 rfl (lv_at hl 1 rfl) ?_
    refine lv_iload hx hb dL_law_195 (lv_at hl 5 rfl) ?_
    refine zr_ic (n := ((3 : Nat) : Int)) hx hb dL_law_197 ?_
    refine zr_addN (x := 4 * k) (y := 3) hx hb dL_law_198 ?_
    refine zr_sld hx hb hX hsb hbA hS hL (j := 4 * k + 3) (by omega) dL_law_199 ?_
    rw [e3]
    refine zc_wi (As := [.int (iI ((x : Nat) : Int)), .int (iI ((y : Nat) : Int)), .int (iI z3)]) (rest := []) hF (r_bid_ok l D cI M MB MR ME MZ MT n b mr me mq mt th rc rwo rwy rpo mu x y z3 hn hb0 hrc hmu (by omega) (by omega) hv0.2) (cwV 3 hts gL_law_X3_bid rfl rfl rfl (by decide +kernel) ⟨Nat.le_of_ble_eq_true rfl, Nat.le_of_ble_eq_true rfl⟩) hK hP hD hS [16, 17, 18, 19, 20, 21] (by decide) rfl (fun _ => rfl) 0 rfl 0 rfl rfl rfl rfl hl.1 rfl (Nat.le_of_ble_eq_true rfl) dL_law_200 ⟨(show cells ≤ 648565 by omega), (show slots ≤ 7150408 by omega)⟩ (fun r u9 H locs hw hP hD hS => ?_)
    obtain ⟨th2, rwo2, rwy2, rpo2, mu2, mr2, me2, mq2, mt2⟩ := u9
    obtain ⟨hr2, hth, hmu2⟩ := hw
    have hth : th2 = ((0 : Nat) : Int) := hth
    subst hth
    subst hr2
    have hP : va_P D vwCl (zXW h B C G GB GW GR TB TC TG TGB TGW TGR FR CH J cI cJ n (uZ b (x * 6 + y) z3) rc (bo2, wo2, ro2, fr2, sh2, po2, tn2, tb2, tbo2, two2, tro2, ch2, f2) ++ zMW M MB MR ME MZ MT cI n (uZ b (x * 6 + y) z3) rc (((0 : Nat) : Int), rwo2, rwy2, rpo2, mu2, mr2, me2, mq2, mt2)) H := hP
    have hD : va_D (fun q => s.heap.size ≤ q) (zXW h B C G GB GW GR TB TC TG TGB TGW TGR FR CH J cI cJ n (uZ b (x * 6 + y) z3) rc (bo2, wo2, ro2, fr2, sh2, po2, tn2, tb2, tbo2, two2, tro2, ch2, f2) ++ zMW M MB MR ME MZ MT cI n (uZ b (x * 6 + y) z3) rc (((0 : Nat) : Int), rwo2, rwy2, rpo2, mu2, mr2, me2, mq2, mt2)) := hD
    refine lv_istore (lv' := [(6, .int (iI (b (x * 6 + y)))), (5, .int (iI 0)), (0, .ref sb), (1, .ref h), (2, .ref M), (3, .ref J), (4, .int (iI ((4 * k : Nat) : Int)))]) hx hb dL_law_203 hl (by decide) rfl (fun ls hl => ?_)
    refine lv_aload_n hx hb dL_law_205 rfl (lv_at hl 4 rfl) ?_
    refine zc_ri (As := []) (rest := []) hF (c_X3_thrown l D cI M MB MR ME MZ MT n (uZ b (x * 6 + y) z3) mr2 me2 mq2 mt2 ((0 : Nat) : Int) rc rwo2 rwy2 rpo2 (-1) (-1) (-1) mu2) (cwV 0 hts gL_law_X3_thrown rfl rfl rfl (by decide +kernel) ⟨Nat.le_of_ble_eq_true rfl, Nat.le_of_ble_eq_true rfl⟩) hK hP [16, 17, 18, 19, 20, 21] rfl 0 rfl 0 rfl rfl rfl rfl hl.1 rfl (Nat.le_of_ble_eq_true rfl) dL_law_206 ⟨(show cells ≤ 648565 by omega), (show slots ≤ 7150408 by omega)⟩ ?_
    refine lv_iload hx hb dL_law_209 (lv_at hl 1 rfl) ?_
    refine zr_icmp_eq (tgt := 216) hx hb dL_law_211 (by decide) (zB_nat (by decide)) zB_0 (fun _ => ?_) (fun q => absurd rfl q)
    refine lv_iload hx hb dL_law_216 (lv_at hl 1 rfl) ?_
    refine zr_if_ne (tgt := 233) hx hb dL_law_218 (by decide) zB_0 (fun q => absurd rfl q) (fun _ => ?_)
    refine lv_aload_n hx hb dL_law_221 rfl (lv_at hl 5 rfl) ?_
    refine zr_ic (n := ((0 : Nat) : Int)) hx hb dL_law_222 ?_
    refine zr_lald0 hx hb hK hP 15 rfl dL_law_223 ?_
    refine lv_iload hx hb dL_law_224 (lv_at hl 0 rfl) ?_
    refine lv_i2l hx hb dL_law_226 rfl ?_
    refine zr_lcmpE (tgt := 233) hx hb hV dL_law_227 dL_law_228 (by decide) ?_
    refine lv_goto (tgt := 955) hx hb dL_law_233 (by decide) ?_
    refine W.widen (k := cells + 1) (n := slots + 6) (by omega) (by omega) ?_
    exact K n (uZ b (x * 6 + y) z3) rc (bo2, wo2, ro2, fr2, sh2, po2, tn2, tb2, tbo2, two2, tro2, ch2, f2) (((0 : Nat) : Int), rwo2, rwy2, rpo2, mu2, mr2, me2, mq2, mt2) H locs ls ⟨hn, (uZ_b hb0 _ hv0.2), hrc, hset2, hmu2, hK, hP, hD, hS, lv_sub hl [2, 3, 4, 5, 6] rfl⟩
  · by_cases hg : (0 ≤ z1 ∧ z1 < (n : Int)) ∧ 0 ≤ z2 ∧ z2 < (n : Int)
    · obtain ⟨x, rfl⟩ : ∃ q : Nat, z1 = (q : Int) := ⟨z1.toNat, by omega⟩
      obtain ⟨y, rfl⟩ : ∃ q : Nat, z2 = (q : Int) := ⟨z2.toNat, by omega⟩
      refine lv_aload_n hx hb dL_law_156 rfl (lv_at hl 1 rfl) ?_
      refine lv_aload_n hx hb dL_law_157 rfl (lv_at hl 0 rfl) ?_
      refine lv_iload hx hb dL_law_158 (lv_at hl 4 rfl) ?_
      refine zr_ic (n := ((1 : Nat) : Int)) hx hb dL_law_160 ?_
      refine zr_addN (x := 4 * k) (y := 1) hx hb dL_law_161 ?_
      refine zr_sld hx hb hX hsb hbA hS hL (j := 4 * k + 1) (by omega) dL_law_162 ?_
      rw [e1]
      refine lv_aload_n hx hb dL_law_163 rfl (lv_at hl 0 rfl) ?_
      refine lv_iload hx hb dL_law_164 (lv_at hl 4 rfl) ?_
      refine zr_ic (n := ((2 : Nat) : Int)) hx hb dL_law_166 ?_
      refine zr_addN (x := 4 * k) (y := 2) hx hb dL_law_167 ?_
      refine zr_sld hx hb hX hsb hbA hS hL (j := 4 * k + 2) (by omega) dL_law_168 ?_
      rw [e2]
      refine lv_aload_n hx hb dL_law_169 rfl (lv_at hl 0 rfl) ?_
      refine lv_iload hx hb dL_law_170 (lv_at hl 4 rfl) ?_
      refine zr_ic (n := ((3 : Nat) : Int)) hx hb dL_law_172 ?_
      refine zr_addN (x := 4 * k) (y := 3) hx hb dL_law_173 ?_
      refine zr_sld hx hb hX hsb hbA hS hL (j := 4 * k + 3) (by omega) dL_law_174 ?_
      rw [e3]
      refine lv_aload_n hx hb dL_law_175 rfl (lv_at hl 3 rfl) ?_
      refine zc_Lx (As := [.ref h, .int (iI ((x : Nat) : Int)), .int (iI ((y : Nat) : Int)), .int (iI z3), .ref J]) (rest := []) hF (f_L_bid1 l hfl D cI h B C G GB GW GR TB TC TG TGB TGW TGR FR CH J cJ n b rc bo wo ro fr sh po tn tb tbo two tro ch f ((x : Nat) : Int) ((y : Nat) : Int) z3 hn hb0 hz1 hz2 hz3 hg (by omega)) (vx_cwSW 5 hts gL_law_L_bid rfl rfl rfl (by decide +kernel) ⟨Nat.le_of_ble_eq_true rfl, Nat.le_of_ble_eq_true rfl⟩) (fun U h1 h2 => zXL_at (fun _ h => h) (fun _ h => h) hXL hS h2 h1) hK hP hD hS hA [0, 1, 2, 3, 4, 5, 6, 7, 8, 9, 10, 11, 12, 13, 14, 15] rfl rfl hl.1 rfl (Nat.le_of_ble_eq_true rfl) dL_law_176 ⟨(show cells + 1 ≤ 648565 by omega), (show slots + 6 ≤ 7150408 by omega)⟩ (fun H locs hP hS => ?_)
      have hP : va_P D vwCl (zXW h B C G GB GW GR TB TC TG TGB TGW TGR FR CH J cI cJ n b rc (bo, wo, ro, fr, sh, po, tn, tb, tbo, two, tro, ch, f) ++ zMW M MB MR ME MZ MT cI n b rc (th, rwo, rwy, rpo, mu, mr, me, mq, mt)) H := hP
      refine lv_istore (lv' := [(5, .int (iI ((2 : Nat) : Int))), (0, .ref sb), (1, .ref h), (2, .ref M), (3, .ref J), (4, .int (iI ((4 * k : Nat) : Int)))]) hx hb dL_law_179 hl (by decide) rfl (fun ls hl => ?_)
      refine lv_aload_n hx hb dL_law_181 rfl (lv_at hl 3 rfl) ?_
      refine lv_aload_n hx hb dL_law_182 rfl (lv_at hl 1 rfl) ?_
      refine lv_iload hx hb dL_law_183 (lv_at hl 5 rfl) ?_
      refine zr_ic (n := ((1 : Nat) : Int)) hx hb dL_law_185 ?_
      refine zr_addN (x := 4 * k) (y := 1) hx hb dL_law_186 ?_
      refine zr_sld hx hb hX hsb hbA hS hL (j := 4 * k + 1) (by omega) dL_law_187 ?_
      rw [e1]
      refine lv_aload_n hx hb dL_law_188 rfl (lv_at hl 1 rfl) ?_
      refine lv_iload hx hb dL_law_189 (lv_at hl 5 rfl) ?_
      refine zr_ic (n := ((2 : Nat) : Int)) hx hb dL_law_191 ?_
      refine zr_addN (x := 4 * k) (y := 2) hx hb dL_law_192 ?_
      refine zr_sld hx hb hX hsb hbA hS hL (j := 4 * k + 2) (by omega) dL_law_193 ?_
      rw [e2]
      refine lv_aload_n hx hb dL_law_194 rfl (lv_at hl 1 rfl) ?_
      refine lv_iload hx hb dL_law_195 (lv_at hl 5 rfl) ?_
      refine zr_ic (n := ((3 : Nat) : Int)) hx hb dL_law_197 ?_
      refine zr_addN (x := 4 * k) (y := 3) hx hb dL_law_198 ?_
      refine zr_sld hx hb hX hsb hbA hS hL (j := 4 * k + 3) (by omega) dL_law_199 ?_
      rw [e3]
      refine zc_wi (As := [.int (iI ((x : Nat) : Int)), .int (iI ((y : Nat) : Int)), .int (iI z3)]) (rest := []) hF (r_bid_bad2 l D cI M MB MR ME MZ MT n b mr me mq mt th rc rwo rwy rpo mu x y z3 hn (by omega) (by omega) hz3 (by omega) hmu) (cwV 3 hts gL_law_X3_bid rfl rfl rfl (by decide +kernel) ⟨Nat.le_of_ble_eq_true rfl, Nat.le_of_ble_eq_true rfl⟩) hK hP hD hS [16, 17, 18, 19, 20, 21] (by decide) rfl (fun _ => rfl) 0 rfl 0 rfl rfl rfl rfl hl.1 rfl (Nat.le_of_ble_eq_true rfl) dL_law_200 ⟨(show cells + 1 ≤ 648565 by omega), (show slots + 6 ≤ 7150408 by omega)⟩ (fun r u9 H locs hw hP hD hS => ?_)
      obtain ⟨th2, rwo2, rwy2, rpo2, mu2, mr2, me2, mq2, mt2⟩ := u9
      obtain ⟨hr2, hth, hmu2⟩ := hw
      have hth : th2 = ((2 : Nat) : Int) := hth
      subst hth
      subst hr2
      have hP : va_P D vwCl (zXW h B C G GB GW GR TB TC TG TGB TGW TGR FR CH J cI cJ n b rc (bo, wo, ro, fr, sh, po, tn, tb, tbo, two, tro, ch, f) ++ zMW M MB MR ME MZ MT cI n b rc (((2 : Nat) : Int), rwo2, rwy2, rpo2, mu2, mr2, me2, mq2, mt2)) H := hP
      have hD : va_D (fun q => s.heap.size ≤ q) (zXW h B C G GB GW GR TB TC TG TGB TGW TGR FR CH J cI cJ n b rc (bo, wo, ro, fr, sh, po, tn, tb, tbo, two, tro, ch, f) ++ zMW M MB MR ME MZ MT cI n b rc (((2 : Nat) : Int), rwo2, rwy2, rpo2, mu2, mr2, me2, mq2, mt2)) := hD
      refine lv_istore (lv' := [(6, .int (iI 0)), (5, .int (iI ((2 : Nat) : Int))), (0, .ref sb), (1, .ref h), (2, .ref M), (3, .ref J), (4, .int (iI ((4 * k : Nat) : Int)))]) hx hb dL_law_203 hl (by decide) rfl (fun ls hl => ?_)
      refine lv_aload_n hx hb dL_law_205 rfl (lv_at hl 4 rfl) ?_
      refine zc_ri (As := []) (rest := []) hF (c_X3_thrown l D cI M MB MR ME MZ MT n b mr2 me2 mq2 mt2 ((2 : Nat) : Int) rc rwo2 rwy2 rpo2 (-1) (-1) (-1) mu2) (cwV 0 hts gL_law_X3_thrown rfl rfl rfl (by decide +kernel) ⟨Nat.le_of_ble_eq_true rfl, Nat.le_of_ble_eq_true rfl⟩) hK hP [16, 17, 18, 19, 20, 21] rfl 0 rfl 0 rfl rfl rfl rfl hl.1 rfl (Nat.le_of_ble_eq_true rfl) dL_law_206 ⟨(show cells + 1 ≤ 648565 by omega), (show slots + 6 ≤ 7150408 by omega)⟩ ?_
      refine lv_iload hx hb dL_law_209 (lv_at hl 1 rfl) ?_
      refine zr_icmp_eq (tgt := 216) hx hb dL_law_211 (by decide) (zB_nat (by decide)) (zB_nat (by decide)) (fun _ => ?_) (fun q => absurd rfl q)
      refine lv_iload hx hb dL_law_216 (lv_at hl 1 rfl) ?_
      refine zr_if_ne (tgt := 233) hx hb dL_law_218 (by decide) (zB_nat (by decide)) (fun _ => ?_) (fun q => absurd q (by decide))
      refine lv_goto (tgt := 955) hx hb dL_law_233 (by decide) ?_
      exact K n b rc (bo, wo, ro, fr, sh, po, tn, tb, tbo, two, tro, ch, f) (((2 : Nat) : Int), rwo2, rwy2, rpo2, mu2, mr2, me2, mq2, mt2) H locs ls ⟨hn, hb0, hrc, hset, hmu2, hK, hP, hD, hS, lv_sub hl [2, 3, 4, 5, 6] rfl⟩
    · refine lv_aload_n hx hb dL_law_156 rfl (lv_at hl 1 rfl) ?_
      refine lv_aload_n hx hb dL_law_157 rfl (lv_at hl 0 rfl) ?_
      refine lv_iload hx hb dL_law_158 (lv_at hl 4 rfl) ?_
      refine zr_ic (n := ((1 : Nat) : Int)) hx hb dL_law_160 ?_
      refine zr_addN (x := 4 * k) (y := 1) hx hb dL_law_161 ?_
      refine zr_sld hx hb hX hsb hbA hS hL (j := 4 * k + 1) (by omega) dL_law_162 ?_
      rw [e1]
      refine lv_aload_n hx hb dL_law_163 rfl (lv_at hl 0 rfl) ?_
      refine lv_iload hx hb dL_law_164 (lv_at hl 4 rfl) ?_
      refine zr_ic (n := ((2 : Nat) : Int)) hx hb dL_law_166 ?_
      refine zr_addN (x := 4 * k) (y := 2) hx hb dL_law_167 ?_
      refine zr_sld hx hb hX hsb hbA hS hL (j := 4 * k + 2) (by omega) dL_law_168 ?_
      rw [e2]
      refine lv_aload_n hx hb dL_law_169 rfl (lv_at hl 0 rfl) ?_
      refine lv_iload hx hb dL_law_170 (lv_at hl 4 rfl) ?_
      refine zr_ic (n := ((3 : Nat) : Int)) hx hb dL_law_172 ?_
      refine zr_addN (x := 4 * k) (y := 3) hx hb dL_law_173 ?_
      refine zr_sld hx hb hX hsb hbA hS hL (j := 4 * k + 3) (by omega) dL_law_174 ?_
      rw [e3]
      refine lv_aload_n hx hb dL_law_175 rfl (lv_at hl 3 rfl) ?_
      refine zc_Lx (As := [.ref h, .int (iI z1), .int (iI z2), .int (iI z3), .ref J]) (rest := []) hF (f_L_bid l hfl D cI h B C G GB GW GR TB TC TG TGB TGW TGR FR CH J cJ n b rc bo wo ro fr sh po tn tb tbo two tro ch f z1 z2 z3 hn hb0 hz1 hz2 hz3 hg) (vx_cwSW 5 hts gL_law_L_bid rfl rfl rfl (by decide +kernel) ⟨Nat.le_of_ble_eq_true rfl, Nat.le_of_ble_eq_true rfl⟩) (fun U h1 h2 => zXL_at (fun _ h => h) (fun _ h => h) hXL hS h2 h1) hK hP hD hS hA [0, 1, 2, 3, 4, 5, 6, 7, 8, 9, 10, 11, 12, 13, 14, 15] rfl rfl hl.1 rfl (Nat.le_of_ble_eq_true rfl) dL_law_176 ⟨(show cells + 1 ≤ 648565 by omega), (show slots + 6 ≤ 7150408 by omega)⟩ (fun H locs hP hS => ?_)
      have hP : va_P D vwCl (zXW h B C G GB GW GR TB TC TG TGB TGW TGR FR CH J cI cJ n b rc (bo, wo, ro, fr, sh, po, tn, tb, tbo, two, tro, ch, f) ++ zMW M MB MR ME MZ MT cI n b rc (th, rwo, rwy, rpo, mu, mr, me, mq, mt)) H := hP
      refine lv_istore (lv' := [(5, .int (iI ((1 : Nat) : Int))), (0, .ref sb), (1, .ref h), (2, .ref M), (3, .ref J), (4, .int (iI ((4 * k : Nat) : Int)))]) hx hb dL_law_179 hl (by decide) rfl (fun ls hl => ?_)
      refine lv_aload_n hx hb dL_law_181 rfl (lv_at hl 3 rfl) ?_
      refine lv_aload_n hx hb dL_law_182 rfl (lv_at hl 1 rfl) ?_
      refine lv_iload hx hb dL_law_183 (lv_at hl 5 rfl) ?_
      refine zr_ic (n := ((1 : Nat) : Int)) hx hb dL_law_185 ?_
      refine zr_addN (x := 4 * k) (y := 1) hx hb dL_law_186 ?_
      refine zr_sld hx hb hX hsb hbA hS hL (j := 4 * k + 1) (by omega) dL_law_187 ?_
      rw [e1]
      refine lv_aload_n hx hb dL_law_188 rfl (lv_at hl 1 rfl) ?_
      refine lv_iload hx hb dL_law_189 (lv_at hl 5 rfl) ?_
      refine zr_ic (n := ((2 : Nat) : Int)) hx hb dL_law_191 ?_
      refine zr_addN (x := 4 * k) (y := 2) hx hb dL_law_192 ?_
      refine zr_sld hx hb hX hsb hbA hS hL (j := 4 * k + 2) (by omega) dL_law_193 ?_
      rw [e2]
      refine lv_aload_n hx hb dL_law_194 rfl (lv_at hl 1 rfl) ?_
      refine lv_iload hx hb dL_law_195 (lv_at hl 5 rfl) ?_
      refine zr_ic (n := ((3 : Nat) : Int)) hx hb dL_law_197 ?_
      refine zr_addN (x := 4 * k) (y := 3) hx hb dL_law_198 ?_
      refine zr_sld hx hb hX hsb hbA hS hL (j := 4 * k + 3) (by omega) dL_law_199 ?_
      rw [e3]
      refine zc_wi (As := [.int (iI z1), .int (iI z2), .int (iI z3)]) (rest := []) hF (r_bid_bad1 l D cI M MB MR ME MZ MT n b mr me mq mt th rc rwo rwy rpo mu z1 z2 z3 hn hz1 hz2 hg hmu) (cwV 3 hts gL_law_X3_bid rfl rfl rfl (by decide +kernel) ⟨Nat.le_of_ble_eq_true rfl, Nat.le_of_ble_eq_true rfl⟩) hK hP hD hS [16, 17, 18, 19, 20, 21] (by decide) rfl (fun _ => rfl) 0 rfl 0 rfl rfl rfl rfl hl.1 rfl (Nat.le_of_ble_eq_true rfl) dL_law_200 ⟨(show cells + 1 ≤ 648565 by omega), (show slots + 6 ≤ 7150408 by omega)⟩ (fun r u9 H locs hw hP hD hS => ?_)
      obtain ⟨th2, rwo2, rwy2, rpo2, mu2, mr2, me2, mq2, mt2⟩ := u9
      obtain ⟨hr2, hth, hmu2⟩ := hw
      have hth : th2 = ((1 : Nat) : Int) := hth
      subst hth
      subst hr2
      have hP : va_P D vwCl (zXW h B C G GB GW GR TB TC TG TGB TGW TGR FR CH J cI cJ n b rc (bo, wo, ro, fr, sh, po, tn, tb, tbo, two, tro, ch, f) ++ zMW M MB MR ME MZ MT cI n b rc (((1 : Nat) : Int), rwo2, rwy2, rpo2, mu2, mr2, me2, mq2, mt2)) H := hP
      have hD : va_D (fun q => s.heap.size ≤ q) (zXW h B C G GB GW GR TB TC TG TGB TGW TGR FR CH J cI cJ n b rc (bo, wo, ro, fr, sh, po, tn, tb, tbo, two, tro, ch, f) ++ zMW M MB MR ME MZ MT cI n b rc (((1 : Nat) : Int), rwo2, rwy2, rpo2, mu2, mr2, me2, mq2, mt2)) := hD
      refine lv_istore (lv' := [(6, .int (iI 0)), (5, .int (iI ((1 : Nat) : Int))), (0, .ref sb), (1, .ref h), (2, .ref M), (3, .ref J), (4, .int (iI ((4 * k : Nat) : Int)))]) hx hb dL_law_203 hl (by decide) rfl (fun ls hl => ?_)
      refine lv_aload_n hx hb dL_law_205 rfl (lv_at hl 4 rfl) ?_
      refine zc_ri (As := []) (rest := []) hF (c_X3_thrown l D cI M MB MR ME MZ MT n b mr2 me2 mq2 mt2 ((1 : Nat) : Int) rc rwo2 rwy2 rpo2 (-1) (-1) (-1) mu2) (cwV 0 hts gL_law_X3_thrown rfl rfl rfl (by decide +kernel) ⟨Nat.le_of_ble_eq_true rfl, Nat.le_of_ble_eq_true rfl⟩) hK hP [16, 17, 18, 19, 20, 21] rfl 0 rfl 0 rfl rfl rfl rfl hl.1 rfl (Nat.le_of_ble_eq_true rfl) dL_law_206 ⟨(show cells + 1 ≤ 648565 by omega), (show slots + 6 ≤ 7150408 by omega)⟩ ?_
      refine lv_iload hx hb dL_law_209 (lv_at hl 1 rfl) ?_
      refine zr_icmp_eq (tgt := 216) hx hb dL_law_211 (by decide) (zB_nat (by decide)) (zB_nat (by decide)) (fun _ => ?_) (fun q => absurd rfl q)
      refine lv_iload hx hb dL_law_216 (lv_at hl 1 rfl) ?_
      refine zr_if_ne (tgt := 233) hx hb dL_law_218 (by decide) (zB_nat (by decide)) (fun _ => ?_) (fun q => absurd q (by decide))
      refine lv_goto (tgt := 955) hx hb dL_law_233 (by decide) ?_
      exact K n b rc (bo, wo, ro, fr, sh, po, tn, tb, tbo, two, tro, ch, f) (((1 : Nat) : Int), rwo2, rwy2, rpo2, mu2, mr2, me2, mq2, mt2) H locs ls ⟨hn, hb0, hrc, hset, hmu2, hK, hP, hD, hS, lv_sub hl [2, 3, 4, 5, 6] rfl⟩
set_option maxHeartbeats 8000000 in
set_option maxRecDepth 100000 in
theorem op_would {p : Program} {l : Launch} {e : Env} {s : State} {m : MethodId} {args : Array Value} {below : List Frame} {meth : Method} {c : Code} {H : Heap} {locs : List Loc} {cells slots : Nat} {Q : State → Prop} {ls : Array Slot} {sb L : Nat} {xs : Nat → Int32} {D : va_G} {cI cJ : ClassId} {h B C G GB GW GR TB TC TG TGB TGW TGR FR CH J M MB MR ME MZ MT : Nat} {k n : Nat} {b : Nat → Int} {rc : Int} {u : zVU} {v : zMU}
    (CC : zLC p l m c s args sb L xs) (I : zLI s D cI cJ sb h B C G GB GW GR TB TC TG TGB TGW TGR FR CH J M MB MR ME MZ MT k n b rc u v H locs ls) (hk : 4 * k + 3 < L) (hc : cells + 1 ≤ 648565) (hs : slots + 6 ≤ 7150408) (K : ∀ (n : Nat) (b : Nat → Int) (rc : Int) (u : zVU) (v : zMU) (H : Heap) (locs : List Loc) (ls : Array Slot), zLI s D cI cJ sb h B C G GB GW GR TB TC TG TGB TGW TGR FR CH J M MB MR ME MZ MT k n b rc u v H locs ls → W p l e room_1 s m args below meth c H locs (cells + 1) (slots + 6) Q (F0 m 955 ls [])) : W p l e room_1 s m args below meth c H locs cells slots Q (F0 m 696 ls []) := by
  obtain ⟨hfl, hF, hX, hsb, hL, hXL⟩ := CC
  obtain ⟨hx, hb, hml, hown, hts⟩ := id hF
  obtain ⟨bo, wo, ro, fr, sh, po, tn, tb, tbo, two, tro, ch, f⟩ := u
  obtain ⟨th, rwo, rwy, rpo, mu, mr, me, mq, mt⟩ := v
  obtain ⟨hn, hb0, hrc, hset, hmu, hK, hP, hD, hS, hl⟩ := I
  have hset : zSet n b rc bo wo ro fr sh po := hset
  have hmu : 0 ≤ mu ∧ mu ≤ 1 := hmu
  have hA : ∀ q, s.heap.size ≤ q → (fun q => s.heap.size ≤ q) q := fun _ h => h
  have hbA : ¬ (fun q => s.heap.size ≤ q) sb := Nat.not_le.mpr hsb
  have hE := hset.2.1
  obtain ⟨z1, hz1, e1⟩ : ∃ z : Int, zB z ∧ (xs (4 * k + 1)).toInt = z := ⟨_, z_toB _, rfl⟩
  obtain ⟨z2, hz2, e2⟩ : ∃ z : Int, zB z ∧ (xs (4 * k + 2)).toInt = z := ⟨_, z_toB _, rfl⟩
  obtain ⟨z3, hz3, e3⟩ : ∃ z : Int, zB z ∧ (xs (4 * k + 3)).toInt = z := ⟨_, z_toB _, rfl⟩
  have hz1a := hz1.1
  have hz1b := hz1.2
  have hz2a := hz2.1
  have hz2b := hz2.2
  have hz3a := hz3.1
  have hz3b := hz3.2
  by_cases hv0 : ((0 ≤ z1 ∧ z1 < (n : Int)) ∧ 0 ≤ z2 ∧ z2 < (n : Int)) ∧ 0 ≤ z3 ∧ z3 ≤ 999
  · obtain ⟨x, rfl⟩ : ∃ q : Nat, z1 = (q : Int) := ⟨z1.toNat, by omega⟩
    obtain ⟨y, rfl⟩ : ∃ q : Nat, z2 = (q : Int) := ⟨z2.toNat, by omega⟩
    refine lv_aload_n hx hb dL_law_696 rfl (lv_at hl 1 rfl) ?_
    refine lv_aload_n hx hb dL_law_697 rfl (lv_at hl 0 rfl) ?_
    refine lv_iload hx hb dL_law_698 (lv_at hl 4 rfl) ?_
    refine zr_ic (n := ((1 : Nat) : Int)) hx hb dL_law_700 ?_
    refine zr_addN (x := 4 * k) (y := 1) hx hb dL_law_701 ?_
    refine zr_sld hx hb hX hsb hbA hS hL (j := 4 * k + 1) (by omega) dL_law_702 ?_
    rw [e1]
    refine lv_aload_n hx hb dL_law_703 rfl (lv_at hl 0 rfl) ?_
    refine lv_iload hx hb dL_law_704 (lv_at hl 4 rfl) ?_
    refine zr_ic (n := ((2 : Nat) : Int)) hx hb dL_law_706 ?_
    refine zr_addN (x := 4 * k) (y := 2) hx hb dL_law_707 ?_
    refine zr_sld hx hb hX hsb hbA hS hL (j := 4 * k + 2) (by omega) dL_law_708 ?_
    rw [e2]
    refine lv_aload_n hx hb dL_law_709 rfl (lv_at hl 0 rfl) ?_
    refine lv_iload hx hb dL_law_710 (lv_at hl 4 rfl) ?_
    refine zr_ic (n := ((3 : Nat) : Int)) hx hb dL_law_712 ?_
    refine zr_addN (x := 4 * k) (y := 3) hx hb dL_law_713 ?_
    refine zr_sld hx hb hX hsb hbA hS hL (j := 4 * k + 3) (by omega) dL_law_714 ?_
    rw [e3]
    refine lv_aload_n hx hb dL_law_715 rfl (lv_at hl 3 rfl) ?_
    refine zc_Ls (As := [.ref h, .int (iI ((x : Nat) : Int)), .int (iI ((y : Nat) : Int)), .int (iI z3), .ref J]) (rest := []) hF (c_L_would l D cI h B C G GB GW GR TB TC TG TGB TGW TGR FR CH J cJ n b rc bo wo ro fr sh po tn tb tbo two tro ch f x y z3 hn hb0 hrc hset (by omega) (by omega) hv0.2) (vx_cwSW 5 hts gL_law_L_would rfl rfl rfl (by decide +kernel) ⟨Nat.le_of_ble_eq_true rfl, Nat.le_of_ble_eq_true rfl⟩) hK hP hD hS [0, 1, 2, 3, 4, 5, 6, 7, 8, 9, 10, 11, 12, 13, 14, 15] (by decide) rfl (fun _ => rfl) rfl hl.1 rfl (Nat.le_of_ble_eq_true rfl) dL_law_716 ⟨(show cells ≤ 648565 by omega), (show slots ≤ 7150408 by omega)⟩ (fun r u9 H locs hw hP hD hS => ?_)
    obtain ⟨bo2, wo2, ro2, fr2, sh2, po2, tn2, tb2, tbo2, two2, tro2, ch2, f2⟩ := u9
    obtain ⟨hr1, hset2, hV⟩ := hw
    subst hr1
    have hP : va_P D vwCl (zXW h B C G GB GW GR TB TC TG TGB TGW TGR FR CH J cI cJ n b rc (bo2, wo2, ro2, fr2, sh2, po2, tn2, tb2, tbo2, two2, tro2, ch2, f2) ++ zMW M MB MR ME MZ MT cI n b rc (th, rwo, rwy, rpo, mu, mr, me, mq, mt)) H := hP
    have hD : va_D (fun q => s.heap.size ≤ q) (zXW h B C G GB GW GR TB TC TG TGB TGW TGR FR CH J cI cJ n b rc (bo2, wo2, ro2, fr2, sh2, po2, tn2, tb2, tbo2, two2, tro2, ch2, f2) ++ zMW M MB MR ME MZ MT cI n b rc (th, rwo, rwy, rpo, mu, mr, me, mq, mt)) := hD
    have hV : f2 0 = (iI (((zRo n (uZ b (x * 6 + y) z3) x : Nat) : Int))).toInt64 := hV
    refine lv_istore (lv' := [(5, .int (iI 0)), (0, .ref sb), (1, .ref h), (2, .ref M), (3, .ref J), (4, .int (iI ((4 * k : Nat) : Int)))]) hx hb dL_law_719 hl (by decide) rfl (fun ls hl => ?_)
    refine lv_aload_n hx hb dL_law_721 rfl (lv_at hl 3 rfl) ?_
    refine lv_aload_n hx hb dL_law_722 rfl (lv_at hl 1 rfl) ?_
    refine lv_iload hx hb dL_law_723 (lv_at hl 5 rfl) ?_
    refine zr_ic (n := ((1 : Nat) : Int)) hx hb dL_law_725 ?_
    refine zr_addN (x := 4 * k) (y := 1) hx hb dL_law_726 ?_
    refine zr_sld hx hb hX hsb hbA hS hL (j := 4 * k + 1) (by omega) dL_law_727 ?_
    rw [e1]
    refine lv_aload_n hx hb dL_law_728 rfl (lv_at hl 1 rfl) ?_
    refine lv_iload hx hb dL_law_729 (lv_at hl 5 rfl) ?_
    refine zr_ic (n := ((2 : Nat) : Int)) hx hb dL_law_731 ?_
    refine zr_addN (x := 4 * k) (y := 2) hx hb dL_law_732 ?_
    refine zr_sld hx hb hX hsb hbA hS hL (j := 4 * k + 2) (by omega) dL_law_733 ?_
    rw [e2]
    refine lv_aload_n hx hb dL_law_734 rfl (lv_at hl 1 rfl) ?_
    refine lv_iload hx hb dL_law_735 (lv_at hl 5 rfl) ?_
    refine zr_ic (n := ((3 : Nat) : Int)) hx hb dL_law_737 ?_
    refine zr_addN (x := 4 * k) (y := 3) hx hb dL_law_738 ?_
    refine zr_sld hx hb hX hsb hbA hS hL (j := 4 * k + 3) (by omega) dL_law_739 ?_
    rw [e3]
    refine zc_wi (As := [.int (iI ((x : Nat) : Int)), .int (iI ((y : Nat) : Int)), .int (iI z3)]) (rest := []) hF (r_would_ok l D cI M MB MR ME MZ MT n b mr me mq mt th rc rwo rwy rpo mu x y z3 hn hb0 hrc hmu (by omega) (by omega) hv0.2) (cwV 3 hts gL_law_X3_would rfl rfl rfl (by decide +kernel) ⟨Nat.le_of_ble_eq_true rfl, Nat.le_of_ble_eq_true rfl⟩) hK hP hD hS [16, 17, 18, 19, 20, 21] (by decide) rfl (fun _ => rfl) 0 rfl 0 rfl rfl rfl rfl hl.1 rfl (Nat.le_of_ble_eq_true rfl) dL_law_740 ⟨(show cells ≤ 648565 by omega), (show slots ≤ 7150408 by omega)⟩ (fun r u9 H locs hw hP hD hS => ?_)
    obtain ⟨th2, rwo2, rwy2, rpo2, mu2, mr2, me2, mq2, mt2⟩ := u9
    obtain ⟨hr2, hth, hmu2⟩ := hw
    have hth : th2 = ((0 : Nat) : Int) := hth
    subst hth
    subst hr2
    have hP : va_P D vwCl (zXW h B C G GB GW GR TB TC TG TGB TGW TGR FR CH J cI cJ n b rc (bo2, wo2, ro2, fr2, sh2, po2, tn2, tb2, tbo2, two2, tro2, ch2, f2) ++ zMW M MB MR ME MZ MT cI n b rc (((0 : Nat) : Int), rwo2, rwy2, rpo2, mu2, mr2, me2, mq2, mt2)) H := hP
    have hD : va_D (fun q => s.heap.size ≤ q) (zXW h B C G GB GW GR TB TC TG TGB TGW TGR FR CH J cI cJ n b rc (bo2, wo2, ro2, fr2, sh2, po2, tn2, tb2, tbo2, two2, tro2, ch2, f2) ++ zMW M MB MR ME MZ MT cI n b rc (((0 : Nat) : Int), rwo2, rwy2, rpo2, mu2, mr2, me2, mq2, mt2)) := hD
    refine lv_istore (lv' := [(6, .int (iI (((zRo n (uZ b (x * 6 + y) z3) x : Nat) : Int)))), (5, .int (iI 0)), (0, .ref sb), (1, .ref h), (2, .ref M), (3, .ref J), (4, .int (iI ((4 * k : Nat) : Int)))]) hx hb dL_law_743 hl (by decide) rfl (fun ls hl => ?_)
    refine lv_aload_n hx hb dL_law_745 rfl (lv_at hl 4 rfl) ?_
    refine zc_ri (As := []) (rest := []) hF (c_X3_thrown l D cI M MB MR ME MZ MT n b mr2 me2 mq2 mt2 ((0 : Nat) : Int) rc rwo2 rwy2 rpo2 (-1) (-1) (-1) mu2) (cwV 0 hts gL_law_X3_thrown rfl rfl rfl (by decide +kernel) ⟨Nat.le_of_ble_eq_true rfl, Nat.le_of_ble_eq_true rfl⟩) hK hP [16, 17, 18, 19, 20, 21] rfl 0 rfl 0 rfl rfl rfl rfl hl.1 rfl (Nat.le_of_ble_eq_true rfl) dL_law_746 ⟨(show cells ≤ 648565 by omega), (show slots ≤ 7150408 by omega)⟩ ?_
    refine lv_iload hx hb dL_law_749 (lv_at hl 1 rfl) ?_
    refine zr_icmp_eq (tgt := 756) hx hb dL_law_751 (by decide) (zB_nat (by decide)) zB_0 (fun _ => ?_) (fun q => absurd rfl q)
    refine lv_iload hx hb dL_law_756 (lv_at hl 1 rfl) ?_
    refine zr_if_ne (tgt := 773) hx hb dL_law_758 (by decide) zB_0 (fun q => absurd rfl q) (fun _ => ?_)
    refine lv_aload_n hx hb dL_law_761 rfl (lv_at hl 5 rfl) ?_
    refine zr_ic (n := ((0 : Nat) : Int)) hx hb dL_law_762 ?_
    refine zr_lald0 hx hb hK hP 15 rfl dL_law_763 ?_
    refine lv_iload hx hb dL_law_764 (lv_at hl 0 rfl) ?_
    refine lv_i2l hx hb dL_law_766 rfl ?_
    refine zr_lcmpE (tgt := 773) hx hb hV dL_law_767 dL_law_768 (by decide) ?_
    refine lv_goto (tgt := 955) hx hb dL_law_773 (by decide) ?_
    refine W.widen (k := cells + 1) (n := slots + 6) (by omega) (by omega) ?_
    exact K n b rc (bo2, wo2, ro2, fr2, sh2, po2, tn2, tb2, tbo2, two2, tro2, ch2, f2) (((0 : Nat) : Int), rwo2, rwy2, rpo2, mu2, mr2, me2, mq2, mt2) H locs ls ⟨hn, hb0, hrc, hset2, hmu2, hK, hP, hD, hS, lv_sub hl [2, 3, 4, 5, 6] rfl⟩
  · by_cases hg : (0 ≤ z1 ∧ z1 < (n : Int)) ∧ 0 ≤ z2 ∧ z2 < (n : Int)
    · obtain ⟨x, rfl⟩ : ∃ q : Nat, z1 = (q : Int) := ⟨z1.toNat, by omega⟩
      obtain ⟨y, rfl⟩ : ∃ q : Nat, z2 = (q : Int) := ⟨z2.toNat, by omega⟩
      refine lv_aload_n hx hb dL_law_696 rfl (lv_at hl 1 rfl) ?_
      refine lv_aload_n hx hb dL_law_697 rfl (lv_at hl 0 rfl) ?_
      refine lv_iload hx hb dL_law_698 (lv_at hl 4 rfl) ?_
      refine zr_ic (n := ((1 : Nat) : Int)) hx hb dL_law_700 ?_
      refine zr_addN (x := 4 * k) (y := 1) hx hb dL_law_701 ?_
      refine zr_sld hx hb hX hsb hbA hS hL (j := 4 * k + 1) (by omega) dL_law_702 ?_
      rw [e1]
      refine lv_aload_n hx hb dL_law_703 rfl (lv_at hl 0 rfl) ?_
      refine lv_iload hx hb dL_law_704 (lv_at hl 4 rfl) ?_
      refine zr_ic (n := ((2 : Nat) : Int)) hx hb dL_law_706 ?_
      refine zr_addN (x := 4 * k) (y := 2) hx hb dL_law_707 ?_
      refine zr_sld hx hb hX hsb hbA hS hL (j := 4 * k + 2) (by omega) dL_law_708 ?_
      rw [e2]
      refine lv_aload_n hx hb dL_law_709 rfl (lv_at hl 0 rfl) ?_
      refine lv_iload hx hb dL_law_710 (lv_at hl 4 rfl) ?_
      refine zr_ic (n := ((3 : Nat) : Int)) hx hb dL_law_712 ?_
      refine zr_addN (x := 4 * k) (y := 3) hx hb dL_law_713 ?_
      refine zr_sld hx hb hX hsb hbA hS hL (j := 4 * k + 3) (by omega) dL_law_714 ?_
      rw [e3]
      refine lv_aload_n hx hb dL_law_715 rfl (lv_at hl 3 rfl) ?_
      refine zc_Lx (As := [.ref h, .int (iI ((x : Nat) : Int)), .int (iI ((y : Nat) : Int)), .int (iI z3), .ref J]) (rest := []) hF (f_L_would1 l hfl D cI h B C G GB GW GR TB TC TG TGB TGW TGR FR CH J cJ n b rc bo wo ro fr sh po tn tb tbo two tro ch f ((x : Nat) : Int) ((y : Nat) : Int) z3 hn hb0 hz1 hz2 hz3 hg (by omega)) (vx_cwSW 5 hts gL_law_L_would rfl rfl rfl (by decide +kernel) ⟨Nat.le_of_ble_eq_true rfl, Nat.le_of_ble_eq_true rfl⟩) (fun U h1 h2 => zXL_at (fun _ h => h) (fun _ h => h) hXL hS h2 h1) hK hP hD hS hA [0, 1, 2, 3, 4, 5, 6, 7, 8, 9, 10, 11, 12, 13, 14, 15] rfl rfl hl.1 rfl (Nat.le_of_ble_eq_true rfl) dL_law_716 ⟨(show cells + 1 ≤ 648565 by omega), (show slots + 6 ≤ 7150408 by omega)⟩ (fun H locs hP hS => ?_)
      have hP : va_P D vwCl (zXW h B C G GB GW GR TB TC TG TGB TGW TGR FR CH J cI cJ n b rc (bo, wo, ro, fr, sh, po, tn, tb, tbo, two, tro, ch, f) ++ zMW M MB MR ME MZ MT cI n b rc (th, rwo, rwy, rpo, mu, mr, me, mq, mt)) H := hP
      refine lv_istore (lv' := [(5, .int (iI ((2 : Nat) : Int))), (0, .ref sb), (1, .ref h), (2, .ref M), (3, .ref J), (4, .int (iI ((4 * k : Nat) : Int)))]) hx hb dL_law_719 hl (by decide) rfl (fun ls hl => ?_)
      refine lv_aload_n hx hb dL_law_721 rfl (lv_at hl 3 rfl) ?_
      refine lv_aload_n hx hb dL_law_722 rfl (lv_at hl 1 rfl) ?_
      refine lv_iload hx hb dL_law_723 (lv_at hl 5 rfl) ?_
      refine zr_ic (n := ((1 : Nat) : Int)) hx hb dL_law_725 ?_
      refine zr_addN (x := 4 * k) (y := 1) hx hb dL_law_726 ?_
      refine zr_sld hx hb hX hsb hbA hS hL (j := 4 * k + 1) (by omega) dL_law_727 ?_
      rw [e1]
      refine lv_aload_n hx hb dL_law_728 rfl (lv_at hl 1 rfl) ?_
      refine lv_iload hx hb dL_law_729 (lv_at hl 5 rfl) ?_
      refine zr_ic (n := ((2 : Nat) : Int)) hx hb dL_law_731 ?_
      refine zr_addN (x := 4 * k) (y := 2) hx hb dL_law_732 ?_
      refine zr_sld hx hb hX hsb hbA hS hL (j := 4 * k + 2) (by omega) dL_law_733 ?_
      rw [e2]
      refine lv_aload_n hx hb dL_law_734 rfl (lv_at hl 1 rfl) ?_
      refine lv_iload hx hb dL_law_735 (lv_at hl 5 rfl) ?_
      refine zr_ic (n := ((3 : Nat) : Int)) hx hb dL_law_737 ?_
      refine zr_addN (x := 4 * k) (y := 3) hx hb dL_law_738 ?_
      refine zr_sld hx hb hX hsb hbA hS hL (j := 4 * k + 3) (by omega) dL_law_739 ?_
      rw [e3]
      refine zc_wi (As := [.int (iI ((x : Nat) : Int)), .int (iI ((y : Nat) : Int)), .int (iI z3)]) (rest := []) hF (r_would_bad2 l D cI M MB MR ME MZ MT n b mr me mq mt th rc rwo rwy rpo mu x y z3 hn (by omega) (by omega) hz3 (by omega) hmu) (cwV 3 hts gL_law_X3_would rfl rfl rfl (by decide +kernel) ⟨Nat.le_of_ble_eq_true rfl, Nat.le_of_ble_eq_true rfl⟩) hK hP hD hS [16, 17, 18, 19, 20, 21] (by decide) rfl (fun _ => rfl) 0 rfl 0 rfl rfl rfl rfl hl.1 rfl (Nat.le_of_ble_eq_true rfl) dL_law_740 ⟨(show cells + 1 ≤ 648565 by omega), (show slots + 6 ≤ 7150408 by omega)⟩ (fun r u9 H locs hw hP hD hS => ?_)
      obtain ⟨th2, rwo2, rwy2, rpo2, mu2, mr2, me2, mq2, mt2⟩ := u9
      obtain ⟨hr2, hth, hmu2⟩ := hw
      have hth : th2 = ((2 : Nat) : Int) := hth
      subst hth
      subst hr2
      have hP : va_P D vwCl (zXW h B C G GB GW GR TB TC TG TGB TGW TGR FR CH J cI cJ n b rc (bo, wo, ro, fr, sh, po, tn, tb, tbo, two, tro, ch, f) ++ zMW M MB MR ME MZ MT cI n b rc (((2 : Nat) : Int), rwo2, rwy2, rpo2, mu2, mr2, me2, mq2, mt2)) H := hP
      have hD : va_D (fun q => s.heap.size ≤ q) (zXW h B C G GB GW GR TB TC TG TGB TGW TGR FR CH J cI cJ n b rc (bo, wo, ro, fr, sh, po, tn, tb, tbo, two, tro, ch, f) ++ zMW M MB MR ME MZ MT cI n b rc (((2 : Nat) : Int), rwo2, rwy2, rpo2, mu2, mr2, me2, mq2, mt2)) := hD
      refine lv_istore (lv' := [(6, .int (iI 0)), (5, .int (iI ((2 : Nat) : Int))), (0, .ref sb), (1, .ref h), (2, .ref M), (3, .ref J), (4, .int (iI ((4 * k : Nat) : Int)))]) hx hb dL_law_743 hl (by decide) rfl (fun ls hl => ?_)
      refine lv_aload_n hx hb dL_law_745 rfl (lv_at hl 4 rfl) ?_
      refine zc_ri (As := []) (rest := []) hF (c_X3_thrown l D cI M MB MR ME MZ MT n b mr2 me2 mq2 mt2 ((2 : Nat) : Int) rc rwo2 rwy2 rpo2 (-1) (-1) (-1) mu2) (cwV 0 hts gL_law_X3_thrown rfl rfl rfl (by decide +kernel) ⟨Nat.le_of_ble_eq_true rfl, Nat.le_of_ble_eq_true rfl⟩) hK hP [16, 17, 18, 19, 20, 21] rfl 0 rfl 0 rfl rfl rfl rfl hl.1 rfl (Nat.le_of_ble_eq_true rfl) dL_law_746 ⟨(show cells + 1 ≤ 648565 by omega), (show slots + 6 ≤ 7150408 by omega)⟩ ?_
      refine lv_iload hx hb dL_law_749 (lv_at hl 1 rfl) ?_
      refine zr_icmp_eq (tgt := 756) hx hb dL_law_751 (by decide) (zB_nat (by decide)) (zB_nat (by decide)) (fun _ => ?_) (fun q => absurd rfl q)
      refine lv_iload hx hb dL_law_756 (lv_at hl 1 rfl) ?_
      refine zr_if_ne (tgt := 773) hx hb dL_law_758 (by decide) (zB_nat (by decide)) (fun _ => ?_) (fun q => absurd q (by decide))
      refine lv_goto (tgt := 955) hx hb dL_law_773 (by decide) ?_
      exact K n b rc (bo, wo, ro, fr, sh, po, tn, tb, tbo, two, tro, ch, f) (((2 : Nat) : Int), rwo2, rwy2, rpo2, mu2, mr2, me2, mq2, mt2) H locs ls ⟨hn, hb0, hrc, hset, hmu2, hK, hP, hD, hS, lv_sub hl [2, 3, 4, 5, 6] rfl⟩
    · refine lv_aload_n hx hb dL_law_696 rfl (lv_at hl 1 rfl) ?_
      refine lv_aload_n hx hb dL_law_697 rfl (lv_at hl 0 rfl) ?_
      refine lv_iload hx hb dL_law_698 (lv_at hl 4 rfl) ?_
      refine zr_ic (n := ((1 : Nat) : Int)) hx hb dL_law_700 ?_
      refine zr_addN (x := 4 * k) (y := 1) hx hb dL_law_701 ?_
      refine zr_sld hx hb hX hsb hbA hS hL (j := 4 * k + 1) (by omega) dL_law_702 ?_
      rw [e1]
      refine lv_aload_n hx hb dL_law_703 rfl (lv_at hl 0 rfl) ?_
      refine lv_iload hx hb dL_law_704 (lv_at hl 4 rfl) ?_
      refine zr_ic (n := ((2 : Nat) : Int)) hx hb dL_law_706 ?_
      refine zr_addN (x := 4 * k) (y := 2) hx hb dL_law_707 ?_
      refine zr_sld hx hb hX hsb hbA hS hL (j := 4 * k + 2) (by omega) dL_law_708 ?_
      rw [e2]
      refine lv_aload_n hx hb dL_law_709 rfl (lv_at hl 0 rfl) ?_
      refine lv_iload hx hb dL_law_710 (lv_at hl 4 rfl) ?_
      refine zr_ic (n := ((3 : Nat) : Int)) hx hb dL_law_712 ?_
      refine zr_addN (x := 4 * k) (y := 3) hx hb dL_law_713 ?_
      refine zr_sld hx hb hX hsb hbA hS hL (j := 4 * k + 3) (by omega) dL_law_714 ?_
      rw [e3]
      refine lv_aload_n hx hb dL_law_715 rfl (lv_at hl 3 rfl) ?_
      refine zc_Lx (As := [.ref h, .int (iI z1), .int (iI z2), .int (iI z3), .ref J]) (rest := []) hF (f_L_would l hfl D cI h B C G GB GW GR TB TC TG TGB TGW TGR FR CH J cJ n b rc bo wo ro fr sh po tn tb tbo two tro ch f z1 z2 z3 hn hb0 hz1 hz2 hz3 hg) (vx_cwSW 5 hts gL_law_L_would rfl rfl rfl (by decide +kernel) ⟨Nat.le_of_ble_eq_true rfl, Nat.le_of_ble_eq_true rfl⟩) (fun U h1 h2 => zXL_at (fun _ h => h) (fun _ h => h) hXL hS h2 h1) hK hP hD hS hA [0, 1, 2, 3, 4, 5, 6, 7, 8, 9, 10, 11, 12, 13, 14, 15] rfl rfl hl.1 rfl (Nat.le_of_ble_eq_true rfl) dL_law_716 ⟨(show cells + 1 ≤ 648565 by omega), (show slots + 6 ≤ 7150408 by omega)⟩ (fun H locs hP hS => ?_)
      have hP : va_P D vwCl (zXW h B C G GB GW GR TB TC TG TGB TGW TGR FR CH J cI cJ n b rc (bo, wo, ro, fr, sh, po, tn, tb, tbo, two, tro, ch, f) ++ zMW M MB MR ME MZ MT cI n b rc (th, rwo, rwy, rpo, mu, mr, me, mq, mt)) H := hP
      refine lv_istore (lv' := [(5, .int (iI ((1 : Nat) : Int))), (0, .ref sb), (1, .ref h), (2, .ref M), (3, .ref J), (4, .int (iI ((4 * k : Nat) : Int)))]) hx hb dL_law_719 hl (by decide) rfl (fun ls hl => ?_)
      refine lv_aload_n hx hb dL_law_721 rfl (lv_at hl 3 rfl) ?_
      refine lv_aload_n hx hb dL_law_722 rfl (lv_at hl 1 rfl) ?_
      refine lv_iload hx hb dL_law_723 (lv_at hl 5 rfl) ?_
      refine zr_ic (n := ((1 : Nat) : Int)) hx hb dL_law_725 ?_
      refine zr_addN (x := 4 * k) (y := 1) hx hb dL_law_726 ?_
      refine zr_sld hx hb hX hsb hbA hS hL (j := 4 * k + 1) (by omega) dL_law_727 ?_
      rw [e1]
      refine lv_aload_n hx hb dL_law_728 rfl (lv_at hl 1 rfl) ?_
      refine lv_iload hx hb dL_law_729 (lv_at hl 5 rfl) ?_
      refine zr_ic (n := ((2 : Nat) : Int)) hx hb dL_law_731 ?_
      refine zr_addN (x := 4 * k) (y := 2) hx hb dL_law_732 ?_
      refine zr_sld hx hb hX hsb hbA hS hL (j := 4 * k + 2) (by omega) dL_law_733 ?_
      rw [e2]
      refine lv_aload_n hx hb dL_law_734 rfl (lv_at hl 1 rfl) ?_
      refine lv_iload hx hb dL_law_735 (lv_at hl 5 rfl) ?_
      refine zr_ic (n := ((3 : Nat) : Int)) hx hb dL_law_737 ?_
      refine zr_addN (x := 4 * k) (y := 3) hx hb dL_law_738 ?_
      refine zr_sld hx hb hX hsb hbA hS hL (j := 4 * k + 3) (by omega) dL_law_739 ?_
      rw [e3]
      refine zc_wi (As := [.int (iI z1), .int (iI z2), .int (iI z3)]) (rest := []) hF (r_would_bad1 l D cI M MB MR ME MZ MT n b mr me mq mt th rc rwo rwy rpo mu z1 z2 z3 hn hz1 hz2 hg hmu) (cwV 3 hts gL_law_X3_would rfl rfl rfl (by decide +kernel) ⟨Nat.le_of_ble_eq_true rfl, Nat.le_of_ble_eq_true rfl⟩) hK hP hD hS [16, 17, 18, 19, 20, 21] (by decide) rfl (fun _ => rfl) 0 rfl 0 rfl rfl rfl rfl hl.1 rfl (Nat.le_of_ble_eq_true rfl) dL_law_740 ⟨(show cells + 1 ≤ 648565 by omega), (show slots + 6 ≤ 7150408 by omega)⟩ (fun r u9 H locs hw hP hD hS => ?_)
      obtain ⟨th2, rwo2, rwy2, rpo2, mu2, mr2, me2, mq2, mt2⟩ := u9
      obtain ⟨hr2, hth, hmu2⟩ := hw
      have hth : th2 = ((1 : Nat) : Int) := hth
      subst hth
      subst hr2
      have hP : va_P D vwCl (zXW h B C G GB GW GR TB TC TG TGB TGW TGR FR CH J cI cJ n b rc (bo, wo, ro, fr, sh, po, tn, tb, tbo, two, tro, ch, f) ++ zMW M MB MR ME MZ MT cI n b rc (((1 : Nat) : Int), rwo2, rwy2, rpo2, mu2, mr2, me2, mq2, mt2)) H := hP
      have hD : va_D (fun q => s.heap.size ≤ q) (zXW h B C G GB GW GR TB TC TG TGB TGW TGR FR CH J cI cJ n b rc (bo, wo, ro, fr, sh, po, tn, tb, tbo, two, tro, ch, f) ++ zMW M MB MR ME MZ MT cI n b rc (((1 : Nat) : Int), rwo2, rwy2, rpo2, mu2, mr2, me2, mq2, mt2)) := hD
      refine lv_istore (lv' := [(6, .int (iI 0)), (5, .int (iI ((1 : Nat) : Int))), (0, .ref sb), (1, .ref h), (2, .ref M), (3, .ref J), (4, .int (iI ((4 * k : Nat) : Int)))]) hx hb dL_law_743 hl (by decide) rfl (fun ls hl => ?_)
      refine lv_aload_n hx hb dL_law_745 rfl (lv_at hl 4 rfl) ?_
      refine zc_ri (As := []) (rest := []) hF (c_X3_thrown l D cI M MB MR ME MZ MT n b mr2 me2 mq2 mt2 ((1 : Nat) : Int) rc rwo2 rwy2 rpo2 (-1) (-1) (-1) mu2) (cwV 0 hts gL_law_X3_thrown rfl rfl rfl (by decide +kernel) ⟨Nat.le_of_ble_eq_true rfl, Nat.le_of_ble_eq_true rfl⟩) hK hP [16, 17, 18, 19, 20, 21] rfl 0 rfl 0 rfl rfl rfl rfl hl.1 rfl (Nat.le_of_ble_eq_true rfl) dL_law_746 ⟨(show cells + 1 ≤ 648565 by omega), (show slots + 6 ≤ 7150408 by omega)⟩ ?_
      refine lv_iload hx hb dL_law_749 (lv_at hl 1 rfl) ?_
      refine zr_icmp_eq (tgt := 756) hx hb dL_law_751 (by decide) (zB_nat (by decide)) (zB_nat (by decide)) (fun _ => ?_) (fun q => absurd rfl q)
      refine lv_iload hx hb dL_law_756 (lv_at hl 1 rfl) ?_
      refine zr_if_ne (tgt := 773) hx hb dL_law_758 (by decide) (zB_nat (by decide)) (fun _ => ?_) (fun q => absurd q (by decide))
      refine lv_goto (tgt := 955) hx hb dL_law_773 (by decide) ?_
      exact K n b rc (bo, wo, ro, fr, sh, po, tn, tb, tbo, two, tro, ch, f) (((1 : Nat) : Int), rwo2, rwy2, rpo2, mu2, mr2, me2, mq2, mt2) H locs ls ⟨hn, hb0, hrc, hset, hmu2, hK, hP, hD, hS, lv_sub hl [2, 3, 4, 5, 6] rfl⟩
