set_option maxHeartbeats 8000000 in
set_option maxRecDepth 100000 in
theorem op_without {p : Program} {l : Launch} {e : Env} {s : State} {m : MethodId} {args : Array Value} {below : List Frame} {meth : Method} {c : Code} {H : Heap} {locs : List Loc} {cells slots : Nat} {Q : State → Prop} {ls : Array Slot} {sb L : Nat} {xs : Nat → Int32} {D : va_G} {cI cJ : ClassId} {h B C G GB GW GR TB TC TG TGB TGW TGR FR CH J M MB MR ME MZ MT : Nat} {k n : Nat} {b : Nat → Int} {rc : Int} {u : zVU} {v : zMU}
    (CC : zLC p l m c s args sb L xs) (I : zLI s D cI cJ sb h B C G GB GW GR TB TC TG TGB TGW TGR FR CH J M MB MR ME MZ MT k n b rc u v H locs ls) (hk : 4 * k + 3 < L) (hc : cells + 1 ≤ 648565) (hs : slots + 6 ≤ 7150408) (K : ∀ (n : Nat) (b : Nat → Int) (rc : Int) (u : zVU) (v : zMU) (H : Heap) (locs : List Loc) (ls : Array Slot), zLI s D cI cJ sb h B C G GB GW GR TB TC TG TGB TGW TGR FR CH J M MB MR ME MZ MT k n b rc u v H locs ls → W p l e room_1 s m args below meth c H locs (cells + 1) (slots + 6) Q (F0 m 955 ls [])) : W p l e room_1 s m args below meth c H locs cells slots Q (F0 m 844 ls []) := by
  obtain ⟨hfl, hF, hX, hsb, hL, hXL⟩ := CC
  obtain ⟨hx, hb, hml, hown, hts⟩ := id hF
  obtain ⟨bo, wo, ro, fr, sh, po, tn, tb, tbo, two, tro, ch, f⟩ := u
  obtain ⟨th, rwo, rwy, rpo, mu, mr, me, mq, mt⟩ := v
  obtain ⟨hn, hb0, hrc, hset, hmu, hK, hP, hD, hS, hl⟩ := I
  have hset : zSet n b rc bo wo ro fr sh po := hset
  have hmu : 0 ≤ mu ∧ mu ≤ 1 := hmu
  have hA : ∀ q, s.heap.size ≤ q → (fun q => s.heap.size ≤ q) q := fun _ h => h
  have hbA : ¬ (fun q => s.heap.size ≤ q) sb := Nat.not_le.mpr hsb
  have hE := hset.2.1
  obtain ⟨z1, hz1, e1⟩ : ∃ z : Int, zB z ∧ (xs (4 * k + 1)).toInt = z := ⟨_, z_toB _, rfl⟩
  have hz1a := hz1.1
  have hz1b := hz1.2
  by_cases hv0 : 0 ≤ z1 ∧ z1 < (n : Int)
  · obtain ⟨x, rfl⟩ : ∃ q : Nat, z1 = (q : Int) := ⟨z1.toNat, by omega⟩
    refine lv_aload_n hx hb dL_law_844 rfl (lv_at hl 1 rfl) ?_
    refine lv_aload_n hx hb dL_law_845 rfl (lv_at hl 0 rfl) ?_
    refine lv_iload hx hb dL_law_846 (lv_at hl 4 rfl) ?_
    refine zr_ic (n := ((1 : Nat) : Int)) hx hb dL_law_848 ?_
    refine zr_addN (x := 4 * k) (y := 1) hx hb dL_law_849 ?_
    refine zr_sld hx hb hX hsb hbA hS hL (j := 4 * k + 1) (by omega) dL_law_850 ?_
    rw [e1]
    refine lv_aload_n hx hb dL_law_851 rfl (lv_at hl 3 rfl) ?_
    refine zc_Ls (As := [.ref h, .int (iI ((x : Nat) : Int)), .ref J]) (rest := []) hF (c_L_without l D cI h B C G GB GW GR TB TC TG TGB TGW TGR FR CH J cJ n b rc bo wo ro fr sh po tn tb tbo two tro ch f x hn hb0 hrc hset (by omega)) (vx_cwSW 3 hts gL_law_L_without rfl rfl rfl (by decide +kernel) ⟨Nat.le_of_ble_eq_true rfl, Nat.le_of_ble_eq_true rfl⟩) hK hP hD hS [0, 1, 2, 3, 4, 5, 6, 7, 8, 9, 10, 11, 12, 13, 14, 15] (by decide) rfl (fun _ => rfl) rfl hl.1 rfl (Nat.le_of_ble_eq_true rfl) dL_law_852 ⟨(show cells ≤ 648565 by omega), (show slots ≤ 7150408 by omega)⟩ (fun r u9 H locs hw hP hD hS => ?_)
    obtain ⟨bo2, wo2, ro2, fr2, sh2, po2, tn2, tb2, tbo2, two2, tro2, ch2, f2⟩ := u9
    obtain ⟨hr1, hset2, hV⟩ := hw
    subst hr1
    have hP : va_P D vwCl (zXW h B C G GB GW GR TB TC TG TGB TGW TGR FR CH J cI cJ n b rc (bo2, wo2, ro2, fr2, sh2, po2, tn2, tb2, tbo2, two2, tro2, ch2, f2) ++ zMW M MB MR ME MZ MT cI n b rc (th, rwo, rwy, rpo, mu, mr, me, mq, mt)) H := hP
    have hD : va_D (fun q => s.heap.size ≤ q) (zXW h B C G GB GW GR TB TC TG TGB TGW TGR FR CH J cI cJ n b rc (bo2, wo2, ro2, fr2, sh2, po2, tn2, tb2, tbo2, two2, tro2, ch2, f2) ++ zMW M MB MR ME MZ MT cI n b rc (th, rwo, rwy, rpo, mu, mr, me, mq, mt)) := hD
    have hV : f2 0 = (iI (zWo n (zRow0 b x n))).toInt64 := hV
    refine lv_istore (lv' := [(5, .int (iI 0)), (0, .ref sb), (1, .ref h), (2, .ref M), (3, .ref J), (4, .int (iI ((4 * k : Nat) : Int)))]) hx hb dL_law_855 hl (by decide) rfl (fun ls hl => ?_)
    refine lv_aload_n hx hb dL_law_857 rfl (lv_at hl 3 rfl) ?_
    refine lv_aload_n hx hb dL_law_858 rfl (lv_at hl 1 rfl) ?_
    refine lv_iload hx hb dL_law_859 (lv_at hl 5 rfl) ?_
    refine zr_ic (n := ((1 : Nat) : Int)) hx hb dL_law_861 ?_
    refine zr_addN (x := 4 * k) (y := 1) hx hb dL_law_862 ?_
    refine zr_sld hx hb hX hsb hbA hS hL (j := 4 * k + 1) (by omega) dL_law_863 ?_
    rw [e1]
    refine zc_wi (As := [.int (iI ((x : Nat) : Int))]) (rest := []) hF (r_without_ok l D cI M MB MR ME MZ MT n b mr me mq mt th rc rwo rwy rpo mu x hn hb0 hrc hmu (by omega)) (cwV 1 hts gL_law_X3_without rfl rfl rfl (by decide +kernel) ⟨Nat.le_of_ble_eq_true rfl, Nat.le_of_ble_eq_true rfl⟩) hK hP hD hS [16, 17, 18, 19, 20, 21] (by decide) rfl (fun _ => rfl) 0 rfl 0 rfl rfl rfl rfl hl.1 rfl (Nat.le_of_ble_eq_true rfl) dL_law_864 ⟨(show cells ≤ 648565 by omega), (show slots ≤ 7150408 by omega)⟩ (fun r u9 H locs hw hP hD hS => ?_)
    obtain ⟨th2, rwo2, rwy2, rpo2, mu2, mr2, me2, mq2, mt2⟩ := u9
    obtain ⟨hr2, hth, hmu2⟩ := hw
    have hth : th2 = ((0 : Nat) : Int) := hth
    subst hth
    subst hr2
    have hP : va_P D vwCl (zXW h B C G GB GW GR TB TC TG TGB TGW TGR FR CH J cI cJ n b rc (bo2, wo2, ro2, fr2, sh2, po2, tn2, tb2, tbo2, two2, tro2, ch2, f2) ++ zMW M MB MR ME MZ MT cI n b rc (((0 : Nat) : Int), rwo2, rwy2, rpo2, mu2, mr2, me2, mq2, mt2)) H := hP
    have hD : va_D (fun q => s.heap.size ≤ q) (zXW h B C G GB GW GR TB TC TG TGB TGW TGR FR CH J cI cJ n b rc (bo2, wo2, ro2, fr2, sh2, po2, tn2, tb2, tbo2, two2, tro2, ch2, f2) ++ zMW M MB MR ME MZ MT cI n b rc (((0 : Nat) : Int), rwo2, rwy2, rpo2, mu2, mr2, me2, mq2, mt2)) := hD
    refine lv_istore (lv' := [(6, .int (iI (zBest (zX n b (x : Int) (-1) (-1) mu)))), (5, .int (iI 0)), (0, .ref sb), (1, .ref h), (2, .ref M), (3, .ref J), (4, .int (iI ((4 * k : Nat) : Int)))]) hx hb dL_law_867 hl (by decide) rfl (fun ls hl => ?_)
    refine lv_aload_n hx hb dL_law_869 rfl (lv_at hl 4 rfl) ?_
    refine zc_ri (As := []) (rest := []) hF (c_X3_thrown l D cI M MB MR ME MZ MT n b mr2 me2 mq2 mt2 ((0 : Nat) : Int) rc rwo2 rwy2 rpo2 (-1) (-1) (-1) mu2) (cwV 0 hts gL_law_X3_thrown rfl rfl rfl (by decide +kernel) ⟨Nat.le_of_ble_eq_true rfl, Nat.le_of_ble_eq_true rfl⟩) hK hP [16, 17, 18, 19, 20, 21] rfl 0 rfl 0 rfl rfl rfl rfl hl.1 rfl (Nat.le_of_ble_eq_true rfl) dL_law_870 ⟨(show cells ≤ 648565 by omega), (show slots ≤ 7150408 by omega)⟩ ?_
    refine lv_iload hx hb dL_law_873 (lv_at hl 1 rfl) ?_
    refine zr_icmp_eq (tgt := 880) hx hb dL_law_875 (by decide) (zB_nat (by decide)) zB_0 (fun _ => ?_) (fun q => absurd rfl q)
    refine lv_iload hx hb dL_law_880 (lv_at hl 1 rfl) ?_
    refine zr_if_ne (tgt := 897) hx hb dL_law_882 (by decide) zB_0 (fun q => absurd rfl q) (fun _ => ?_)
    refine lv_aload_n hx hb dL_law_885 rfl (lv_at hl 5 rfl) ?_
    refine zr_ic (n := ((0 : Nat) : Int)) hx hb dL_law_886 ?_
    refine zr_lald0 hx hb hK hP 15 rfl dL_law_887 ?_
    refine lv_iload hx hb dL_law_888 (lv_at hl 0 rfl) ?_
    refine lv_i2l hx hb dL_law_890 rfl ?_
    refine zr_lcmpE (tgt := 897) hx hb (hV.trans (congrArg (fun t => (iI t).toInt64) (zWithout (mu := mu) hn))) dL_law_891 dL_law_892 (by decide) ?_
    refine lv_goto (tgt := 955) hx hb dL_law_897 (by decide) ?_
    refine W.widen (k := cells + 1) (n := slots + 6) (by omega) (by omega) ?_
    exact K n b rc (bo2, wo2, ro2, fr2, sh2, po2, tn2, tb2, tbo2, two2, tro2, ch2, f2) (((0 : Nat) : Int), rwo2, rwy2, rpo2, mu2, mr2, me2, mq2, mt2) H locs ls ⟨hn, hb0, hrc, hset2, hmu2, hK, hP, hD, hS, lv_sub hl [2, 3, 4, 5, 6] rfl⟩
  · refine lv_aload_n hx hb dL_law_844 rfl (lv_at hl 1 rfl) ?_
    refine lv_aload_n hx hb dL_law_845 rfl (lv_at hl 0 rfl) ?_
    refine lv_iload hx hb dL_law_846 (lv_at hl 4 rfl) ?_
    refine zr_ic (n := ((1 : Nat) : Int)) hx hb dL_law_848 ?_
    refine zr_addN (x := 4 * k) (y := 1) hx hb dL_law_849 ?_
    refine zr_sld hx hb hX hsb hbA hS hL (j := 4 * k + 1) (by omega) dL_law_850 ?_
    rw [e1]
    refine lv_aload_n hx hb dL_law_851 rfl (lv_at hl 3 rfl) ?_
    refine zc_Lx (As := [.ref h, .int (iI z1), .ref J]) (rest := []) hF (f_L_without l hfl D cI h B C G GB GW GR TB TC TG TGB TGW TGR FR CH J cJ n b rc bo wo ro fr sh po tn tb tbo two tro ch f z1 hn hb0 hz1 (by omega)) (vx_cwSW 3 hts gL_law_L_without rfl rfl rfl (by decide +kernel) ⟨Nat.le_of_ble_eq_true rfl, Nat.le_of_ble_eq_true rfl⟩) (fun U h1 h2 => zXL_at (fun _ h => h) (fun _ h => h) hXL hS h2 h1) hK hP hD hS hA [0, 1, 2, 3, 4, 5, 6, 7, 8, 9, 10, 11, 12, 13, 14, 15] rfl rfl hl.1 rfl (Nat.le_of_ble_eq_true rfl) dL_law_852 ⟨(show cells + 1 ≤ 648565 by omega), (show slots + 6 ≤ 7150408 by omega)⟩ (fun H locs hP hS => ?_)
    have hP : va_P D vwCl (zXW h B C G GB GW GR TB TC TG TGB TGW TGR FR CH J cI cJ n b rc (bo, wo, ro, fr, sh, po, tn, tb, tbo, two, tro, ch, f) ++ zMW M MB MR ME MZ MT cI n b rc (th, rwo, rwy, rpo, mu, mr, me, mq, mt)) H := hP
    refine lv_istore (lv' := [(5, .int (iI ((1 : Nat) : Int))), (0, .ref sb), (1, .ref h), (2, .ref M), (3, .ref J), (4, .int (iI ((4 * k : Nat) : Int)))]) hx hb dL_law_855 hl (by decide) rfl (fun ls hl => ?_)
    refine lv_aload_n hx hb dL_law_857 rfl (lv_at hl 3 rfl) ?_
    refine lv_aload_n hx hb dL_law_858 rfl (lv_at hl 1 rfl) ?_
    refine lv_iload hx hb dL_law_859 (lv_at hl 5 rfl) ?_
    refine zr_ic (n := ((1 : Nat) : Int)) hx hb dL_law_861 ?_
    refine zr_addN (x := 4 * k) (y := 1) hx hb dL_law_862 ?_
    refine zr_sld hx hb hX hsb hbA hS hL (j := 4 * k + 1) (by omega) dL_law_863 ?_
    rw [e1]
    refine zc_wi (As := [.int (iI z1)]) (rest := []) hF (r_without_bad l D cI M MB MR ME MZ MT n b mr me mq mt th rc rwo rwy rpo mu z1 hn hz1 (by omega) hmu) (cwV 1 hts gL_law_X3_without rfl rfl rfl (by decide +kernel) ⟨Nat.le_of_ble_eq_true rfl, Nat.le_of_ble_eq_true rfl⟩) hK hP hD hS [16, 17, 18, 19, 20, 21] (by decide) rfl (fun _ => rfl) 0 rfl 0 rfl rfl rfl rfl hl.1 rfl (Nat.le_of_ble_eq_true rfl) dL_law_864 ⟨(show cells + 1 ≤ 648565 by omega), (show slots + 6 ≤ 7150408 by omega)⟩ (fun r u9 H locs hw hP hD hS => ?_)
    obtain ⟨th2, rwo2, rwy2, rpo2, mu2, mr2, me2, mq2, mt2⟩ := u9
    obtain ⟨hr2, hth, hmu2⟩ := hw
    have hth : th2 = ((1 : Nat) : Int) := hth
    subst hth
    subst hr2
    have hP : va_P D vwCl (zXW h B C G GB GW GR TB TC TG TGB TGW TGR FR CH J cI cJ n b rc (bo, wo, ro, fr, sh, po, tn, tb, tbo, two, tro, ch, f) ++ zMW M MB MR ME MZ MT cI n b rc (((1 : Nat) : Int), rwo2, rwy2, rpo2, mu2, mr2, me2, mq2, mt2)) H := hP
    have hD : va_D (fun q => s.heap.size ≤ q) (zXW h B C G GB GW GR TB TC TG TGB TGW TGR FR CH J cI cJ n b rc (bo, wo, ro, fr, sh, po, tn, tb, tbo, two, tro, ch, f) ++ zMW M MB MR ME MZ MT cI n b rc (((1 : Nat) : Int), rwo2, rwy2, rpo2, mu2, mr2, me2, mq2, mt2)) := hD
    refine lv_istore (lv' := [(6, .int (iI 0)), (5, .int (iI ((1 : Nat) : Int))), (0, .ref sb), (1, .ref h), (2, .ref M), (3, .ref J), (4, .int (iI ((4 * k : Nat) : Int)))]) hx hb dL_law_867 hl (by decide) rfl (fun ls hl => ?_)
    refine lv_aload_n hx hb dL_law_869 rfl (lv_at hl 4 rfl) ?_
    refine zc_ri (As := []) (rest := []) hF (c_X3_thrown l D cI M MB MR ME MZ MT n b mr2 me2 mq2 mt2 ((1 : Nat) : Int) rc rwo2 rwy2 rpo2 (-1) (-1) (-1) mu2) (cwV 0 hts gL_law_X3_thrown rfl rfl rfl (by decide +kernel) ⟨Nat.le_of_ble_eq_true rfl, Nat.le_of_ble_eq_true rfl⟩) hK hP [16, 17, 18, 19, 20, 21] rfl 0 rfl 0 rfl rfl rfl rfl hl.1 rfl (Nat.le_of_ble_eq_true rfl) dL_law_870 ⟨(show cells + 1 ≤ 648565 by omega), (show slots + 6 ≤ 7150408 by omega)⟩ ?_
    refine lv_iload hx hb dL_law_873 (lv_at hl 1 rfl) ?_
    refine zr_icmp_eq (tgt := 880) hx hb dL_law_875 (by decide) (zB_nat (by decide)) (zB_nat (by decide)) (fun _ => ?_) (fun q => absurd rfl q)
    refine lv_iload hx hb dL_law_880 (lv_at hl 1 rfl) ?_
    refine zr_if_ne (tgt := 897) hx hb dL_law_882 (by decide) (zB_nat (by decide)) (fun _ => ?_) (fun q => absurd q (by decide))
    refine lv_goto (tgt := 955) hx hb dL_law_897 (by decide) ?_
    exact K n b rc (bo, wo, ro, fr, sh, po, tn, tb, tbo, two, tro, ch, f) (((1 : Nat) : Int), rwo2, rwy2, rpo2, mu2, mr2, me2, mq2, mt2) H locs ls ⟨hn, hb0, hrc, hset, hmu2, hK, hP, hD, hS, lv_sub hl [2, 3, 4, 5, 6] rfl⟩
set_option maxHeartbeats 8000000 in
set_option maxRecDepth 100000 in
theorem op_needs {p : Program} {l : Launch} {e : Env} {s : State} {m : MethodId} {args : Array Value} {below : List Frame} {meth : Method} {c : Code} {H : Heap} {locs : List Loc} {cells slots : Nat} {Q : State → Prop} {ls : Array Slot} {sb L : Nat} {xs : Nat → Int32} {D : va_G} {cI cJ : ClassId} {h B C G GB GW GR TB TC TG TGB TGW TGR FR CH J M MB MR ME MZ MT : Nat} {k n : Nat} {b : Nat → Int} {rc : Int} {u : zVU} {v : zMU}
    (CC : zLC p l m c s args sb L xs) (I : zLI s D cI cJ sb h B C G GB GW GR TB TC TG TGB TGW TGR FR CH J M MB MR ME MZ MT k n b rc u v H locs ls) (hk : 4 * k + 3 < L) (hc : cells + 1 ≤ 648565) (hs : slots + 6 ≤ 7150408) (K : ∀ (n : Nat) (b : Nat → Int) (rc : Int) (u : zVU) (v : zMU) (H : Heap) (locs : List Loc) (ls : Array Slot), zLI s D cI cJ sb h B C G GB GW GR TB TC TG TGB TGW TGR FR CH J M MB MR ME MZ MT k n b rc u v H locs ls → W p l e room_1 s m args below meth c H locs (cells + 1) (slots + 6) Q (F0 m 955 ls [])) : W p l e room_1 s m args below meth c H locs cells slots Q (F0 m 776 ls []) := by
  obtain ⟨hfl, hF, hX, hsb, hL, hXL⟩ := CC
  obtain ⟨hx, hb, hml, hown, hts⟩ := id hF
  obtain ⟨bo, wo, ro, fr, sh, po, tn, tb, tbo, two, tro, ch, f⟩ := u
  obtain ⟨th, rwo, rwy, rpo, mu, mr, me, mq, mt⟩ := v
  obtain ⟨hn, hb0, hrc, hset, hmu, hK, hP, hD, hS, hl⟩ := I
  have hset : zSet n b rc bo wo ro fr sh po := hset
  have hmu : 0 ≤ mu ∧ mu ≤ 1 := hmu
  have hA : ∀ q, s.heap.size ≤ q → (fun q => s.heap.size ≤ q) q := fun _ h => h
  have hbA : ¬ (fun q => s.heap.size ≤ q) sb := Nat.not_le.mpr hsb
  have hE := hset.2.1
  obtain ⟨z1, hz1, e1⟩ : ∃ z : Int, zB z ∧ (xs (4 * k + 1)).toInt = z := ⟨_, z_toB _, rfl⟩
  obtain ⟨z2, hz2, e2⟩ : ∃ z : Int, zB z ∧ (xs (4 * k + 2)).toInt = z := ⟨_, z_toB _, rfl⟩
  have hz1a := hz1.1
  have hz1b := hz1.2
  have hz2a := hz2.1
  have hz2b := hz2.2
  by_cases hv0 : (0 ≤ z1 ∧ z1 < (n : Int)) ∧ 0 ≤ z2 ∧ z2 < (n : Int)
  · obtain ⟨x, rfl⟩ : ∃ q : Nat, z1 = (q : Int) := ⟨z1.toNat, by omega⟩
    obtain ⟨y, rfl⟩ : ∃ q : Nat, z2 = (q : Int) := ⟨z2.toNat, by omega⟩
    refine lv_aload_n hx hb dL_law_776 rfl (lv_at hl 1 rfl) ?_
    refine lv_aload_n hx hb dL_law_777 rfl (lv_at hl 0 rfl) ?_
    refine lv_iload hx hb dL_law_778 (lv_at hl 4 rfl) ?_
    refine zr_ic (n := ((1 : Nat) : Int)) hx hb dL_law_780 ?_
    refine zr_addN (x := 4 * k) (y := 1) hx hb dL_law_781 ?_
    refine zr_sld hx hb hX hsb hbA hS hL (j := 4 * k + 1) (by omega) dL_law_782 ?_
    rw [e1]
    refine lv_aload_n hx hb dL_law_783 rfl (lv_at hl 0 rfl) ?_
    refine lv_iload hx hb dL_law_784 (lv_at hl 4 rfl) ?_
    refine zr_ic (n := ((2 : Nat) : Int)) hx hb dL_law_786 ?_
    refine zr_addN (x := 4 * k) (y := 2) hx hb dL_law_787 ?_
    refine zr_sld hx hb hX hsb hbA hS hL (j := 4 * k + 2) (by omega) dL_law_788 ?_
    rw [e2]
    refine lv_aload_n hx hb dL_law_789 rfl (lv_at hl 3 rfl) ?_
    refine zc_Ls (As := [.ref h, .int (iI ((x : Nat) : Int)), .int (iI ((y : Nat) : Int)), .ref J]) (rest := []) hF (c_L_needs l D cI h B C G GB GW GR TB TC TG TGB TGW TGR FR CH J cJ n b rc bo wo ro fr sh po tn tb tbo two tro ch f x y hn hb0 hrc hset (by omega) (by omega)) (vx_cwSW 4 hts gL_law_L_needs rfl rfl rfl (by decide +kernel) ⟨Nat.le_of_ble_eq_true rfl, Nat.le_of_ble_eq_true rfl⟩) hK hP hD hS [0, 1, 2, 3, 4, 5, 6, 7, 8, 9, 10, 11, 12, 13, 14, 15] (by decide) rfl (fun _ => rfl) rfl hl.1 rfl (Nat.le_of_ble_eq_true rfl) dL_law_790 ⟨(show cells ≤ 648565 by omega), (show slots ≤ 7150408 by omega)⟩ (fun r u9 H locs hw hP hD hS => ?_)
    obtain ⟨bo2, wo2, ro2, fr2, sh2, po2, tn2, tb2, tbo2, two2, tro2, ch2, f2⟩ := u9
    obtain ⟨hr1, hset2, hV⟩ := hw
    subst hr1
    have hP : va_P D vwCl (zXW h B C G GB GW GR TB TC TG TGB TGW TGR FR CH J cI cJ n b rc (bo2, wo2, ro2, fr2, sh2, po2, tn2, tb2, tbo2, two2, tro2, ch2, f2) ++ zMW M MB MR ME MZ MT cI n b rc (th, rwo, rwy, rpo, mu, mr, me, mq, mt)) H := hP
    have hD : va_D (fun q => s.heap.size ≤ q) (zXW h B C G GB GW GR TB TC TG TGB TGW TGR FR CH J cI cJ n b rc (bo2, wo2, ro2, fr2, sh2, po2, tn2, tb2, tbo2, two2, tro2, ch2, f2) ++ zMW M MB MR ME MZ MT cI n b rc (th, rwo, rwy, rpo, mu, mr, me, mq, mt)) := hD
    have hV : ∃ z : Int, f2 0 = (iI z).toInt64 ∧ zNd n b x y z := hV
    refine lv_istore (lv' := [(5, .int (iI 0)), (0, .ref sb), (1, .ref h), (2, .ref M), (3, .ref J), (4, .int (iI ((4 * k : Nat) : Int)))]) hx hb dL_law_793 hl (by decide) rfl (fun ls hl => ?_)
    refine lv_aload_n hx hb dL_law_795 rfl (lv_at hl 3 rfl) ?_
    refine lv_aload_n hx hb dL_law_796 rfl (lv_at hl 1 rfl) ?_
    refine lv_iload hx hb dL_law_797 (lv_at hl 5 rfl) ?_
    refine zr_ic (n := ((1 : Nat) : Int)) hx hb dL_law_799 ?_
    refine zr_addN (x := 4 * k) (y := 1) hx hb dL_law_800 ?_
    refine zr_sld hx hb hX hsb hbA hS hL (j := 4 * k + 1) (by omega) dL_law_801 ?_
    rw [e1]
    refine lv_aload_n hx hb dL_law_802 rfl (lv_at hl 1 rfl) ?_
    refine lv_iload hx hb dL_law_803 (lv_at hl 5 rfl) ?_
    refine zr_ic (n := ((2 : Nat) : Int)) hx hb dL_law_805 ?_
    refine zr_addN (x := 4 * k) (y := 2) hx hb dL_law_806 ?_
    refine zr_sld hx hb hX hsb hbA hS hL (j := 4 * k + 2) (by omega) dL_law_807 ?_
    rw [e2]
    refine zc_wi (As := [.int (iI ((x : Nat) : Int)), .int (iI ((y : Nat) : Int))]) (rest := []) hF (r_needs_ok l D cI M MB MR ME MZ MT n b mr me mq mt th rc rwo rwy rpo mu x y hn hb0 hrc hmu (by omega) (by omega)) (cwV 2 hts gL_law_X3_needs rfl rfl rfl (by decide +kernel) ⟨Nat.le_of_ble_eq_true rfl, Nat.le_of_ble_eq_true rfl⟩) hK hP hD hS [16, 17, 18, 19, 20, 21] (by decide) rfl (fun _ => rfl) 0 rfl 0 rfl rfl rfl rfl hl.1 rfl (Nat.le_of_ble_eq_true rfl) dL_law_808 ⟨(show cells ≤ 648565 by omega), (show slots ≤ 7150408 by omega)⟩ (fun r u9 H locs hw hP hD hS => ?_)
    obtain ⟨th2, rwo2, rwy2, rpo2, mu2, mr2, me2, mq2, mt2⟩ := u9
    obtain ⟨hr2, hth, hmu2⟩ := hw
    have hth : th2 = ((0 : Nat) : Int) := hth
    subst hth
    obtain ⟨zz, hr2, hzz⟩ := hr2
    subst hr2
    have hP : va_P D vwCl (zXW h B C G GB GW GR TB TC TG TGB TGW TGR FR CH J cI cJ n b rc (bo2, wo2, ro2, fr2, sh2, po2, tn2, tb2, tbo2, two2, tro2, ch2, f2) ++ zMW M MB MR ME MZ MT cI n b rc (((0 : Nat) : Int), rwo2, rwy2, rpo2, mu2, mr2, me2, mq2, mt2)) H := hP
    have hD : va_D (fun q => s.heap.size ≤ q) (zXW h B C G GB GW GR TB TC TG TGB TGW TGR FR CH J cI cJ n b rc (bo2, wo2, ro2, fr2, sh2, po2, tn2, tb2, tbo2, two2, tro2, ch2, f2) ++ zMW M MB MR ME MZ MT cI n b rc (((0 : Nat) : Int), rwo2, rwy2, rpo2, mu2, mr2, me2, mq2, mt2)) := hD
    refine lv_istore (lv' := [(6, .int (iI zz)), (5, .int (iI 0)), (0, .ref sb), (1, .ref h), (2, .ref M), (3, .ref J), (4, .int (iI ((4 * k : Nat) : Int)))]) hx hb dL_law_811 hl (by decide) rfl (fun ls hl => ?_)
    refine lv_aload_n hx hb dL_law_813 rfl (lv_at hl 4 rfl) ?_
    refine zc_ri (As := []) (rest := []) hF (c_X3_thrown l D cI M MB MR ME MZ MT n b mr2 me2 mq2 mt2 ((0 : Nat) : Int) rc rwo2 rwy2 rpo2 (-1) (-1) (-1) mu2) (cwV 0 hts gL_law_X3_thrown rfl rfl rfl (by decide +kernel) ⟨Nat.le_of_ble_eq_true rfl, Nat.le_of_ble_eq_true rfl⟩) hK hP [16, 17, 18, 19, 20, 21] rfl 0 rfl 0 rfl rfl rfl rfl hl.1 rfl (Nat.le_of_ble_eq_true rfl) dL_law_814 ⟨(show cells ≤ 648565 by omega), (show slots ≤ 7150408 by omega)⟩ ?_
    refine lv_iload hx hb dL_law_817 (lv_at hl 1 rfl) ?_
    refine zr_icmp_eq (tgt := 824) hx hb dL_law_819 (by decide) (zB_nat (by decide)) zB_0 (fun _ => ?_) (fun q => absurd rfl q)
    refine lv_iload hx hb dL_law_824 (lv_at hl 1 rfl) ?_
    refine zr_if_ne (tgt := 841) hx hb dL_law_826 (by decide) zB_0 (fun q => absurd rfl q) (fun _ => ?_)
    refine lv_aload_n hx hb dL_law_829 rfl (lv_at hl 5 rfl) ?_
    refine zr_ic (n := ((0 : Nat) : Int)) hx hb dL_law_830 ?_
    refine zr_lald0 hx hb hK hP 15 rfl dL_law_831 ?_
    refine lv_iload hx hb dL_law_832 (lv_at hl 0 rfl) ?_
    refine lv_i2l hx hb dL_law_834 rfl ?_
    refine zr_lcmpE (tgt := 841) hx hb (hV.elim (fun z h => h.1.trans (congrArg (fun t => (iI t).toInt64) (zNd_un h.2 hzz)))) dL_law_835 dL_law_836 (by decide) ?_
    refine lv_goto (tgt := 955) hx hb dL_law_841 (by decide) ?_
    refine W.widen (k := cells + 1) (n := slots + 6) (by omega) (by omega) ?_
    exact K n b rc (bo2, wo2, ro2, fr2, sh2, po2, tn2, tb2, tbo2, two2, tro2, ch2, f2) (((0 : Nat) : Int), rwo2, rwy2, rpo2, mu2, mr2, me2, mq2, mt2) H locs ls ⟨hn, hb0, hrc, hset2, hmu2, hK, hP, hD, hS, lv_sub hl [2, 3, 4, 5, 6] rfl⟩
  · refine lv_aload_n hx hb dL_law_776 rfl (lv_at hl 1 rfl) ?_
    refine lv_aload_n hx hb dL_law_777 rfl (lv_at hl 0 rfl) ?_
    refine lv_iload hx hb dL_law_778 (lv_at hl 4 rfl) ?_
    refine zr_ic (n := ((1 : Nat) : Int)) hx hb dL_law_780 ?_
    refine zr_addN (x := 4 * k) (y := 1) hx hb dL_law_781 ?_
    refine zr_sld hx hb hX hsb hbA hS hL (j := 4 * k + 1) (by omega) dL_law_782 ?_
    rw [e1]
    refine lv_aload_n hx hb dL_law_783 rfl (lv_at hl 0 rfl) ?_
    refine lv_iload hx hb dL_law_784 (lv_at hl 4 rfl) ?_
    refine zr_ic (n := ((2 : Nat) : Int)) hx hb dL_law_786 ?_
    refine zr_addN (x := 4 * k) (y := 2) hx hb dL_law_787 ?_
    refine zr_sld hx hb hX hsb hbA hS hL (j := 4 * k + 2) (by omega) dL_law_788 ?_
    rw [e2]
    refine lv_aload_n hx hb dL_law_789 rfl (lv_at hl 3 rfl) ?_
    refine zc_Lx (As := [.ref h, .int (iI z1), .int (iI z2), .ref J]) (rest := []) hF (f_L_needs l hfl D cI h B C G GB GW GR TB TC TG TGB TGW TGR FR CH J cJ n b rc bo wo ro fr sh po tn tb tbo two tro ch f z1 z2 hn hb0 hz1 hz2 (by omega)) (vx_cwSW 4 hts gL_law_L_needs rfl rfl rfl (by decide +kernel) ⟨Nat.le_of_ble_eq_true rfl, Nat.le_of_ble_eq_true rfl⟩) (fun U h1 h2 => zXL_at (fun _ h => h) (fun _ h => h) hXL hS h2 h1) hK hP hD hS hA [0, 1, 2, 3, 4, 5, 6, 7, 8, 9, 10, 11, 12, 13, 14, 15] rfl rfl hl.1 rfl (Nat.le_of_ble_eq_true rfl) dL_law_790 ⟨(show cells + 1 ≤ 648565 by omega), (show slots + 6 ≤ 7150408 by omega)⟩ (fun H locs hP hS => ?_)
    have hP : va_P D vwCl (zXW h B C G GB GW GR TB TC TG TGB TGW TGR FR CH J cI cJ n b rc (bo, wo, ro, fr, sh, po, tn, tb, tbo, two, tro, ch, f) ++ zMW M MB MR ME MZ MT cI n b rc (th, rwo, rwy, rpo, mu, mr, me, mq, mt)) H := hP
    refine lv_istore (lv' := [(5, .int (iI ((1 : Nat) : Int))), (0, .ref sb), (1, .ref h), (2, .ref M), (3, .ref J), (4, .int (iI ((4 * k : Nat) : Int)))]) hx hb dL_law_793 hl (by decide) rfl (fun ls hl => ?_)
    refine lv_aload_n hx hb dL_law_795 rfl (lv_at hl 3 rfl) ?_
    refine lv_aload_n hx hb dL_law_796 rfl (lv_at hl 1 rfl) ?_
    refine lv_iload hx hb dL_law_797 (lv_at hl 5 rfl) ?_
    refine zr_ic (n := ((1 : Nat) : Int)) hx hb dL_law_799 ?_
    refine zr_addN (x := 4 * k) (y := 1) hx hb dL_law_800 ?_
    refine zr_sld hx hb hX hsb hbA hS hL (j := 4 * k + 1) (by omega) dL_law_801 ?_
    rw [e1]
    refine lv_aload_n hx hb dL_law_802 rfl (lv_at hl 1 rfl) ?_
    refine lv_iload hx hb dL_law_803 (lv_at hl 5 rfl) ?_
    refine zr_ic (n := ((2 : Nat) : Int)) hx hb dL_law_805 ?_
    refine zr_addN (x := 4 * k) (y := 2) hx hb dL_law_806 ?_
    refine zr_sld hx hb hX hsb hbA hS hL (j := 4 * k + 2) (by omega) dL_law_807 ?_
    rw [e2]
    refine zc_wi (As := [.int (iI z1), .int (iI z2)]) (rest := []) hF (r_needs_bad l D cI M MB MR ME MZ MT n b mr me mq mt th rc rwo rwy rpo mu z1 z2 hn hz1 hz2 (by omega) hmu) (cwV 2 hts gL_law_X3_needs rfl rfl rfl (by decide +kernel) ⟨Nat.le_of_ble_eq_true rfl, Nat.le_of_ble_eq_true rfl⟩) hK hP hD hS [16, 17, 18, 19, 20, 21] (by decide) rfl (fun _ => rfl) 0 rfl 0 rfl rfl rfl rfl hl.1 rfl (Nat.le_of_ble_eq_true rfl) dL_law_808 ⟨(show cells + 1 ≤ 648565 by omega), (show slots + 6 ≤ 7150408 by omega)⟩ (fun r u9 H locs hw hP hD hS => ?_)
    obtain ⟨th2, rwo2, rwy2, rpo2, mu2, mr2, me2, mq2, mt2⟩ := u9
    obtain ⟨hr2, hth, hmu2⟩ := hw
    have hth : th2 = ((1 : Nat) : Int) := hth
    subst hth
    subst hr2
    have hP : va_P D vwCl (zXW h B C G GB GW GR TB TC TG TGB TGW TGR FR CH J cI cJ n b rc (bo, wo, ro, fr, sh, po, tn, tb, tbo, two, tro, ch, f) ++ zMW M MB MR ME MZ MT cI n b rc (((1 : Nat) : Int), rwo2, rwy2, rpo2, mu2, mr2, me2, mq2, mt2)) H := hP
    have hD : va_D (fun q => s.heap.size ≤ q) (zXW h B C G GB GW GR TB TC TG TGB TGW TGR FR CH J cI cJ n b rc (bo, wo, ro, fr, sh, po, tn, tb, tbo, two, tro, ch, f) ++ zMW M MB MR ME MZ MT cI n b rc (((1 : Nat) : Int), rwo2, rwy2, rpo2, mu2, mr2, me2, mq2, mt2)) := hD
    refine lv_istore (lv' := [(6, .int (iI 0)), (5, .int (iI ((1 : Nat) : Int))), (0, .ref sb), (1, .ref h), (2, .ref M), (3, .ref J), (4, .int (iI ((4 * k : Nat) : Int)))]) hx hb dL_law_811 hl (by decide) rfl (fun ls hl => ?_)
    refine lv_aload_n hx hb dL_law_813 rfl (lv_at hl 4 rfl) ?_
    refine zc_ri (As := []) (rest := []) hF (c_X3_thrown l D cI M MB MR ME MZ MT n b mr2 me2 mq2 mt2 ((1 : Nat) : Int) rc rwo2 rwy2 rpo2 (-1) (-1) (-1) mu2) (cwV 0 hts gL_law_X3_thrown rfl rfl rfl (by decide +kernel) ⟨Nat.le_of_ble_eq_true rfl, Nat.le_of_ble_eq_true rfl⟩) hK hP [16, 17, 18, 19, 20, 21] rfl 0 rfl 0 rfl rfl rfl rfl hl.1 rfl (Nat.le_of_ble_eq_true rfl) dL_law_814 ⟨(show cells + 1 ≤ 648565 by omega), (show slots + 6 ≤ 7150408 by omega)⟩ ?_
    refine lv_iload hx hb dL_law_817 (lv_at hl 1 rfl) ?_
    refine zr_icmp_eq (tgt := 824) hx hb dL_law_819 (by decide) (zB_nat (by decide)) (zB_nat (by decide)) (fun _ => ?_) (fun q => absurd rfl q)
    refine lv_iload hx hb dL_law_824 (lv_at hl 1 rfl) ?_
    refine zr_if_ne (tgt := 841) hx hb dL_law_826 (by decide) (zB_nat (by decide)) (fun _ => ?_) (fun q => absurd q (by decide))
    refine lv_goto (tgt := 955) hx hb dL_law_841 (by decide) ?_
    exact K n b rc (bo, wo, ro, fr, sh, po, tn, tb, tbo, two, tro, ch, f) (((1 : Nat) : Int), rwo2, rwy2, rpo2, mu2, mr2, me2, mq2, mt2) H locs ls ⟨hn, hb0, hrc, hset, hmu2, hK, hP, hD, hS, lv_sub hl [2, 3, 4, 5, 6] rfl⟩
