/-! the law's own helpers, where the class throws -/
theorem zXF_warm {A : Nat → Prop} {s U : State} (hW : s.WarmedH U.vm) (hh : U.heap = s.heap) (h : zXF A s) : zXF A U := by
  obtain ⟨h1, h2, h3, h4⟩ := h
  refine ⟨⟨fun E hE => va_Nw.warmC hW (h1.1 E hE), fun Y hY => va_Nw.warmD hW (h1.2 Y hY)⟩, fun q hq => ?_, ?_, ?_⟩
  · obtain ⟨sa, h⟩ := h2 q hq
    exact ⟨sa, vk_R.warm hW h⟩
  · rw [hh]; exact vx_Zq.moved hW.alike h3
  · rw [hh]; exact vx_Zq.moved hW.alike h4
/-- what the throws of the law's helpers need of the machine -/
def zXL (A : Nat → Prop) (U : State) : Prop := zXF A U ∧ va_Nc zIAE zOOB U
def zXJ (D : va_G) (cI cJ : ClassId) (ws : va_W) (sz : Nat) : State → Prop := fun U => U.heap.size = sz ∧ va_P D vwCl ws U.heap ∧ va_K D vwCl [(cI, .int), (cJ, .long)] U ∧ zXL (fun q => sz ≤ q) U
theorem zXJ_blind {D : va_G} {cI cJ : ClassId} {ws : va_W} {sz : Nat} {av : List Value} : FrameBlind (va_Pc av (zXJ D cI cJ ws sz)) := fun a U g mk q => by
  obtain ⟨q0, q1, qP, qK, qX, qN⟩ := q
  exact ⟨q0, q1, qP, va_K.moved (u := U) (U := U.calling g mk a) (Vm.Alike.refl U.vm) qK, zXF_same rfl rfl qX, va_Nc.moved (u := U) (U := U.calling g mk a) (Vm.Alike.refl U.vm) qN⟩
def zLx (l : Launch) (y : MethodName) (wds : List Cond) (fr lo : Nat) (D : va_G) (cI cJ : ClassId) (av : List Value) (ws : va_W) (k : Int) : Prop := ∀ sz : Nat, Met l y wds (zXR fr lo) (va_Pc av (zXJ D cI cJ ws sz)) (va_Qi (S := Unit) (fun r _ => r = iI k) (fun _ _ => True) (fun q => sz ≤ q)) 1 6 (fun q => sz ≤ q)
theorem zLx_of {l : Launch} {y : MethodName} {wds wds' : List Cond} {fr lo : Nat} {D : va_G} {cI cJ : ClassId} {av : List Value} {ws : va_W} {cc : ByteArray} {maxL : Nat} {hh : List (Nat × Nat × Nat × Nat)} {k : Int} (hy : plainName y.cls = true) (hw : wds = Cond.codeWith y cc maxL (some .int) hh :: wds') (hav : (lg_sl av).length ≤ maxL)
    (body : ∀ p e s m args below meth c ls, zFix p m c cc maxL s args wds y.cls → c.exceptionTable.toList = tableOf hh → meth.sig.returnType = some .int → meth.locks = false → va_P D vwCl ws s.heap → va_K D vwCl [(cI, .int), (cJ, .long)] s → zXL (fun q => s.heap.size ≤ q) s → lv_has ls maxL (lv_args 0 av) →
      W p l e (zXR fr lo) s m args below meth c s.heap [] 0 0 (MQ below (va_Qi (S := Unit) (fun r _ => r = iI k) (fun _ _ => True) (fun q => s.heap.size ≤ q)) args s 1 6 (fun q => s.heap.size ≤ q)) (F0 m 0 ls [])) : zLx l y wds fr lo D cI cJ av ws k := by
  intro sz
  refine va_MetW (cc := cc) (maxL := maxL) (ret := some .int) (hh := hh) hy hw ?_
  intro p e s m args below meth c s₁ B hml hv
  obtain ⟨rfl, rfl, hP, hK, hX⟩ := hv
  have hl := lv_entry av (n := maxL) hav
  rw [lg_entry_eq]
  have hts := atoms_spec (ws := wds) B.pre
  exact body p e s m _ below meth c _ ⟨B.exec, B.bytes, hml, findClass_of_methodNamed B.named, hts⟩ (vx_table (x := y) B (hts _ (by rw [hw]; exact List.mem_cons_self))) B.returns B.notSynchronized hP hK hX hl

set_option maxHeartbeats 4000000 in
set_option maxRecDepth 100000 in
/-- L_come where the class throws -/
theorem f_L_come (l : Launch) (hfl : l.stackTraces = false) (D : va_G) (cI : ClassId) (h B C G GB GW GR TB TC TG TGB TGW TGR FR CH J : Nat) (cJ : ClassId) (n : Nat) (b : Nat → Int) (rc : Int) (bo wo ro fr : Nat → Int) (sh po : Int) (tn : Nat) (tb tbo two tro ch : Nat → Int) (f : Nat → Int64)  (hn : n ≤ 6) (hb0 : ∀ k, 0 ≤ b k ∧ b k ≤ 999)  (hbad : ¬ n < 6) : zLx l yL_come wsL_come 7 102 D cI cJ [.ref h, .ref J] (zXW h B C G GB GW GR TB TC TG TGB TGW TGR FR CH J cI cJ n b rc (bo, wo, ro, fr, sh, po, tn, tb, tbo, two, tro, ch, f)) ((1 : Nat) : Int) := by
  refine zLx_of (cc := cL_come) (maxL := 3) (hh := [(0, 8, 11, 13)]) (by decide) rfl (Nat.le_of_ble_eq_true rfl) ?_
  intro p e s m args below meth c ls hF htab hr hlocks hP hK hX hl
  have hF : zFix p m c cL_come 3 s args wsL_come RL := hF
  obtain ⟨hx, hb, hml, hown, hts⟩ := id hF
  have hl : lv_has ls 3 [(0, .ref h), (1, .ref J)] := hl
  have hP : va_P D vwCl [(h, .inr (2, [.ref B, .ref G, .ref TB, .ref TG, .ref FR, .ref CH, .int (iI (rc)), .int (iI (sh)), .int (iI (po))])), (B, .inr (0, [.ref C, .int (iI ((n : Nat) : Int))])), (C, zArr cI 36 b), (G, .inr (1, [.ref GB, .ref GW, .ref GR])), (GB, zArr cI 64 bo), (GW, zArr cI 64 wo), (GR, zArr cI 6 ro), (TB, .inr (0, [.ref TC, .int (iI ((tn : Nat) : Int))])), (TC, zArr cI 36 tb), (TG, .inr (1, [.ref TGB, .ref TGW, .ref TGR])), (TGB, zArr cI 64 tbo), (TGW, zArr cI 64 two), (TGR, zArr cI 6 tro), (FR, zArr cI 6 fr), (CH, zArr cI 6 ch), (J, .inl (cJ, (1, .inr (.inl f))))] s.heap := hP
  refine lv_aload_n hx hb dL_come_0 rfl (lv_at hl 1 rfl) ?_
  refine zr_ic (n := ((0 : Nat) : Int)) hx hb dL_come_1 ?_
  refine lv_aload_n hx hb dL_come_2 rfl (lv_at hl 0 rfl) ?_
  have hPc : va_P D vwCl [(h, .inr (2, [.ref B, .ref G, .ref TB, .ref TG, .ref FR, .ref CH, .int (iI (rc)), .int (iI (sh)), .int (iI (po))])), (B, .inr (0, [.ref C, .int (iI ((n : Nat) : Int))])), (C, zArr cI 36 b), (G, .inr (1, [.ref GB, .ref GW, .ref GR])), (GB, zArr cI 64 bo), (GW, zArr cI 64 wo), (GR, zArr cI 6 ro), (FR, zArr cI 6 fr)] s.heap := hP.sub [0, 1, 2, 3, 4, 5, 6, 13] rfl
  have hKc : va_K D vwCl [(cI, .int)] s := hK.sub [0] rfl
  refine vx_calli (A0 := fun q => s.heap.size ≤ q) (vx_runV (As := []) (rest := [.int (iI ((0 : Nat) : Int)), .ref J]) hF (t_X2_come l hfl D cI h B C G GB GW GR TB TG FR CH n b bo wo ro fr rc sh po  hn hb0  hbad s.heap.size) (cwV 0 hts gL_come_X2_come rfl rfl rfl (by decide +kernel) ⟨Nat.le_of_ble_eq_true rfl, Nat.le_of_ble_eq_true rfl⟩) ⟨zXP_blind, va_recv hKc hPc (ci := 2) (q0 := 0) rfl rfl, fun U hU hW => ⟨rfl, by rw [hU], by rw [hU]; exact hPc, va_K.moved hW.alike hKc, zXF_warm hW hU hX.1⟩⟩ rfl rfl hl.1 rfl (lv_room (Nat.le_of_ble_eq_true rfl)) dL_come_3 ⟨Nat.le_of_ble_eq_true rfl, Nat.le_of_ble_eq_true rfl⟩) va_S.rf (fun q _ h => h) (fun q h => h) (fun q _ h => h) (fun E ce q9 u t H1 locs1 ht hvm hpx hBX hz hk hS hcell hv hcl => ?_) (fun r u t H1 locs1 ht hvm hpost _ _ _ _ => hpost.elim)
  have hE : E = zISE := hBX
  subst hE
  refine vx_catch hown [] ⟨0, 8, 11, 13⟩ [] htab (fun z h => nomatch h) (by decide) (by decide) (hts (.classLink RL 13 zISE) (by decide +kernel)) (va_Nw.use rfl (hX.1.1.1 zISE (List.mem_of_getElem? (i := 0) rfl))) hcell hv hcl ?_
  refine lv_astore_n (lv' := (2, .ref q9) :: [(0, .ref h), (1, .ref J)]) hx hb dL_come_11 rfl hl (by decide) rfl (fun ls hl => ?_)
  refine zr_ic (n := ((1 : Nat) : Int)) hx hb dL_come_12 ?_
  exact W.iret hx hb hr (fun t ht _ => ⟨⟨_, (), rfl, rfl, trivial⟩, hS.F ht⟩) hS.2.2 dL_come_13 hlocks
set_option maxHeartbeats 4000000 in
set_option maxRecDepth 100000 in
/-- L_told where the class throws -/
theorem f_L_told (l : Launch) (hfl : l.stackTraces = false) (D : va_G) (cI : ClassId) (h B C G GB GW GR TB TC TG TGB TGW TGR FR CH J : Nat) (cJ : ClassId) (n : Nat) (b : Nat → Int) (rc : Int) (bo wo ro fr : Nat → Int) (sh po : Int) (tn : Nat) (tb tbo two tro ch : Nat → Int) (f : Nat → Int64) (z1 : Int) (z2 : Int) (hn : n ≤ 6) (hb0 : ∀ k, 0 ≤ b k ∧ b k ≤ 999) (hz1 : zB z1) (hz2 : zB z2) (hbad : ¬ ((0 ≤ z1 ∧ z1 < (n : Int)) ∧ 0 ≤ z2 ∧ z2 < 6)) : zLx l yL_told wsL_told 7 104 D cI cJ [.ref h, .int (iI (z1)), .int (iI (z2)), .ref J] (zXW h B C G GB GW GR TB TC TG TGB TGW TGR FR CH J cI cJ n b rc (bo, wo, ro, fr, sh, po, tn, tb, tbo, two, tro, ch, f)) ((1 : Nat) : Int) := by
  refine zLx_of (cc := cL_told) (maxL := 5) (hh := [(0, 10, 13, 19)]) (by decide) rfl (Nat.le_of_ble_eq_true rfl) ?_
  intro p e s m args below meth c ls hF htab hr hlocks hP hK hX hl
  have hF : zFix p m c cL_told 5 s args wsL_told RL := hF
  obtain ⟨hx, hb, hml, hown, hts⟩ := id hF
  have hl : lv_has ls 5 [(0, .ref h), (1, .int (iI (z1))), (2, .int (iI (z2))), (3, .ref J)] := hl
  have hP : va_P D vwCl [(h, .inr (2, [.ref B, .ref G, .ref TB, .ref TG, .ref FR, .ref CH, .int (iI (rc)), .int (iI (sh)), .int (iI (po))])), (B, .inr (0, [.ref C, .int (iI ((n : Nat) : Int))])), (C, zArr cI 36 b), (G, .inr (1, [.ref GB, .ref GW, .ref GR])), (GB, zArr cI 64 bo), (GW, zArr cI 64 wo), (GR, zArr cI 6 ro), (TB, .inr (0, [.ref TC, .int (iI ((tn : Nat) : Int))])), (TC, zArr cI 36 tb), (TG, .inr (1, [.ref TGB, .ref TGW, .ref TGR])), (TGB, zArr cI 64 tbo), (TGW, zArr cI 64 two), (TGR, zArr cI 6 tro), (FR, zArr cI 6 fr), (CH, zArr cI 6 ch), (J, .inl (cJ, (1, .inr (.inl f))))] s.heap := hP
  refine lv_aload_n hx hb dL_told_0 rfl (lv_at hl 3 rfl) ?_
  refine zr_ic (n := ((0 : Nat) : Int)) hx hb dL_told_1 ?_
  refine lv_aload_n hx hb dL_told_2 rfl (lv_at hl 0 rfl) ?_
  refine lv_iload_n hx hb dL_told_3 rfl (lv_at hl 1 rfl) ?_
  refine lv_iload_n hx hb dL_told_4 rfl (lv_at hl 2 rfl) ?_
  have hPc : va_P D vwCl [(h, .inr (2, [.ref B, .ref G, .ref TB, .ref TG, .ref FR, .ref CH, .int (iI (rc)), .int (iI (sh)), .int (iI (po))])), (B, .inr (0, [.ref C, .int (iI ((n : Nat) : Int))])), (C, zArr cI 36 b), (G, .inr (1, [.ref GB, .ref GW, .ref GR])), (GB, zArr cI 64 bo), (GW, zArr cI 64 wo), (GR, zArr cI 6 ro), (FR, zArr cI 6 fr)] s.heap := hP.sub [0, 1, 2, 3, 4, 5, 6, 13] rfl
  have hKc : va_K D vwCl [(cI, .int)] s := hK.sub [0] rfl
  refine vx_calli (A0 := fun q => s.heap.size ≤ q) (vx_runV (As := [.int (iI (z1)), .int (iI (z2))]) (rest := [.int (iI ((0 : Nat) : Int)), .ref J]) hF (t_X2_told l hfl D cI h B C G GB GW GR TB TG FR CH n b bo wo ro fr rc sh po z1 z2 hn hb0 hz1 hz2 hbad s.heap.size) (cwV 2 hts gL_told_X2_told rfl rfl rfl (by decide +kernel) ⟨Nat.le_of_ble_eq_true rfl, Nat.le_of_ble_eq_true rfl⟩) ⟨zXP_blind, va_recv hKc hPc (ci := 2) (q0 := 0) rfl rfl, fun U hU hW => ⟨rfl, by rw [hU], by rw [hU]; exact hPc, va_K.moved hW.alike hKc, zXF_warm hW hU hX.1⟩⟩ rfl rfl hl.1 rfl (lv_room (Nat.le_of_ble_eq_true rfl)) dL_told_5 ⟨Nat.le_of_ble_eq_true rfl, Nat.le_of_ble_eq_true rfl⟩) va_S.rf (fun q _ h => h) (fun q h => h) (fun q _ h => h) (fun E ce q9 u t H1 locs1 ht hvm hpx hBX hz hk hS hcell hv hcl => ?_) (fun r u t H1 locs1 ht hvm hpost _ _ _ _ => hpost.elim)
  have hE : E = zOOB := hBX
  subst hE
  refine vx_catch hown [] ⟨0, 10, 13, 19⟩ [] htab (fun z h => nomatch h) (by decide) (by decide) (hts (.classLink RL 19 zOOB) (by decide +kernel)) (va_Nw.use rfl (hX.1.1.1 zOOB (List.mem_of_getElem? (i := 1) rfl))) hcell hv hcl ?_
  refine lv_astore (lv' := (4, .ref q9) :: [(0, .ref h), (1, .int (iI (z1))), (2, .int (iI (z2))), (3, .ref J)]) hx hb dL_told_13 hl (by decide) rfl (fun ls hl => ?_)
  refine zr_ic (n := ((1 : Nat) : Int)) hx hb dL_told_15 ?_
  exact W.iret hx hb hr (fun t ht _ => ⟨⟨_, (), rfl, rfl, trivial⟩, hS.F ht⟩) hS.2.2 dL_told_16 hlocks
set_option maxHeartbeats 4000000 in
set_option maxRecDepth 100000 in
/-- L_offer where the class throws -/
theorem f_L_offer (l : Launch) (hfl : l.stackTraces = false) (D : va_G) (cI : ClassId) (h B C G GB GW GR TB TC TG TGB TGW TGR FR CH J : Nat) (cJ : ClassId) (n : Nat) (b : Nat → Int) (rc : Int) (bo wo ro fr : Nat → Int) (sh po : Int) (tn : Nat) (tb tbo two tro ch : Nat → Int) (f : Nat → Int64) (z1 : Int) (z2 : Int) (hn : n ≤ 6) (hb0 : ∀ k, 0 ≤ b k ∧ b k ≤ 999) (hz1 : zB z1) (hz2 : zB z2) (hbad : ¬ ((0 ≤ z1 ∧ z1 < (n : Int)) ∧ 0 ≤ z2 ∧ z2 < (n : Int))) : zLx l yL_offer wsL_offer 7 104 D cI cJ [.ref h, .int (iI (z1)), .int (iI (z2)), .ref J] (zXW h B C G GB GW GR TB TC TG TGB TGW TGR FR CH J cI cJ n b rc (bo, wo, ro, fr, sh, po, tn, tb, tbo, two, tro, ch, f)) ((1 : Nat) : Int) := by
  refine zLx_of (cc := cL_offer) (maxL := 5) (hh := [(0, 10, 13, 19)]) (by decide) rfl (Nat.le_of_ble_eq_true rfl) ?_
  intro p e s m args below meth c ls hF htab hr hlocks hP hK hX hl
  have hF : zFix p m c cL_offer 5 s args wsL_offer RL := hF
  obtain ⟨hx, hb, hml, hown, hts⟩ := id hF
  have hl : lv_has ls 5 [(0, .ref h), (1, .int (iI (z1))), (2, .int (iI (z2))), (3, .ref J)] := hl
  have hP : va_P D vwCl [(h, .inr (2, [.ref B, .ref G, .ref TB, .ref TG, .ref FR, .ref CH, .int (iI (rc)), .int (iI (sh)), .int (iI (po))])), (B, .inr (0, [.ref C, .int (iI ((n : Nat) : Int))])), (C, zArr cI 36 b), (G, .inr (1, [.ref GB, .ref GW, .ref GR])), (GB, zArr cI 64 bo), (GW, zArr cI 64 wo), (GR, zArr cI 6 ro), (TB, .inr (0, [.ref TC, .int (iI ((tn : Nat) : Int))])), (TC, zArr cI 36 tb), (TG, .inr (1, [.ref TGB, .ref TGW, .ref TGR])), (TGB, zArr cI 64 tbo), (TGW, zArr cI 64 two), (TGR, zArr cI 6 tro), (FR, zArr cI 6 fr), (CH, zArr cI 6 ch), (J, .inl (cJ, (1, .inr (.inl f))))] s.heap := hP
  refine lv_aload_n hx hb dL_offer_0 rfl (lv_at hl 3 rfl) ?_
  refine zr_ic (n := ((0 : Nat) : Int)) hx hb dL_offer_1 ?_
  refine lv_aload_n hx hb dL_offer_2 rfl (lv_at hl 0 rfl) ?_
  refine lv_iload_n hx hb dL_offer_3 rfl (lv_at hl 1 rfl) ?_
  refine lv_iload_n hx hb dL_offer_4 rfl (lv_at hl 2 rfl) ?_
  have hPc : va_P D vwCl [(h, .inr (2, [.ref B, .ref G, .ref TB, .ref TG, .ref FR, .ref CH, .int (iI (rc)), .int (iI (sh)), .int (iI (po))])), (B, .inr (0, [.ref C, .int (iI ((n : Nat) : Int))])), (C, zArr cI 36 b), (G, .inr (1, [.ref GB, .ref GW, .ref GR])), (GB, zArr cI 64 bo), (GW, zArr cI 64 wo), (GR, zArr cI 6 ro), (FR, zArr cI 6 fr)] s.heap := hP.sub [0, 1, 2, 3, 4, 5, 6, 13] rfl
  have hKc : va_K D vwCl [(cI, .int)] s := hK.sub [0] rfl
  refine vx_calli (A0 := fun q => s.heap.size ≤ q) (vx_runV (As := [.int (iI (z1)), .int (iI (z2))]) (rest := [.int (iI ((0 : Nat) : Int)), .ref J]) hF (t_X2_offer l hfl D cI h B C G GB GW GR TB TG FR CH n b bo wo ro fr rc sh po z1 z2 hn hb0 hz1 hz2 hbad s.heap.size) (cwV 2 hts gL_offer_X2_offer rfl rfl rfl (by decide +kernel) ⟨Nat.le_of_ble_eq_true rfl, Nat.le_of_ble_eq_true rfl⟩) ⟨zXP_blind, va_recv hKc hPc (ci := 2) (q0 := 0) rfl rfl, fun U hU hW => ⟨rfl, by rw [hU], by rw [hU]; exact hPc, va_K.moved hW.alike hKc, zXF_warm hW hU hX.1⟩⟩ rfl rfl hl.1 rfl (lv_room (Nat.le_of_ble_eq_true rfl)) dL_offer_5 ⟨Nat.le_of_ble_eq_true rfl, Nat.le_of_ble_eq_true rfl⟩) va_S.rf (fun q _ h => h) (fun q h => h) (fun q _ h => h) (fun E ce q9 u t H1 locs1 ht hvm hpx hBX hz hk hS hcell hv hcl => ?_) (fun r u t H1 locs1 ht hvm hpost _ _ _ _ => hpost.elim)
  have hE : E = zOOB := hBX
  subst hE
  refine vx_catch hown [] ⟨0, 10, 13, 19⟩ [] htab (fun z h => nomatch h) (by decide) (by decide) (hts (.classLink RL 19 zOOB) (by decide +kernel)) (va_Nw.use rfl (hX.1.1.1 zOOB (List.mem_of_getElem? (i := 1) rfl))) hcell hv hcl ?_
  refine lv_astore (lv' := (4, .ref q9) :: [(0, .ref h), (1, .int (iI (z1))), (2, .int (iI (z2))), (3, .ref J)]) hx hb dL_offer_13 hl (by decide) rfl (fun ls hl => ?_)
  refine zr_ic (n := ((1 : Nat) : Int)) hx hb dL_offer_15 ?_
  exact W.iret hx hb hr (fun t ht _ => ⟨⟨_, (), rfl, rfl, trivial⟩, hS.F ht⟩) hS.2.2 dL_offer_16 hlocks
set_option maxHeartbeats 4000000 in
set_option maxRecDepth 100000 in
/-- L_envies where the class throws -/
theorem f_L_envies (l : Launch) (hfl : l.stackTraces = false) (D : va_G) (cI : ClassId) (h B C G GB GW GR TB TC TG TGB TGW TGR FR CH J : Nat) (cJ : ClassId) (n : Nat) (b : Nat → Int) (rc : Int) (bo wo ro fr : Nat → Int) (sh po : Int) (tn : Nat) (tb tbo two tro ch : Nat → Int) (f : Nat → Int64) (z1 : Int) (z2 : Int) (hn : n ≤ 6) (hb0 : ∀ k, 0 ≤ b k ∧ b k ≤ 999) (hz1 : zB z1) (hz2 : zB z2) (hbad : ¬ ((0 ≤ z1 ∧ z1 < (n : Int)) ∧ 0 ≤ z2 ∧ z2 < (n : Int))) : zLx l yL_envies wsL_envies 7 104 D cI cJ [.ref h, .int (iI (z1)), .int (iI (z2)), .ref J] (zXW h B C G GB GW GR TB TC TG TGB TGW TGR FR CH J cI cJ n b rc (bo, wo, ro, fr, sh, po, tn, tb, tbo, two, tro, ch, f)) ((1 : Nat) : Int) := by
  refine zLx_of (cc := cL_envies) (maxL := 5) (hh := [(0, 17, 20, 19)]) (by decide) rfl (Nat.le_of_ble_eq_true rfl) ?_
  intro p e s m args below meth c ls hF htab hr hlocks hP hK hX hl
  have hF : zFix p m c cL_envies 5 s args wsL_envies RL := hF
  obtain ⟨hx, hb, hml, hown, hts⟩ := id hF
  have hl : lv_has ls 5 [(0, .ref h), (1, .int (iI (z1))), (2, .int (iI (z2))), (3, .ref J)] := hl
  have hP : va_P D vwCl [(h, .inr (2, [.ref B, .ref G, .ref TB, .ref TG, .ref FR, .ref CH, .int (iI (rc)), .int (iI (sh)), .int (iI (po))])), (B, .inr (0, [.ref C, .int (iI ((n : Nat) : Int))])), (C, zArr cI 36 b), (G, .inr (1, [.ref GB, .ref GW, .ref GR])), (GB, zArr cI 64 bo), (GW, zArr cI 64 wo), (GR, zArr cI 6 ro), (TB, .inr (0, [.ref TC, .int (iI ((tn : Nat) : Int))])), (TC, zArr cI 36 tb), (TG, .inr (1, [.ref TGB, .ref TGW, .ref TGR])), (TGB, zArr cI 64 tbo), (TGW, zArr cI 64 two), (TGR, zArr cI 6 tro), (FR, zArr cI 6 fr), (CH, zArr cI 6 ch), (J, .inl (cJ, (1, .inr (.inl f))))] s.heap := hP
  refine lv_aload_n hx hb dL_envies_0 rfl (lv_at hl 3 rfl) ?_
  refine zr_ic (n := ((0 : Nat) : Int)) hx hb dL_envies_1 ?_
  refine lv_aload_n hx hb dL_envies_2 rfl (lv_at hl 0 rfl) ?_
  refine lv_iload_n hx hb dL_envies_3 rfl (lv_at hl 1 rfl) ?_
  refine lv_iload_n hx hb dL_envies_4 rfl (lv_at hl 2 rfl) ?_
  have hPc : va_P D vwCl [(h, .inr (2, [.ref B, .ref G, .ref TB, .ref TG, .ref FR, .ref CH, .int (iI (rc)), .int (iI (sh)), .int (iI (po))])), (B, .inr (0, [.ref C, .int (iI ((n : Nat) : Int))])), (C, zArr cI 36 b), (G, .inr (1, [.ref GB, .ref GW, .ref GR])), (GB, zArr cI 64 bo), (GW, zArr cI 64 wo), (GR, zArr cI 6 ro), (FR, zArr cI 6 fr)] s.heap := hP.sub [0, 1, 2, 3, 4, 5, 6, 13] rfl
  have hKc : va_K D vwCl [(cI, .int)] s := hK.sub [0] rfl
  refine vx_calli (A0 := fun q => s.heap.size ≤ q) (vx_runV (As := [.int (iI (z1)), .int (iI (z2))]) (rest := [.int (iI ((0 : Nat) : Int)), .ref J]) hF (t_X2_envies l hfl D cI h B C G GB GW GR TB TG FR CH n b bo wo ro fr rc sh po z1 z2 hn hb0 hz1 hz2 hbad s.heap.size) (cwV 2 hts gL_envies_X2_envies rfl rfl rfl (by decide +kernel) ⟨Nat.le_of_ble_eq_true rfl, Nat.le_of_ble_eq_true rfl⟩) ⟨zXP_blind, va_recv hKc hPc (ci := 2) (q0 := 0) rfl rfl, fun U hU hW => ⟨rfl, by rw [hU], by rw [hU]; exact hPc, va_K.moved hW.alike hKc, zXF_warm hW hU hX.1⟩⟩ rfl rfl hl.1 rfl (lv_room (Nat.le_of_ble_eq_true rfl)) dL_envies_5 ⟨Nat.le_of_ble_eq_true rfl, Nat.le_of_ble_eq_true rfl⟩) va_S.rf (fun q _ h => h) (fun q h => h) (fun q _ h => h) (fun E ce q9 u t H1 locs1 ht hvm hpx hBX hz hk hS hcell hv hcl => ?_) (fun r u t H1 locs1 ht hvm hpost _ _ _ _ => hpost.elim)
  have hE : E = zOOB := hBX
  subst hE
  refine vx_catch hown [] ⟨0, 17, 20, 19⟩ [] htab (fun z h => nomatch h) (by decide) (by decide) (hts (.classLink RL 19 zOOB) (by decide +kernel)) (va_Nw.use rfl (hX.1.1.1 zOOB (List.mem_of_getElem? (i := 1) rfl))) hcell hv hcl ?_
  refine lv_astore (lv' := (4, .ref q9) :: [(0, .ref h), (1, .int (iI (z1))), (2, .int (iI (z2))), (3, .ref J)]) hx hb dL_envies_20 hl (by decide) rfl (fun ls hl => ?_)
  refine zr_ic (n := ((1 : Nat) : Int)) hx hb dL_envies_22 ?_
  exact W.iret hx hb hr (fun t ht _ => ⟨⟨_, (), rfl, rfl, trivial⟩, hS.F ht⟩) hS.2.2 dL_envies_23 hlocks
set_option maxHeartbeats 4000000 in
set_option maxRecDepth 100000 in
/-- L_gap where the class throws -/
theorem f_L_gap (l : Launch) (hfl : l.stackTraces = false) (D : va_G) (cI : ClassId) (h B C G GB GW GR TB TC TG TGB TGW TGR FR CH J : Nat) (cJ : ClassId) (n : Nat) (b : Nat → Int) (rc : Int) (bo wo ro fr : Nat → Int) (sh po : Int) (tn : Nat) (tb tbo two tro ch : Nat → Int) (f : Nat → Int64) (z1 : Int) (z2 : Int) (hn : n ≤ 6) (hb0 : ∀ k, 0 ≤ b k ∧ b k ≤ 999) (hz1 : zB z1) (hz2 : zB z2) (hbad : ¬ ((0 ≤ z1 ∧ z1 < (n : Int)) ∧ 0 ≤ z2 ∧ z2 < (n : Int))) : zLx l yL_gap wsL_gap 7 104 D cI cJ [.ref h, .int (iI (z1)), .int (iI (z2)), .ref J] (zXW h B C G GB GW GR TB TC TG TGB TGW TGR FR CH J cI cJ n b rc (bo, wo, ro, fr, sh, po, tn, tb, tbo, two, tro, ch, f)) ((1 : Nat) : Int) := by
  refine zLx_of (cc := cL_gap) (maxL := 5) (hh := [(0, 10, 13, 19)]) (by decide) rfl (Nat.le_of_ble_eq_true rfl) ?_
  intro p e s m args below meth c ls hF htab hr hlocks hP hK hX hl
  have hF : zFix p m c cL_gap 5 s args wsL_gap RL := hF
  obtain ⟨hx, hb, hml, hown, hts⟩ := id hF
  have hl : lv_has ls 5 [(0, .ref h), (1, .int (iI (z1))), (2, .int (iI (z2))), (3, .ref J)] := hl
  have hP : va_P D vwCl [(h, .inr (2, [.ref B, .ref G, .ref TB, .ref TG, .ref FR, .ref CH, .int (iI (rc)), .int (iI (sh)), .int (iI (po))])), (B, .inr (0, [.ref C, .int (iI ((n : Nat) : Int))])), (C, zArr cI 36 b), (G, .inr (1, [.ref GB, .ref GW, .ref GR])), (GB, zArr cI 64 bo), (GW, zArr cI 64 wo), (GR, zArr cI 6 ro), (TB, .inr (0, [.ref TC, .int (iI ((tn : Nat) : Int))])), (TC, zArr cI 36 tb), (TG, .inr (1, [.ref TGB, .ref TGW, .ref TGR])), (TGB, zArr cI 64 tbo), (TGW, zArr cI 64 two), (TGR, zArr cI 6 tro), (FR, zArr cI 6 fr), (CH, zArr cI 6 ch), (J, .inl (cJ, (1, .inr (.inl f))))] s.heap := hP
  refine lv_aload_n hx hb dL_gap_0 rfl (lv_at hl 3 rfl) ?_
  refine zr_ic (n := ((0 : Nat) : Int)) hx hb dL_gap_1 ?_
  refine lv_aload_n hx hb dL_gap_2 rfl (lv_at hl 0 rfl) ?_
  refine lv_iload_n hx hb dL_gap_3 rfl (lv_at hl 1 rfl) ?_
  refine lv_iload_n hx hb dL_gap_4 rfl (lv_at hl 2 rfl) ?_
  have hPc : va_P D vwCl [(h, .inr (2, [.ref B, .ref G, .ref TB, .ref TG, .ref FR, .ref CH, .int (iI (rc)), .int (iI (sh)), .int (iI (po))])), (B, .inr (0, [.ref C, .int (iI ((n : Nat) : Int))])), (C, zArr cI 36 b), (G, .inr (1, [.ref GB, .ref GW, .ref GR])), (GB, zArr cI 64 bo), (GW, zArr cI 64 wo), (GR, zArr cI 6 ro), (FR, zArr cI 6 fr)] s.heap := hP.sub [0, 1, 2, 3, 4, 5, 6, 13] rfl
  have hKc : va_K D vwCl [(cI, .int)] s := hK.sub [0] rfl
  refine vx_calli (A0 := fun q => s.heap.size ≤ q) (vx_runV (As := [.int (iI (z1)), .int (iI (z2))]) (rest := [.int (iI ((0 : Nat) : Int)), .ref J]) hF (t_X2_gap l hfl D cI h B C G GB GW GR TB TG FR CH n b bo wo ro fr rc sh po z1 z2 hn hb0 hz1 hz2 hbad s.heap.size) (cwV 2 hts gL_gap_X2_gap rfl rfl rfl (by decide +kernel) ⟨Nat.le_of_ble_eq_true rfl, Nat.le_of_ble_eq_true rfl⟩) ⟨zXP_blind, va_recv hKc hPc (ci := 2) (q0 := 0) rfl rfl, fun U hU hW => ⟨rfl, by rw [hU], by rw [hU]; exact hPc, va_K.moved hW.alike hKc, zXF_warm hW hU hX.1⟩⟩ rfl rfl hl.1 rfl (lv_room (Nat.le_of_ble_eq_true rfl)) dL_gap_5 ⟨Nat.le_of_ble_eq_true rfl, Nat.le_of_ble_eq_true rfl⟩) va_S.rf (fun q _ h => h) (fun q h => h) (fun q _ h => h) (fun E ce q9 u t H1 locs1 ht hvm hpx hBX hz hk hS hcell hv hcl => ?_) (fun r u t H1 locs1 ht hvm hpost _ _ _ _ => hpost.elim)
  have hE : E = zOOB := hBX
  subst hE
  refine vx_catch hown [] ⟨0, 10, 13, 19⟩ [] htab (fun z h => nomatch h) (by decide) (by decide) (hts (.classLink RL 19 zOOB) (by decide +kernel)) (va_Nw.use rfl (hX.1.1.1 zOOB (List.mem_of_getElem? (i := 1) rfl))) hcell hv hcl ?_
  refine lv_astore (lv' := (4, .ref q9) :: [(0, .ref h), (1, .int (iI (z1))), (2, .int (iI (z2))), (3, .ref J)]) hx hb dL_gap_13 hl (by decide) rfl (fun ls hl => ?_)
  refine zr_ic (n := ((1 : Nat) : Int)) hx hb dL_gap_15 ?_
  exact W.iret hx hb hr (fun t ht _ => ⟨⟨_, (), rfl, rfl, trivial⟩, hS.F ht⟩) hS.2.2 dL_gap_16 hlocks
set_option maxHeartbeats 4000000 in
set_option maxRecDepth 100000 in
/-- L_needs where the class throws -/
theorem f_L_needs (l : Launch) (hfl : l.stackTraces = false) (D : va_G) (cI : ClassId) (h B C G GB GW GR TB TC TG TGB TGW TGR FR CH J : Nat) (cJ : ClassId) (n : Nat) (b : Nat → Int) (rc : Int) (bo wo ro fr : Nat → Int) (sh po : Int) (tn : Nat) (tb tbo two tro ch : Nat → Int) (f : Nat → Int64) (z1 : Int) (z2 : Int) (hn : n ≤ 6) (hb0 : ∀ k, 0 ≤ b k ∧ b k ≤ 999) (hz1 : zB z1) (hz2 : zB z2) (hbad : ¬ ((0 ≤ z1 ∧ z1 < (n : Int)) ∧ 0 ≤ z2 ∧ z2 < (n : Int))) : zLx l yL_needs wsL_needs 7 107 D cI cJ [.ref h, .int (iI (z1)), .int (iI (z2)), .ref J] (zXW h B C G GB GW GR TB TC TG TGB TGW TGR FR CH J cI cJ n b rc (bo, wo, ro, fr, sh, po, tn, tb, tbo, two, tro, ch, f)) ((1 : Nat) : Int) := by
  refine zLx_of (cc := cL_needs) (maxL := 5) (hh := [(0, 10, 13, 19)]) (by decide) rfl (Nat.le_of_ble_eq_true rfl) ?_
  intro p e s m args below meth c ls hF htab hr hlocks hP hK hX hl
  have hF : zFix p m c cL_needs 5 s args wsL_needs RL := hF
  obtain ⟨hx, hb, hml, hown, hts⟩ := id hF
  have hl : lv_has ls 5 [(0, .ref h), (1, .int (iI (z1))), (2, .int (iI (z2))), (3, .ref J)] := hl
  have hP : va_P D vwCl [(h, .inr (2, [.ref B, .ref G, .ref TB, .ref TG, .ref FR, .ref CH, .int (iI (rc)), .int (iI (sh)), .int (iI (po))])), (B, .inr (0, [.ref C, .int (iI ((n : Nat) : Int))])), (C, zArr cI 36 b), (G, .inr (1, [.ref GB, .ref GW, .ref GR])), (GB, zArr cI 64 bo), (GW, zArr cI 64 wo), (GR, zArr cI 6 ro), (TB, .inr (0, [.ref TC, .int (iI ((tn : Nat) : Int))])), (TC, zArr cI 36 tb), (TG, .inr (1, [.ref TGB, .ref TGW, .ref TGR])), (TGB, zArr cI 64 tbo), (TGW, zArr cI 64 two), (TGR, zArr cI 6 tro), (FR, zArr cI 6 fr), (CH, zArr cI 6 ch), (J, .inl (cJ, (1, .inr (.inl f))))] s.heap := hP
  refine lv_aload_n hx hb dL_needs_0 rfl (lv_at hl 3 rfl) ?_
  refine zr_ic (n := ((0 : Nat) : Int)) hx hb dL_needs_1 ?_
  refine lv_aload_n hx hb dL_needs_2 rfl (lv_at hl 0 rfl) ?_
  refine lv_iload_n hx hb dL_needs_3 rfl (lv_at hl 1 rfl) ?_
  refine lv_iload_n hx hb dL_needs_4 rfl (lv_at hl 2 rfl) ?_
  have hPc : va_P D vwCl [(h, .inr (2, [.ref B, .ref G, .ref TB, .ref TG, .ref FR, .ref CH, .int (iI (rc)), .int (iI (sh)), .int (iI (po))])), (B, .inr (0, [.ref C, .int (iI ((n : Nat) : Int))])), (C, zArr cI 36 b), (G, .inr (1, [.ref GB, .ref GW, .ref GR])), (GB, zArr cI 64 bo), (GW, zArr cI 64 wo), (GR, zArr cI 6 ro), (FR, zArr cI 6 fr)] s.heap := hP.sub [0, 1, 2, 3, 4, 5, 6, 13] rfl
  have hKc : va_K D vwCl [(cI, .int)] s := hK.sub [0] rfl
  refine vx_calli (A0 := fun q => s.heap.size ≤ q) (vx_runV (As := [.int (iI (z1)), .int (iI (z2))]) (rest := [.int (iI ((0 : Nat) : Int)), .ref J]) hF (t_X2_needs l hfl D cI h B C G GB GW GR TB TG FR CH n b bo wo ro fr rc sh po z1 z2 hn hb0 hz1 hz2 hbad s.heap.size) (cwV 2 hts gL_needs_X2_needs rfl rfl rfl (by decide +kernel) ⟨Nat.le_of_ble_eq_true rfl, Nat.le_of_ble_eq_true rfl⟩) ⟨zXP_blind, va_recv hKc hPc (ci := 2) (q0 := 0) rfl rfl, fun U hU hW => ⟨rfl, by rw [hU], by rw [hU]; exact hPc, va_K.moved hW.alike hKc, zXF_warm hW hU hX.1⟩⟩ rfl rfl hl.1 rfl (lv_room (Nat.le_of_ble_eq_true rfl)) dL_needs_5 ⟨Nat.le_of_ble_eq_true rfl, Nat.le_of_ble_eq_true rfl⟩) va_S.rf (fun q _ h => h) (fun q h => h) (fun q _ h => h) (fun E ce q9 u t H1 locs1 ht hvm hpx hBX hz hk hS hcell hv hcl => ?_) (fun r u t H1 locs1 ht hvm hpost _ _ _ _ => hpost.elim)
  have hE : E = zOOB := hBX
  subst hE
  refine vx_catch hown [] ⟨0, 10, 13, 19⟩ [] htab (fun z h => nomatch h) (by decide) (by decide) (hts (.classLink RL 19 zOOB) (by decide +kernel)) (va_Nw.use rfl (hX.1.1.1 zOOB (List.mem_of_getElem? (i := 1) rfl))) hcell hv hcl ?_
  refine lv_astore (lv' := (4, .ref q9) :: [(0, .ref h), (1, .int (iI (z1))), (2, .int (iI (z2))), (3, .ref J)]) hx hb dL_needs_13 hl (by decide) rfl (fun ls hl => ?_)
  refine zr_ic (n := ((1 : Nat) : Int)) hx hb dL_needs_15 ?_
  exact W.iret hx hb hr (fun t ht _ => ⟨⟨_, (), rfl, rfl, trivial⟩, hS.F ht⟩) hS.2.2 dL_needs_16 hlocks
set_option maxHeartbeats 4000000 in
set_option maxRecDepth 100000 in
/-- L_count where the class throws -/
theorem f_L_count (l : Launch) (hfl : l.stackTraces = false) (D : va_G) (cI : ClassId) (h B C G GB GW GR TB TC TG TGB TGW TGR FR CH J : Nat) (cJ : ClassId) (n : Nat) (b : Nat → Int) (rc : Int) (bo wo ro fr : Nat → Int) (sh po : Int) (tn : Nat) (tb tbo two tro ch : Nat → Int) (f : Nat → Int64) (z1 : Int) (hn : n ≤ 6) (hb0 : ∀ k, 0 ≤ b k ∧ b k ≤ 999) (hz1 : zB z1) (hbad : ¬ (0 ≤ z1 ∧ z1 < 7)) : zLx l yL_count wsL_count 7 103 D cI cJ [.ref h, .int (iI (z1)), .ref J] (zXW h B C G GB GW GR TB TC TG TGB TGW TGR FR CH J cI cJ n b rc (bo, wo, ro, fr, sh, po, tn, tb, tbo, two, tro, ch, f)) ((1 : Nat) : Int) := by
  refine zLx_of (cc := cL_count) (maxL := 4) (hh := [(0, 9, 12, 19)]) (by decide) rfl (Nat.le_of_ble_eq_true rfl) ?_
  intro p e s m args below meth c ls hF htab hr hlocks hP hK hX hl
  have hF : zFix p m c cL_count 4 s args wsL_count RL := hF
  obtain ⟨hx, hb, hml, hown, hts⟩ := id hF
  have hl : lv_has ls 4 [(0, .ref h), (1, .int (iI (z1))), (2, .ref J)] := hl
  have hP : va_P D vwCl [(h, .inr (2, [.ref B, .ref G, .ref TB, .ref TG, .ref FR, .ref CH, .int (iI (rc)), .int (iI (sh)), .int (iI (po))])), (B, .inr (0, [.ref C, .int (iI ((n : Nat) : Int))])), (C, zArr cI 36 b), (G, .inr (1, [.ref GB, .ref GW, .ref GR])), (GB, zArr cI 64 bo), (GW, zArr cI 64 wo), (GR, zArr cI 6 ro), (TB, .inr (0, [.ref TC, .int (iI ((tn : Nat) : Int))])), (TC, zArr cI 36 tb), (TG, .inr (1, [.ref TGB, .ref TGW, .ref TGR])), (TGB, zArr cI 64 tbo), (TGW, zArr cI 64 two), (TGR, zArr cI 6 tro), (FR, zArr cI 6 fr), (CH, zArr cI 6 ch), (J, .inl (cJ, (1, .inr (.inl f))))] s.heap := hP
  refine lv_aload_n hx hb dL_count_0 rfl (lv_at hl 2 rfl) ?_
  refine zr_ic (n := ((0 : Nat) : Int)) hx hb dL_count_1 ?_
  refine lv_aload_n hx hb dL_count_2 rfl (lv_at hl 0 rfl) ?_
  refine lv_iload_n hx hb dL_count_3 rfl (lv_at hl 1 rfl) ?_
  have hPc : va_P D vwCl [(h, .inr (2, [.ref B, .ref G, .ref TB, .ref TG, .ref FR, .ref CH, .int (iI (rc)), .int (iI (sh)), .int (iI (po))])), (B, .inr (0, [.ref C, .int (iI ((n : Nat) : Int))])), (C, zArr cI 36 b), (G, .inr (1, [.ref GB, .ref GW, .ref GR])), (GB, zArr cI 64 bo), (GW, zArr cI 64 wo), (GR, zArr cI 6 ro), (FR, zArr cI 6 fr)] s.heap := hP.sub [0, 1, 2, 3, 4, 5, 6, 13] rfl
  have hKc : va_K D vwCl [(cI, .int)] s := hK.sub [0] rfl
  refine vx_calli (A0 := fun q => s.heap.size ≤ q) (vx_runV (As := [.int (iI (z1))]) (rest := [.int (iI ((0 : Nat) : Int)), .ref J]) hF (t_X2_count l hfl D cI h B C G GB GW GR TB TG FR CH n b bo wo ro fr rc sh po z1 hn hb0 hz1 hbad s.heap.size) (cwV 1 hts gL_count_X2_count rfl rfl rfl (by decide +kernel) ⟨Nat.le_of_ble_eq_true rfl, Nat.le_of_ble_eq_true rfl⟩) ⟨zXP_blind, va_recv hKc hPc (ci := 2) (q0 := 0) rfl rfl, fun U hU hW => ⟨rfl, by rw [hU], by rw [hU]; exact hPc, va_K.moved hW.alike hKc, zXF_warm hW hU hX.1⟩⟩ rfl rfl hl.1 rfl (lv_room (Nat.le_of_ble_eq_true rfl)) dL_count_4 ⟨Nat.le_of_ble_eq_true rfl, Nat.le_of_ble_eq_true rfl⟩) va_S.rf (fun q _ h => h) (fun q h => h) (fun q _ h => h) (fun E ce q9 u t H1 locs1 ht hvm hpx hBX hz hk hS hcell hv hcl => ?_) (fun r u t H1 locs1 ht hvm hpost _ _ _ _ => hpost.elim)
  have hE : E = zOOB := hBX
  subst hE
  refine vx_catch hown [] ⟨0, 9, 12, 19⟩ [] htab (fun z h => nomatch h) (by decide) (by decide) (hts (.classLink RL 19 zOOB) (by decide +kernel)) (va_Nw.use rfl (hX.1.1.1 zOOB (List.mem_of_getElem? (i := 1) rfl))) hcell hv hcl ?_
  refine lv_astore_n (lv' := (3, .ref q9) :: [(0, .ref h), (1, .int (iI (z1))), (2, .ref J)]) hx hb dL_count_12 rfl hl (by decide) rfl (fun ls hl => ?_)
  refine zr_ic (n := ((1 : Nat) : Int)) hx hb dL_count_13 ?_
  exact W.iret hx hb hr (fun t ht _ => ⟨⟨_, (), rfl, rfl, trivial⟩, hS.F ht⟩) hS.2.2 dL_count_14 hlocks
set_option maxHeartbeats 4000000 in
set_option maxRecDepth 100000 in
/-- L_leave where the class throws -/
theorem f_L_leave (l : Launch) (hfl : l.stackTraces = false) (D : va_G) (cI : ClassId) (h B C G GB GW GR TB TC TG TGB TGW TGR FR CH J : Nat) (cJ : ClassId) (n : Nat) (b : Nat → Int) (rc : Int) (bo wo ro fr : Nat → Int) (sh po : Int) (tn : Nat) (tb tbo two tro ch : Nat → Int) (f : Nat → Int64) (z1 : Int) (hn : n ≤ 6) (hb0 : ∀ k, 0 ≤ b k ∧ b k ≤ 999) (hz1 : zB z1) (hbad : ¬ (0 ≤ z1 ∧ z1 < (n : Int))) : zLx l yL_leave wsL_leave 7 104 D cI cJ [.ref h, .int (iI (z1)), .ref J] (zXW h B C G GB GW GR TB TC TG TGB TGW TGR FR CH J cI cJ n b rc (bo, wo, ro, fr, sh, po, tn, tb, tbo, two, tro, ch, f)) ((1 : Nat) : Int) := by
  refine zLx_of (cc := cL_leave) (maxL := 4) (hh := [(0, 9, 12, 19)]) (by decide) rfl (Nat.le_of_ble_eq_true rfl) ?_
  intro p e s m args below meth c ls hF htab hr hlocks hP hK hX hl
  have hF : zFix p m c cL_leave 4 s args wsL_leave RL := hF
  obtain ⟨hx, hb, hml, hown, hts⟩ := id hF
  have hl : lv_has ls 4 [(0, .ref h), (1, .int (iI (z1))), (2, .ref J)] := hl
  have hP : va_P D vwCl [(h, .inr (2, [.ref B, .ref G, .ref TB, .ref TG, .ref FR, .ref CH, .int (iI (rc)), .int (iI (sh)), .int (iI (po))])), (B, .inr (0, [.ref C, .int (iI ((n : Nat) : Int))])), (C, zArr cI 36 b), (G, .inr (1, [.ref GB, .ref GW, .ref GR])), (GB, zArr cI 64 bo), (GW, zArr cI 64 wo), (GR, zArr cI 6 ro), (TB, .inr (0, [.ref TC, .int (iI ((tn : Nat) : Int))])), (TC, zArr cI 36 tb), (TG, .inr (1, [.ref TGB, .ref TGW, .ref TGR])), (TGB, zArr cI 64 tbo), (TGW, zArr cI 64 two), (TGR, zArr cI 6 tro), (FR, zArr cI 6 fr), (CH, zArr cI 6 ch), (J, .inl (cJ, (1, .inr (.inl f))))] s.heap := hP
  refine lv_aload_n hx hb dL_leave_0 rfl (lv_at hl 2 rfl) ?_
  refine zr_ic (n := ((0 : Nat) : Int)) hx hb dL_leave_1 ?_
  refine lv_aload_n hx hb dL_leave_2 rfl (lv_at hl 0 rfl) ?_
  refine lv_iload_n hx hb dL_leave_3 rfl (lv_at hl 1 rfl) ?_
  have hPc : va_P D vwCl [(h, .inr (2, [.ref B, .ref G, .ref TB, .ref TG, .ref FR, .ref CH, .int (iI (rc)), .int (iI (sh)), .int (iI (po))])), (B, .inr (0, [.ref C, .int (iI ((n : Nat) : Int))])), (C, zArr cI 36 b), (G, .inr (1, [.ref GB, .ref GW, .ref GR])), (GB, zArr cI 64 bo), (GW, zArr cI 64 wo), (GR, zArr cI 6 ro), (FR, zArr cI 6 fr)] s.heap := hP.sub [0, 1, 2, 3, 4, 5, 6, 13] rfl
  have hKc : va_K D vwCl [(cI, .int)] s := hK.sub [0] rfl
  refine vx_calli (A0 := fun q => s.heap.size ≤ q) (vx_runV (As := [.int (iI (z1))]) (rest := [.int (iI ((0 : Nat) : Int)), .ref J]) hF (t_X2_leave l hfl D cI h B C G GB GW GR TB TG FR CH n b bo wo ro fr rc sh po z1 hn hb0 hz1 hbad s.heap.size) (cwV 1 hts gL_leave_X2_leave rfl rfl rfl (by decide +kernel) ⟨Nat.le_of_ble_eq_true rfl, Nat.le_of_ble_eq_true rfl⟩) ⟨zXP_blind, va_recv hKc hPc (ci := 2) (q0 := 0) rfl rfl, fun U hU hW => ⟨rfl, by rw [hU], by rw [hU]; exact hPc, va_K.moved hW.alike hKc, zXF_warm hW hU hX.1⟩⟩ rfl rfl hl.1 rfl (lv_room (Nat.le_of_ble_eq_true rfl)) dL_leave_4 ⟨Nat.le_of_ble_eq_true rfl, Nat.le_of_ble_eq_true rfl⟩) va_S.rf (fun q _ h => h) (fun q h => h) (fun q _ h => h) (fun E ce q9 u t H1 locs1 ht hvm hpx hBX hz hk hS hcell hv hcl => ?_) (fun r u t H1 locs1 ht hvm hpost _ _ _ _ => hpost.elim)
  have hE : E = zOOB := hBX
  subst hE
  refine vx_catch hown [] ⟨0, 9, 12, 19⟩ [] htab (fun z h => nomatch h) (by decide) (by decide) (hts (.classLink RL 19 zOOB) (by decide +kernel)) (va_Nw.use rfl (hX.1.1.1 zOOB (List.mem_of_getElem? (i := 1) rfl))) hcell hv hcl ?_
  refine lv_astore_n (lv' := (3, .ref q9) :: [(0, .ref h), (1, .int (iI (z1))), (2, .ref J)]) hx hb dL_leave_12 rfl hl (by decide) rfl (fun ls hl => ?_)
  refine zr_ic (n := ((1 : Nat) : Int)) hx hb dL_leave_13 ?_
  exact W.iret hx hb hr (fun t ht _ => ⟨⟨_, (), rfl, rfl, trivial⟩, hS.F ht⟩) hS.2.2 dL_leave_14 hlocks
set_option maxHeartbeats 4000000 in
set_option maxRecDepth 100000 in
/-- L_without where the class throws -/
theorem f_L_without (l : Launch) (hfl : l.stackTraces = false) (D : va_G) (cI : ClassId) (h B C G GB GW GR TB TC TG TGB TGW TGR FR CH J : Nat) (cJ : ClassId) (n : Nat) (b : Nat → Int) (rc : Int) (bo wo ro fr : Nat → Int) (sh po : Int) (tn : Nat) (tb tbo two tro ch : Nat → Int) (f : Nat → Int64) (z1 : Int) (hn : n ≤ 6) (hb0 : ∀ k, 0 ≤ b k ∧ b k ≤ 999) (hz1 : zB z1) (hbad : ¬ (0 ≤ z1 ∧ z1 < (n : Int))) : zLx l yL_without wsL_without 7 104 D cI cJ [.ref h, .int (iI (z1)), .ref J] (zXW h B C G GB GW GR TB TC TG TGB TGW TGR FR CH J cI cJ n b rc (bo, wo, ro, fr, sh, po, tn, tb, tbo, two, tro, ch, f)) ((1 : Nat) : Int) := by
  refine zLx_of (cc := cL_without) (maxL := 4) (hh := [(0, 9, 12, 19)]) (by decide) rfl (Nat.le_of_ble_eq_true rfl) ?_
  intro p e s m args below meth c ls hF htab hr hlocks hP hK hX hl
  have hF : zFix p m c cL_without 4 s args wsL_without RL := hF
  obtain ⟨hx, hb, hml, hown, hts⟩ := id hF
  have hl : lv_has ls 4 [(0, .ref h), (1, .int (iI (z1))), (2, .ref J)] := hl
  have hP : va_P D vwCl [(h, .inr (2, [.ref B, .ref G, .ref TB, .ref TG, .ref FR, .ref CH, .int (iI (rc)), .int (iI (sh)), .int (iI (po))])), (B, .inr (0, [.ref C, .int (iI ((n : Nat) : Int))])), (C, zArr cI 36 b), (G, .inr (1, [.ref GB, .ref GW, .ref GR])), (GB, zArr cI 64 bo), (GW, zArr cI 64 wo), (GR, zArr cI 6 ro), (TB, .inr (0, [.ref TC, .int (iI ((tn : Nat) : Int))])), (TC, zArr cI 36 tb), (TG, .inr (1, [.ref TGB, .ref TGW, .ref TGR])), (TGB, zArr cI 64 tbo), (TGW, zArr cI 64 two), (TGR, zArr cI 6 tro), (FR, zArr cI 6 fr), (CH, zArr cI 6 ch), (J, .inl (cJ, (1, .inr (.inl f))))] s.heap := hP
  refine lv_aload_n hx hb dL_without_0 rfl (lv_at hl 2 rfl) ?_
  refine zr_ic (n := ((0 : Nat) : Int)) hx hb dL_without_1 ?_
  refine lv_aload_n hx hb dL_without_2 rfl (lv_at hl 0 rfl) ?_
  refine lv_iload_n hx hb dL_without_3 rfl (lv_at hl 1 rfl) ?_
  have hPc : va_P D vwCl [(h, .inr (2, [.ref B, .ref G, .ref TB, .ref TG, .ref FR, .ref CH, .int (iI (rc)), .int (iI (sh)), .int (iI (po))])), (B, .inr (0, [.ref C, .int (iI ((n : Nat) : Int))])), (C, zArr cI 36 b), (G, .inr (1, [.ref GB, .ref GW, .ref GR])), (GB, zArr cI 64 bo), (GW, zArr cI 64 wo), (GR, zArr cI 6 ro), (FR, zArr cI 6 fr)] s.heap := hP.sub [0, 1, 2, 3, 4, 5, 6, 13] rfl
  have hKc : va_K D vwCl [(cI, .int)] s := hK.sub [0] rfl
  refine vx_calli (A0 := fun q => s.heap.size ≤ q) (vx_runV (As := [.int (iI (z1))]) (rest := [.int (iI ((0 : Nat) : Int)), .ref J]) hF (t_X2_without l hfl D cI h B C G GB GW GR TB TG FR CH n b bo wo ro fr rc sh po z1 hn hb0 hz1 hbad s.heap.size) (cwV 1 hts gL_without_X2_without rfl rfl rfl (by decide +kernel) ⟨Nat.le_of_ble_eq_true rfl, Nat.le_of_ble_eq_true rfl⟩) ⟨zXP_blind, va_recv hKc hPc (ci := 2) (q0 := 0) rfl rfl, fun U hU hW => ⟨rfl, by rw [hU], by rw [hU]; exact hPc, va_K.moved hW.alike hKc, zXF_warm hW hU hX.1⟩⟩ rfl rfl hl.1 rfl (lv_room (Nat.le_of_ble_eq_true rfl)) dL_without_4 ⟨Nat.le_of_ble_eq_true rfl, Nat.le_of_ble_eq_true rfl⟩) va_S.rf (fun q _ h => h) (fun q h => h) (fun q _ h => h) (fun E ce q9 u t H1 locs1 ht hvm hpx hBX hz hk hS hcell hv hcl => ?_) (fun r u t H1 locs1 ht hvm hpost _ _ _ _ => hpost.elim)
  have hE : E = zOOB := hBX
  subst hE
  refine vx_catch hown [] ⟨0, 9, 12, 19⟩ [] htab (fun z h => nomatch h) (by decide) (by decide) (hts (.classLink RL 19 zOOB) (by decide +kernel)) (va_Nw.use rfl (hX.1.1.1 zOOB (List.mem_of_getElem? (i := 1) rfl))) hcell hv hcl ?_
  refine lv_astore_n (lv' := (3, .ref q9) :: [(0, .ref h), (1, .int (iI (z1))), (2, .ref J)]) hx hb dL_without_12 rfl hl (by decide) rfl (fun ls hl => ?_)
  refine zr_ic (n := ((1 : Nat) : Int)) hx hb dL_without_13 ?_
  exact W.iret hx hb hr (fun t ht _ => ⟨⟨_, (), rfl, rfl, trivial⟩, hS.F ht⟩) hS.2.2 dL_without_14 hlocks
set_option maxHeartbeats 4000000 in
set_option maxRecDepth 100000 in
/-- L_rent where the class throws -/
theorem f_L_rent (l : Launch) (hfl : l.stackTraces = false) (D : va_G) (cI : ClassId) (h B C G GB GW GR TB TC TG TGB TGW TGR FR CH J : Nat) (cJ : ClassId) (n : Nat) (b : Nat → Int) (rc : Int) (bo wo ro fr : Nat → Int) (sh po : Int) (tn : Nat) (tb tbo two tro ch : Nat → Int) (f : Nat → Int64) (z1 : Int) (hn : n ≤ 6) (hb0 : ∀ k, 0 ≤ b k ∧ b k ≤ 999) (hz1 : zB z1) (hbad : ¬ (0 ≤ z1 ∧ z1 ≤ 5999)) : zLx l yL_rent wsL_rent 7 104 D cI cJ [.ref h, .int (iI (z1)), .ref J] (zXW h B C G GB GW GR TB TC TG TGB TGW TGR FR CH J cI cJ n b rc (bo, wo, ro, fr, sh, po, tn, tb, tbo, two, tro, ch, f)) ((1 : Nat) : Int) := by
  refine zLx_of (cc := cL_rent) (maxL := 4) (hh := [(0, 9, 12, 21)]) (by decide) rfl (Nat.le_of_ble_eq_true rfl) ?_
  intro p e s m args below meth c ls hF htab hr hlocks hP hK hX hl
  have hF : zFix p m c cL_rent 4 s args wsL_rent RL := hF
  obtain ⟨hx, hb, hml, hown, hts⟩ := id hF
  have hl : lv_has ls 4 [(0, .ref h), (1, .int (iI (z1))), (2, .ref J)] := hl
  have hP : va_P D vwCl [(h, .inr (2, [.ref B, .ref G, .ref TB, .ref TG, .ref FR, .ref CH, .int (iI (rc)), .int (iI (sh)), .int (iI (po))])), (B, .inr (0, [.ref C, .int (iI ((n : Nat) : Int))])), (C, zArr cI 36 b), (G, .inr (1, [.ref GB, .ref GW, .ref GR])), (GB, zArr cI 64 bo), (GW, zArr cI 64 wo), (GR, zArr cI 6 ro), (TB, .inr (0, [.ref TC, .int (iI ((tn : Nat) : Int))])), (TC, zArr cI 36 tb), (TG, .inr (1, [.ref TGB, .ref TGW, .ref TGR])), (TGB, zArr cI 64 tbo), (TGW, zArr cI 64 two), (TGR, zArr cI 6 tro), (FR, zArr cI 6 fr), (CH, zArr cI 6 ch), (J, .inl (cJ, (1, .inr (.inl f))))] s.heap := hP
  refine lv_aload_n hx hb dL_rent_0 rfl (lv_at hl 2 rfl) ?_
  refine zr_ic (n := ((0 : Nat) : Int)) hx hb dL_rent_1 ?_
  refine lv_aload_n hx hb dL_rent_2 rfl (lv_at hl 0 rfl) ?_
  refine lv_iload_n hx hb dL_rent_3 rfl (lv_at hl 1 rfl) ?_
  have hPc : va_P D vwCl [(h, .inr (2, [.ref B, .ref G, .ref TB, .ref TG, .ref FR, .ref CH, .int (iI (rc)), .int (iI (sh)), .int (iI (po))])), (B, .inr (0, [.ref C, .int (iI ((n : Nat) : Int))])), (C, zArr cI 36 b), (G, .inr (1, [.ref GB, .ref GW, .ref GR])), (GB, zArr cI 64 bo), (GW, zArr cI 64 wo), (GR, zArr cI 6 ro), (FR, zArr cI 6 fr)] s.heap := hP.sub [0, 1, 2, 3, 4, 5, 6, 13] rfl
  have hKc : va_K D vwCl [(cI, .int)] s := hK.sub [0] rfl
  refine vx_calli (A0 := fun q => s.heap.size ≤ q) (vx_runV (As := [.int (iI (z1))]) (rest := [.int (iI ((0 : Nat) : Int)), .ref J]) hF (t_X2_rent l hfl D cI h B C G GB GW GR TB TG FR CH n b bo wo ro fr rc sh po z1 hn hb0 hz1 hbad s.heap.size) (cwV 1 hts gL_rent_X2_rent rfl rfl rfl (by decide +kernel) ⟨Nat.le_of_ble_eq_true rfl, Nat.le_of_ble_eq_true rfl⟩) ⟨zXP_blind, va_recv hKc hPc (ci := 2) (q0 := 0) rfl rfl, fun U hU hW => ⟨rfl, by rw [hU], by rw [hU]; exact hPc, va_K.moved hW.alike hKc, zXF_warm hW hU hX.1⟩⟩ rfl rfl hl.1 rfl (lv_room (Nat.le_of_ble_eq_true rfl)) dL_rent_4 ⟨Nat.le_of_ble_eq_true rfl, Nat.le_of_ble_eq_true rfl⟩) va_S.rf (fun q _ h => h) (fun q h => h) (fun q _ h => h) (fun E ce q9 u t H1 locs1 ht hvm hpx hBX hz hk hS hcell hv hcl => ?_) (fun r u t H1 locs1 ht hvm hpost _ _ _ _ => hpost.elim)
  have hE : E = zIAE := hBX
  subst hE
  refine vx_catch hown [] ⟨0, 9, 12, 21⟩ [] htab (fun z h => nomatch h) (by decide) (by decide) (hts (.classLink RL 21 zIAE) (by decide +kernel)) (va_Nw.use rfl (hX.1.1.1 zIAE (List.mem_of_getElem? (i := 2) rfl))) hcell hv hcl ?_
  refine lv_astore_n (lv' := (3, .ref q9) :: [(0, .ref h), (1, .int (iI (z1))), (2, .ref J)]) hx hb dL_rent_12 rfl hl (by decide) rfl (fun ls hl => ?_)
  refine zr_ic (n := ((1 : Nat) : Int)) hx hb dL_rent_13 ?_
  exact W.iret hx hb hr (fun t ht _ => ⟨⟨_, (), rfl, rfl, trivial⟩, hS.F ht⟩) hS.2.2 dL_rent_14 hlocks
set_option maxHeartbeats 4000000 in
set_option maxRecDepth 100000 in
/-- L_bid where the class throws -/
theorem f_L_bid (l : Launch) (hfl : l.stackTraces = false) (D : va_G) (cI : ClassId) (h B C G GB GW GR TB TC TG TGB TGW TGR FR CH J : Nat) (cJ : ClassId) (n : Nat) (b : Nat → Int) (rc : Int) (bo wo ro fr : Nat → Int) (sh po : Int) (tn : Nat) (tb tbo two tro ch : Nat → Int) (f : Nat → Int64) (z1 : Int) (z2 : Int) (z3 : Int) (hn : n ≤ 6) (hb0 : ∀ k, 0 ≤ b k ∧ b k ≤ 999) (hz1 : zB z1) (hz2 : zB z2) (hz3 : zB z3) (hbad : ¬ ((0 ≤ z1 ∧ z1 < (n : Int)) ∧ 0 ≤ z2 ∧ z2 < (n : Int))) : zLx l yL_bid wsL_bid 7 106 D cI cJ [.ref h, .int (iI (z1)), .int (iI (z2)), .int (iI (z3)), .ref J] (zXW h B C G GB GW GR TB TC TG TGB TGW TGR FR CH J cI cJ n b rc (bo, wo, ro, fr, sh, po, tn, tb, tbo, two, tro, ch, f)) ((1 : Nat) : Int) := by
  refine zLx_of (cc := cL_bid) (maxL := 6) (hh := [(0, 12, 15, 19), (0, 12, 19, 21)]) (by decide) rfl (Nat.le_of_ble_eq_true rfl) ?_
  intro p e s m args below meth c ls hF htab hr hlocks hP hK hX hl
  have hF : zFix p m c cL_bid 6 s args wsL_bid RL := hF
  obtain ⟨hx, hb, hml, hown, hts⟩ := id hF
  have hl : lv_has ls 6 [(0, .ref h), (1, .int (iI (z1))), (2, .int (iI (z2))), (3, .int (iI (z3))), (4, .ref J)] := hl
  have hP : va_P D vwCl [(h, .inr (2, [.ref B, .ref G, .ref TB, .ref TG, .ref FR, .ref CH, .int (iI (rc)), .int (iI (sh)), .int (iI (po))])), (B, .inr (0, [.ref C, .int (iI ((n : Nat) : Int))])), (C, zArr cI 36 b), (G, .inr (1, [.ref GB, .ref GW, .ref GR])), (GB, zArr cI 64 bo), (GW, zArr cI 64 wo), (GR, zArr cI 6 ro), (TB, .inr (0, [.ref TC, .int (iI ((tn : Nat) : Int))])), (TC, zArr cI 36 tb), (TG, .inr (1, [.ref TGB, .ref TGW, .ref TGR])), (TGB, zArr cI 64 tbo), (TGW, zArr cI 64 two), (TGR, zArr cI 6 tro), (FR, zArr cI 6 fr), (CH, zArr cI 6 ch), (J, .inl (cJ, (1, .inr (.inl f))))] s.heap := hP
  refine lv_aload hx hb dL_bid_0 (lv_at hl 4 rfl) ?_
  refine zr_ic (n := ((0 : Nat) : Int)) hx hb dL_bid_2 ?_
  refine lv_aload_n hx hb dL_bid_3 rfl (lv_at hl 0 rfl) ?_
  refine lv_iload_n hx hb dL_bid_4 rfl (lv_at hl 1 rfl) ?_
  refine lv_iload_n hx hb dL_bid_5 rfl (lv_at hl 2 rfl) ?_
  refine lv_iload_n hx hb dL_bid_6 rfl (lv_at hl 3 rfl) ?_
  have hPc : va_P D vwCl [(h, .inr (2, [.ref B, .ref G, .ref TB, .ref TG, .ref FR, .ref CH, .int (iI (rc)), .int (iI (sh)), .int (iI (po))])), (B, .inr (0, [.ref C, .int (iI ((n : Nat) : Int))])), (C, zArr cI 36 b), (G, .inr (1, [.ref GB, .ref GW, .ref GR])), (GB, zArr cI 64 bo), (GW, zArr cI 64 wo), (GR, zArr cI 6 ro), (FR, zArr cI 6 fr)] s.heap := hP.sub [0, 1, 2, 3, 4, 5, 6, 13] rfl
  have hKc : va_K D vwCl [(cI, .int)] s := hK.sub [0] rfl
  refine vx_calli (A0 := fun q => s.heap.size ≤ q) (vx_runV (As := [.int (iI (z1)), .int (iI (z2)), .int (iI (z3))]) (rest := [.int (iI ((0 : Nat) : Int)), .ref J]) hF (t_X2_bid l hfl D cI h B C G GB GW GR TB TG FR CH n b bo wo ro fr rc sh po z1 z2 z3 hn hb0 hz1 hz2 hz3 hbad s.heap.size) (cwV 3 hts gL_bid_X2_bid rfl rfl rfl (by decide +kernel) ⟨Nat.le_of_ble_eq_true rfl, Nat.le_of_ble_eq_true rfl⟩) ⟨zXP_blind, va_recv hKc hPc (ci := 2) (q0 := 0) rfl rfl, fun U hU hW => ⟨rfl, by rw [hU], by rw [hU]; exact hPc, va_K.moved hW.alike hKc, zXF_warm hW hU hX.1⟩⟩ rfl rfl hl.1 rfl (lv_room (Nat.le_of_ble_eq_true rfl)) dL_bid_7 ⟨Nat.le_of_ble_eq_true rfl, Nat.le_of_ble_eq_true rfl⟩) va_S.rf (fun q _ h => h) (fun q h => h) (fun q _ h => h) (fun E ce q9 u t H1 locs1 ht hvm hpx hBX hz hk hS hcell hv hcl => ?_) (fun r u t H1 locs1 ht hvm hpost _ _ _ _ => hpost.elim)
  have hE : E = zOOB := hBX
  subst hE
  refine vx_catch hown [] ⟨0, 12, 15, 19⟩ [⟨0, 12, 19, 21⟩] htab (fun z h => nomatch h) (by decide) (by decide) (hts (.classLink RL 19 zOOB) (by decide +kernel)) (va_Nw.use rfl (hX.1.1.1 zOOB (List.mem_of_getElem? (i := 1) rfl))) hcell hv hcl ?_
  refine lv_astore (lv' := (5, .ref q9) :: [(0, .ref h), (1, .int (iI (z1))), (2, .int (iI (z2))), (3, .int (iI (z3))), (4, .ref J)]) hx hb dL_bid_15 hl (by decide) rfl (fun ls hl => ?_)
  refine zr_ic (n := ((1 : Nat) : Int)) hx hb dL_bid_17 ?_
  exact W.iret hx hb hr (fun t ht _ => ⟨⟨_, (), rfl, rfl, trivial⟩, hS.F ht⟩) hS.2.2 dL_bid_18 hlocks
set_option maxHeartbeats 4000000 in
set_option maxRecDepth 100000 in
/-- L_bid where the class throws -/
theorem f_L_bid1 (l : Launch) (hfl : l.stackTraces = false) (D : va_G) (cI : ClassId) (h B C G GB GW GR TB TC TG TGB TGW TGR FR CH J : Nat) (cJ : ClassId) (n : Nat) (b : Nat → Int) (rc : Int) (bo wo ro fr : Nat → Int) (sh po : Int) (tn : Nat) (tb tbo two tro ch : Nat → Int) (f : Nat → Int64) (z1 : Int) (z2 : Int) (z3 : Int) (hn : n ≤ 6) (hb0 : ∀ k, 0 ≤ b k ∧ b k ≤ 999) (hz1 : zB z1) (hz2 : zB z2) (hz3 : zB z3) (hgood : (0 ≤ z1 ∧ z1 < (n : Int)) ∧ 0 ≤ z2 ∧ z2 < (n : Int)) (hbad : ¬ (0 ≤ z3 ∧ z3 ≤ 999)) : zLx l yL_bid wsL_bid 7 106 D cI cJ [.ref h, .int (iI (z1)), .int (iI (z2)), .int (iI (z3)), .ref J] (zXW h B C G GB GW GR TB TC TG TGB TGW TGR FR CH J cI cJ n b rc (bo, wo, ro, fr, sh, po, tn, tb, tbo, two, tro, ch, f)) ((2 : Nat) : Int) := by
  refine zLx_of (cc := cL_bid) (maxL := 6) (hh := [(0, 12, 15, 19), (0, 12, 19, 21)]) (by decide) rfl (Nat.le_of_ble_eq_true rfl) ?_
  intro p e s m args below meth c ls hF htab hr hlocks hP hK hX hl
  have hF : zFix p m c cL_bid 6 s args wsL_bid RL := hF
  obtain ⟨hx, hb, hml, hown, hts⟩ := id hF
  have hl : lv_has ls 6 [(0, .ref h), (1, .int (iI (z1))), (2, .int (iI (z2))), (3, .int (iI (z3))), (4, .ref J)] := hl
  have hP : va_P D vwCl [(h, .inr (2, [.ref B, .ref G, .ref TB, .ref TG, .ref FR, .ref CH, .int (iI (rc)), .int (iI (sh)), .int (iI (po))])), (B, .inr (0, [.ref C, .int (iI ((n : Nat) : Int))])), (C, zArr cI 36 b), (G, .inr (1, [.ref GB, .ref GW, .ref GR])), (GB, zArr cI 64 bo), (GW, zArr cI 64 wo), (GR, zArr cI 6 ro), (TB, .inr (0, [.ref TC, .int (iI ((tn : Nat) : Int))])), (TC, zArr cI 36 tb), (TG, .inr (1, [.ref TGB, .ref TGW, .ref TGR])), (TGB, zArr cI 64 tbo), (TGW, zArr cI 64 two), (TGR, zArr cI 6 tro), (FR, zArr cI 6 fr), (CH, zArr cI 6 ch), (J, .inl (cJ, (1, .inr (.inl f))))] s.heap := hP
  refine lv_aload hx hb dL_bid_0 (lv_at hl 4 rfl) ?_
  refine zr_ic (n := ((0 : Nat) : Int)) hx hb dL_bid_2 ?_
  refine lv_aload_n hx hb dL_bid_3 rfl (lv_at hl 0 rfl) ?_
  refine lv_iload_n hx hb dL_bid_4 rfl (lv_at hl 1 rfl) ?_
  refine lv_iload_n hx hb dL_bid_5 rfl (lv_at hl 2 rfl) ?_
  refine lv_iload_n hx hb dL_bid_6 rfl (lv_at hl 3 rfl) ?_
  have hPc : va_P D vwCl [(h, .inr (2, [.ref B, .ref G, .ref TB, .ref TG, .ref FR, .ref CH, .int (iI (rc)), .int (iI (sh)), .int (iI (po))])), (B, .inr (0, [.ref C, .int (iI ((n : Nat) : Int))])), (C, zArr cI 36 b), (G, .inr (1, [.ref GB, .ref GW, .ref GR])), (GB, zArr cI 64 bo), (GW, zArr cI 64 wo), (GR, zArr cI 6 ro), (FR, zArr cI 6 fr)] s.heap := hP.sub [0, 1, 2, 3, 4, 5, 6, 13] rfl
  have hKc : va_K D vwCl [(cI, .int)] s := hK.sub [0] rfl
  refine vx_calli (A0 := fun q => s.heap.size ≤ q) (vx_runV (As := [.int (iI (z1)), .int (iI (z2)), .int (iI (z3))]) (rest := [.int (iI ((0 : Nat) : Int)), .ref J]) hF (t_X2_bid1 l hfl D cI h B C G GB GW GR TB TG FR CH n b bo wo ro fr rc sh po z1 z2 z3 hn hb0 hz1 hz2 hz3 hgood hbad s.heap.size) (cwV 3 hts gL_bid_X2_bid rfl rfl rfl (by decide +kernel) ⟨Nat.le_of_ble_eq_true rfl, Nat.le_of_ble_eq_true rfl⟩) ⟨zXP_blind, va_recv hKc hPc (ci := 2) (q0 := 0) rfl rfl, fun U hU hW => ⟨rfl, by rw [hU], by rw [hU]; exact hPc, va_K.moved hW.alike hKc, zXF_warm hW hU hX.1⟩⟩ rfl rfl hl.1 rfl (lv_room (Nat.le_of_ble_eq_true rfl)) dL_bid_7 ⟨Nat.le_of_ble_eq_true rfl, Nat.le_of_ble_eq_true rfl⟩) va_S.rf (fun q _ h => h) (fun q h => h) (fun q _ h => h) (fun E ce q9 u t H1 locs1 ht hvm hpx hBX hz hk hS hcell hv hcl => ?_) (fun r u t H1 locs1 ht hvm hpost _ _ _ _ => hpost.elim)
  have hE : E = zIAE := hBX
  subst hE
  refine vx_catch hown [⟨0, 12, 15, 19⟩] ⟨0, 12, 19, 21⟩ [] htab (fun z h => by rcases List.mem_singleton.mp h with rfl; exact Or.inr ⟨by decide, zOOB, hts (.classLink RL 19 zOOB) (by decide +kernel), hX.2⟩) (by decide) (by decide) (hts (.classLink RL 21 zIAE) (by decide +kernel)) (va_Nw.use rfl (hX.1.1.1 zIAE (List.mem_of_getElem? (i := 2) rfl))) hcell hv hcl ?_
  refine lv_astore (lv' := (5, .ref q9) :: [(0, .ref h), (1, .int (iI (z1))), (2, .int (iI (z2))), (3, .int (iI (z3))), (4, .ref J)]) hx hb dL_bid_19 hl (by decide) rfl (fun ls hl => ?_)
  refine zr_ic (n := ((2 : Nat) : Int)) hx hb dL_bid_21 ?_
  exact W.iret hx hb hr (fun t ht _ => ⟨⟨_, (), rfl, rfl, trivial⟩, hS.F ht⟩) hS.2.2 dL_bid_22 hlocks
set_option maxHeartbeats 4000000 in
set_option maxRecDepth 100000 in
/-- L_would where the class throws -/
theorem f_L_would (l : Launch) (hfl : l.stackTraces = false) (D : va_G) (cI : ClassId) (h B C G GB GW GR TB TC TG TGB TGW TGR FR CH J : Nat) (cJ : ClassId) (n : Nat) (b : Nat → Int) (rc : Int) (bo wo ro fr : Nat → Int) (sh po : Int) (tn : Nat) (tb tbo two tro ch : Nat → Int) (f : Nat → Int64) (z1 : Int) (z2 : Int) (z3 : Int) (hn : n ≤ 6) (hb0 : ∀ k, 0 ≤ b k ∧ b k ≤ 999) (hz1 : zB z1) (hz2 : zB z2) (hz3 : zB z3) (hbad : ¬ ((0 ≤ z1 ∧ z1 < (n : Int)) ∧ 0 ≤ z2 ∧ z2 < (n : Int))) : zLx l yL_would wsL_would 7 105 D cI cJ [.ref h, .int (iI (z1)), .int (iI (z2)), .int (iI (z3)), .ref J] (zXW h B C G GB GW GR TB TC TG TGB TGW TGR FR CH J cI cJ n b rc (bo, wo, ro, fr, sh, po, tn, tb, tbo, two, tro, ch, f)) ((1 : Nat) : Int) := by
  refine zLx_of (cc := cL_would) (maxL := 6) (hh := [(0, 12, 15, 19), (0, 12, 19, 21)]) (by decide) rfl (Nat.le_of_ble_eq_true rfl) ?_
  intro p e s m args below meth c ls hF htab hr hlocks hP hK hX hl
  have hF : zFix p m c cL_would 6 s args wsL_would RL := hF
  obtain ⟨hx, hb, hml, hown, hts⟩ := id hF
  have hl : lv_has ls 6 [(0, .ref h), (1, .int (iI (z1))), (2, .int (iI (z2))), (3, .int (iI (z3))), (4, .ref J)] := hl
  have hP : va_P D vwCl [(h, .inr (2, [.ref B, .ref G, .ref TB, .ref TG, .ref FR, .ref CH, .int (iI (rc)), .int (iI (sh)), .int (iI (po))])), (B, .inr (0, [.ref C, .int (iI ((n : Nat) : Int))])), (C, zArr cI 36 b), (G, .inr (1, [.ref GB, .ref GW, .ref GR])), (GB, zArr cI 64 bo), (GW, zArr cI 64 wo), (GR, zArr cI 6 ro), (TB, .inr (0, [.ref TC, .int (iI ((tn : Nat) : Int))])), (TC, zArr cI 36 tb), (TG, .inr (1, [.ref TGB, .ref TGW, .ref TGR])), (TGB, zArr cI 64 tbo), (TGW, zArr cI 64 two), (TGR, zArr cI 6 tro), (FR, zArr cI 6 fr), (CH, zArr cI 6 ch), (J, .inl (cJ, (1, .inr (.inl f))))] s.heap := hP
  refine lv_aload hx hb dL_would_0 (lv_at hl 4 rfl) ?_
  refine zr_ic (n := ((0 : Nat) : Int)) hx hb dL_would_2 ?_
  refine lv_aload_n hx hb dL_would_3 rfl (lv_at hl 0 rfl) ?_
  refine lv_iload_n hx hb dL_would_4 rfl (lv_at hl 1 rfl) ?_
  refine lv_iload_n hx hb dL_would_5 rfl (lv_at hl 2 rfl) ?_
  refine lv_iload_n hx hb dL_would_6 rfl (lv_at hl 3 rfl) ?_
  have hPc : va_P D vwCl [(h, .inr (2, [.ref B, .ref G, .ref TB, .ref TG, .ref FR, .ref CH, .int (iI (rc)), .int (iI (sh)), .int (iI (po))])), (B, .inr (0, [.ref C, .int (iI ((n : Nat) : Int))])), (C, zArr cI 36 b), (G, .inr (1, [.ref GB, .ref GW, .ref GR])), (GB, zArr cI 64 bo), (GW, zArr cI 64 wo), (GR, zArr cI 6 ro), (FR, zArr cI 6 fr)] s.heap := hP.sub [0, 1, 2, 3, 4, 5, 6, 13] rfl
  have hKc : va_K D vwCl [(cI, .int)] s := hK.sub [0] rfl
  refine vx_calli (A0 := fun q => s.heap.size ≤ q) (vx_runV (As := [.int (iI (z1)), .int (iI (z2)), .int (iI (z3))]) (rest := [.int (iI ((0 : Nat) : Int)), .ref J]) hF (t_X2_would l hfl D cI h B C G GB GW GR TB TG FR CH n b bo wo ro fr rc sh po z1 z2 z3 hn hb0 hz1 hz2 hz3 hbad s.heap.size) (cwV 3 hts gL_would_X2_would rfl rfl rfl (by decide +kernel) ⟨Nat.le_of_ble_eq_true rfl, Nat.le_of_ble_eq_true rfl⟩) ⟨zXP_blind, va_recv hKc hPc (ci := 2) (q0 := 0) rfl rfl, fun U hU hW => ⟨rfl, by rw [hU], by rw [hU]; exact hPc, va_K.moved hW.alike hKc, zXF_warm hW hU hX.1⟩⟩ rfl rfl hl.1 rfl (lv_room (Nat.le_of_ble_eq_true rfl)) dL_would_7 ⟨Nat.le_of_ble_eq_true rfl, Nat.le_of_ble_eq_true rfl⟩) va_S.rf (fun q _ h => h) (fun q h => h) (fun q _ h => h) (fun E ce q9 u t H1 locs1 ht hvm hpx hBX hz hk hS hcell hv hcl => ?_) (fun r u t H1 locs1 ht hvm hpost _ _ _ _ => hpost.elim)
  have hE : E = zOOB := hBX
  subst hE
  refine vx_catch hown [] ⟨0, 12, 15, 19⟩ [⟨0, 12, 19, 21⟩] htab (fun z h => nomatch h) (by decide) (by decide) (hts (.classLink RL 19 zOOB) (by decide +kernel)) (va_Nw.use rfl (hX.1.1.1 zOOB (List.mem_of_getElem? (i := 1) rfl))) hcell hv hcl ?_
  refine lv_astore (lv' := (5, .ref q9) :: [(0, .ref h), (1, .int (iI (z1))), (2, .int (iI (z2))), (3, .int (iI (z3))), (4, .ref J)]) hx hb dL_would_15 hl (by decide) rfl (fun ls hl => ?_)
  refine zr_ic (n := ((1 : Nat) : Int)) hx hb dL_would_17 ?_
  exact W.iret hx hb hr (fun t ht _ => ⟨⟨_, (), rfl, rfl, trivial⟩, hS.F ht⟩) hS.2.2 dL_would_18 hlocks
set_option maxHeartbeats 4000000 in
set_option maxRecDepth 100000 in
/-- L_would where the class throws -/
theorem f_L_would1 (l : Launch) (hfl : l.stackTraces = false) (D : va_G) (cI : ClassId) (h B C G GB GW GR TB TC TG TGB TGW TGR FR CH J : Nat) (cJ : ClassId) (n : Nat) (b : Nat → Int) (rc : Int) (bo wo ro fr : Nat → Int) (sh po : Int) (tn : Nat) (tb tbo two tro ch : Nat → Int) (f : Nat → Int64) (z1 : Int) (z2 : Int) (z3 : Int) (hn : n ≤ 6) (hb0 : ∀ k, 0 ≤ b k ∧ b k ≤ 999) (hz1 : zB z1) (hz2 : zB z2) (hz3 : zB z3) (hgood : (0 ≤ z1 ∧ z1 < (n : Int)) ∧ 0 ≤ z2 ∧ z2 < (n : Int)) (hbad : ¬ (0 ≤ z3 ∧ z3 ≤ 999)) : zLx l yL_would wsL_would 7 105 D cI cJ [.ref h, .int (iI (z1)), .int (iI (z2)), .int (iI (z3)), .ref J] (zXW h B C G GB GW GR TB TC TG TGB TGW TGR FR CH J cI cJ n b rc (bo, wo, ro, fr, sh, po, tn, tb, tbo, two, tro, ch, f)) ((2 : Nat) : Int) := by
  refine zLx_of (cc := cL_would) (maxL := 6) (hh := [(0, 12, 15, 19), (0, 12, 19, 21)]) (by decide) rfl (Nat.le_of_ble_eq_true rfl) ?_
  intro p e s m args below meth c ls hF htab hr hlocks hP hK hX hl
  have hF : zFix p m c cL_would 6 s args wsL_would RL := hF
  obtain ⟨hx, hb, hml, hown, hts⟩ := id hF
  have hl : lv_has ls 6 [(0, .ref h), (1, .int (iI (z1))), (2, .int (iI (z2))), (3, .int (iI (z3))), (4, .ref J)] := hl
  have hP : va_P D vwCl [(h, .inr (2, [.ref B, .ref G, .ref TB, .ref TG, .ref FR, .ref CH, .int (iI (rc)), .int (iI (sh)), .int (iI (po))])), (B, .inr (0, [.ref C, .int (iI ((n : Nat) : Int))])), (C, zArr cI 36 b), (G, .inr (1, [.ref GB, .ref GW, .ref GR])), (GB, zArr cI 64 bo), (GW, zArr cI 64 wo), (GR, zArr cI 6 ro), (TB, .inr (0, [.ref TC, .int (iI ((tn : Nat) : Int))])), (TC, zArr cI 36 tb), (TG, .inr (1, [.ref TGB, .ref TGW, .ref TGR])), (TGB, zArr cI 64 tbo), (TGW, zArr cI 64 two), (TGR, zArr cI 6 tro), (FR, zArr cI 6 fr), (CH, zArr cI 6 ch), (J, .inl (cJ, (1, .inr (.inl f))))] s.heap := hP
  refine lv_aload hx hb dL_would_0 (lv_at hl 4 rfl) ?_
  refine zr_ic (n := ((0 : Nat) : Int)) hx hb dL_would_2 ?_
  refine lv_aload_n hx hb dL_would_3 rfl (lv_at hl 0 rfl) ?_
  refine lv_iload_n hx hb dL_would_4 rfl (lv_at hl 1 rfl) ?_
  refine lv_iload_n hx hb dL_would_5 rfl (lv_at hl 2 rfl) ?_
  refine lv_iload_n hx hb dL_would_6 rfl (lv_at hl 3 rfl) ?_
  have hPc : va_P D vwCl [(h, .inr (2, [.ref B, .ref G, .ref TB, .ref TG, .ref FR, .ref CH, .int (iI (rc)), .int (iI (sh)), .int (iI (po))])), (B, .inr (0, [.ref C, .int (iI ((n : Nat) : Int))])), (C, zArr cI 36 b), (G, .inr (1, [.ref GB, .ref GW, .ref GR])), (GB, zArr cI 64 bo), (GW, zArr cI 64 wo), (GR, zArr cI 6 ro), (FR, zArr cI 6 fr)] s.heap := hP.sub [0, 1, 2, 3, 4, 5, 6, 13] rfl
  have hKc : va_K D vwCl [(cI, .int)] s := hK.sub [0] rfl
  refine vx_calli (A0 := fun q => s.heap.size ≤ q) (vx_runV (As := [.int (iI (z1)), .int (iI (z2)), .int (iI (z3))]) (rest := [.int (iI ((0 : Nat) : Int)), .ref J]) hF (t_X2_would1 l hfl D cI h B C G GB GW GR TB TG FR CH n b bo wo ro fr rc sh po z1 z2 z3 hn hb0 hz1 hz2 hz3 hgood hbad s.heap.size) (cwV 3 hts gL_would_X2_would rfl rfl rfl (by decide +kernel) ⟨Nat.le_of_ble_eq_true rfl, Nat.le_of_ble_eq_true rfl⟩) ⟨zXP_blind, va_recv hKc hPc (ci := 2) (q0 := 0) rfl rfl, fun U hU hW => ⟨rfl, by rw [hU], by rw [hU]; exact hPc, va_K.moved hW.alike hKc, zXF_warm hW hU hX.1⟩⟩ rfl rfl hl.1 rfl (lv_room (Nat.le_of_ble_eq_true rfl)) dL_would_7 ⟨Nat.le_of_ble_eq_true rfl, Nat.le_of_ble_eq_true rfl⟩) va_S.rf (fun q _ h => h) (fun q h => h) (fun q _ h => h) (fun E ce q9 u t H1 locs1 ht hvm hpx hBX hz hk hS hcell hv hcl => ?_) (fun r u t H1 locs1 ht hvm hpost _ _ _ _ => hpost.elim)
  have hE : E = zIAE := hBX
  subst hE
  refine vx_catch hown [⟨0, 12, 15, 19⟩] ⟨0, 12, 19, 21⟩ [] htab (fun z h => by rcases List.mem_singleton.mp h with rfl; exact Or.inr ⟨by decide, zOOB, hts (.classLink RL 19 zOOB) (by decide +kernel), hX.2⟩) (by decide) (by decide) (hts (.classLink RL 21 zIAE) (by decide +kernel)) (va_Nw.use rfl (hX.1.1.1 zIAE (List.mem_of_getElem? (i := 2) rfl))) hcell hv hcl ?_
  refine lv_astore (lv' := (5, .ref q9) :: [(0, .ref h), (1, .int (iI (z1))), (2, .int (iI (z2))), (3, .int (iI (z3))), (4, .ref J)]) hx hb dL_would_19 hl (by decide) rfl (fun ls hl => ?_)
  refine zr_ic (n := ((2 : Nat) : Int)) hx hb dL_would_21 ?_
  exact W.iret hx hb hr (fun t ht _ => ⟨⟨_, (), rfl, rfl, trivial⟩, hS.F ht⟩) hS.2.2 dL_would_22 hlocks
