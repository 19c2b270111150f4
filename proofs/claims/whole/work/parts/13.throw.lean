/-! what is thrown -/
abbrev zISE : String := "java/lang/IllegalStateException"
abbrev zOOB : String := "java/lang/IndexOutOfBoundsException"
abbrev zIAE : String := "java/lang/IllegalArgumentException"
abbrev zNms : List String := ["java/lang/RuntimeException", "java/lang/Exception"]
def zTxt : List (Nat × String) := [(52, "the house is full"), (69, "no such lodger or room"), (74, "no such bid"), (85, "no such rent"), (90, "no such lodger"), (100, "no such lodger or fact"), (105, "no such count")]
abbrev zXR (fr lo : Nat) : Room := { frames := fr, cells := 1, slots := 6, locals := lo }
/-- what a throw of the class's needs of the machine -/
def zDecl : List String := ["java/lang/RuntimeException", "java/lang/Exception", Bundle.tN]
def zXF (A : Nat → Prop) (U : State) : Prop := ((∀ E ∈ [zISE, zOOB, zIAE], va_Nw (.castable E E) U) ∧ ∀ Y ∈ zDecl, va_Nw (.declares (Bundle.initS Y)) U) ∧ (∀ q ∈ zTxt, ∃ sa, vk_R RX2 q.1 q.2 sa U) ∧ vx_Zq Bundle.tN "UNASSIGNED_STACK" Bundle.steD A U U.heap ∧ vx_Zq Bundle.tN "SUPPRESSED_SENTINEL" Bundle.listD A U U.heap
theorem zXF_same {A : Nat → Prop} {U V : State} (hv : U.vm = V.vm) (hh : U.heap = V.heap) (h : zXF A U) : zXF A V := by
  obtain ⟨h1, h2, h3, h4⟩ := h
  refine ⟨⟨fun E hE => va_Nw.same rfl hv (h1.1 E hE), fun Y hY => va_Nw.same rfl hv (h1.2 Y hY)⟩, fun q hq => ?_, ?_, ?_⟩
  · obtain ⟨sa, h⟩ := h2 q hq
    exact ⟨sa, vk_R.same hv.symm h⟩
  · rw [← hh]; exact vx_Zq.moved (by rw [← hv]; exact Vm.Alike.refl _) h3
  · rw [← hh]; exact vx_Zq.moved (by rw [← hv]; exact Vm.Alike.refl _) h4
def zXP (D : va_G) (cI : ClassId) (ws : va_W) (sz : Nat) : State → Prop := fun U => U.heap.size = sz ∧ va_P D vwCl ws U.heap ∧ va_K D vwCl [(cI, .int)] U ∧ zXF (fun q => sz ≤ q) U
/-- a method that throws E, with nothing written but the new cell -/
def zTh (l : Launch) (y : MethodName) (wds : List Cond) (fr lo : Nat) (D : va_G) (cI : ClassId) (av : List Value) (ws : va_W) (E : String) : Prop := ∀ sz : Nat, vx_Met l y wds (zXR fr lo) (va_Pc av (zXP D cI ws sz)) (va_Qi (S := Unit) (fun _ _ => False) (fun _ _ => True) (fun q => sz ≤ q)) (vx_X (S := Unit) (fun _ => True) (fun E' _ _ => E' = E) (fun q => sz ≤ q)) 1 6 (fun q => sz ≤ q)
theorem zXP_blind {D : va_G} {cI : ClassId} {ws : va_W} {sz : Nat} {av : List Value} : FrameBlind (va_Pc av (zXP D cI ws sz)) := fun a U g mk q => by
  obtain ⟨q0, q1, qP, qK, qX⟩ := q
  exact ⟨q0, q1, qP, va_K.moved (u := U) (U := U.calling g mk a) (Vm.Alike.refl U.vm) qK, zXF_same rfl rfl qX⟩
theorem zTh_of {l : Launch} {y : MethodName} {wds wds' : List Cond} {fr lo : Nat} {D : va_G} {cI : ClassId} {av : List Value} {ws : va_W} {cc : ByteArray} {maxL : Nat} {rt : Option FieldType} {E : String} (hy : plainName y.cls = true) (hw : wds = Cond.code y cc maxL rt :: wds') (hav : (lg_sl av).length ≤ maxL)
    (body : ∀ p e s m args below meth c ls, zFix p m c cc maxL s args wds y.cls → (∀ x ∈ c.exceptionTable.toList, False) → meth.locks = false → va_P D vwCl ws s.heap → va_K D vwCl [(cI, .int)] s → zXF (fun q => s.heap.size ≤ q) s → lv_has ls maxL (lv_args 0 av) →
      W p l e (zXR fr lo) s m args below meth c s.heap [] 0 0 (vx_MQ below (va_Qi (S := Unit) (fun _ _ => False) (fun _ _ => True) (fun q => s.heap.size ≤ q)) (vx_X (S := Unit) (fun _ => True) (fun E' _ _ => E' = E) (fun q => s.heap.size ≤ q)) args s 1 6 (fun q => s.heap.size ≤ q)) (F0 m 0 ls [])) : zTh l y wds fr lo D cI av ws E := by
  intro sz
  refine vx_ofW (cc := cc) (maxL := maxL) (ret := rt) hy hw ?_
  intro p e s m args below meth c s₁ B hml hxt hv
  obtain ⟨rfl, rfl, hP, hK, hX⟩ := hv
  have hl := lv_entry av (n := maxL) hav
  rw [lg_entry_eq]
  exact body p e s m _ below meth c _ ⟨B.exec, B.bytes, hml, findClass_of_methodNamed B.named, atoms_spec (ws := wds) B.pre⟩ hxt B.notSynchronized hP hK hX hl
theorem zNmsFit : ∀ n ∈ zNms, Bundle.fit n = true := by decide +kernel

theorem zISE_fit : Bundle.fit zISE = true := by decide +kernel
theorem zISE_good : ∀ w ∈ Cond.classLink RX2 50 zISE :: Cond.initialized zISE :: vx_atS RX2 54 zISE zNms, vx_ot w = true := by decide +kernel
theorem zISE_rest : ∀ w ∈ (vx_atS RX2 54 zISE zNms).filter (fun w => !goodWord w), w ∈ Cond.castable zISE zISE :: zDecl.map (fun Y => Cond.declares (Bundle.initS Y)) := by decide +kernel
theorem zOOB_fit : Bundle.fit zOOB = true := by decide +kernel
theorem zOOB_good : ∀ w ∈ Cond.classLink RX2 67 zOOB :: Cond.initialized zOOB :: vx_atS RX2 71 zOOB zNms, vx_ot w = true := by decide +kernel
theorem zOOB_rest : ∀ w ∈ (vx_atS RX2 71 zOOB zNms).filter (fun w => !goodWord w), w ∈ Cond.castable zOOB zOOB :: zDecl.map (fun Y => Cond.declares (Bundle.initS Y)) := by decide +kernel
theorem zIAE_fit : Bundle.fit zIAE = true := by decide +kernel
theorem zIAE_good : ∀ w ∈ Cond.classLink RX2 72 zIAE :: Cond.initialized zIAE :: vx_atS RX2 76 zIAE zNms, vx_ot w = true := by decide +kernel
theorem zIAE_rest : ∀ w ∈ (vx_atS RX2 76 zIAE zNms).filter (fun w => !goodWord w), w ∈ Cond.castable zIAE zIAE :: zDecl.map (fun Y => Cond.declares (Bundle.initS Y)) := by decide +kernel
set_option maxHeartbeats 4000000 in
set_option maxRecDepth 100000 in
/-- X2_come throws -/
theorem t_X2_come (l : Launch) (hfl : l.stackTraces = false) (D : va_G) (cI : ClassId) (h B C G GB GW GR TB TG FR CH n : Nat) (b bo wo ro fr : Nat → Int) (rc sh po : Int)  (hn : n ≤ 6) (hb0 : ∀ k, 0 ≤ b k ∧ b k ≤ 999) (hbad : ¬ n < 6) : zTh l yX2_come wsX2_come 6 82 D cI [.ref h] [(h, .inr (2, [.ref B, .ref G, .ref TB, .ref TG, .ref FR, .ref CH, .int (iI (rc)), .int (iI (sh)), .int (iI (po))])), (B, .inr (0, [.ref C, .int (iI ((n : Nat) : Int))])), (C, zArr cI 36 b), (G, .inr (1, [.ref GB, .ref GW, .ref GR])), (GB, zArr cI 64 bo), (GW, zArr cI 64 wo), (GR, zArr cI 6 ro), (FR, zArr cI 6 fr)] zISE := by
  refine zTh_of (cc := cX2_come) (maxL := 1) (rt := (some .int)) (by decide) rfl (Nat.le_of_ble_eq_true rfl) ?_
  intro p e s m args below meth c ls hF hxt hlocks hP hK hX hl
  have hF : zFix p m c cX2_come 1 s args wsX2_come RX2 := hF
  obtain ⟨hx, hb, hml, hown, hts⟩ := id hF
  have hP : va_P D vwCl [(h, .inr (2, [.ref B, .ref G, .ref TB, .ref TG, .ref FR, .ref CH, .int (iI (rc)), .int (iI (sh)), .int (iI (po))])), (B, .inr (0, [.ref C, .int (iI ((n : Nat) : Int))])), (C, zArr cI 36 b), (G, .inr (1, [.ref GB, .ref GW, .ref GR])), (GB, zArr cI 64 bo), (GW, zArr cI 64 wo), (GR, zArr cI 6 ro), (FR, zArr cI 6 fr)] s.heap := hP
  have hl : lv_has ls 1 [(0, .ref h)] := hl
  refine lv_aload_n hx hb dX2_come_0 rfl (lv_at hl 0 rfl) ?_
  refine va_get (D := D) (ci := 2) (v := .ref B) (C := RX2) (T := TX2) (N := 9) hx hb hts (by decide +kernel) hown hK hP 0 rfl rfl 0 (by decide) (hts (.fieldLink RX2 10 "RentHarmony" "bids" "LRentHarmony$Bids;") (by decide +kernel)) (fun _ h9 => h9) rfl dX2_come_1 ?_
  refine zc_ri (As := []) (rest := []) hF (c_X0_size l D cI B C n b ) (cwV 0 hts gX2_come_X0_size rfl rfl rfl (by decide +kernel) ⟨Nat.le_of_ble_eq_true rfl, Nat.le_of_ble_eq_true rfl⟩) hK hP [1, 2] rfl 0 rfl 0 rfl rfl rfl rfl hl.1 rfl (Nat.le_of_ble_eq_true rfl) dX2_come_4 ⟨Nat.zero_le _, Nat.zero_le _⟩ ?_
  refine zr_bi (n := ((6 : Nat) : Int)) hx hb dX2_come_7 rfl ?_
  refine zr_icmp_lt (tgt := 22) hx hb dX2_come_9 (by decide) (zB_of (by omega) (by omega)) (zB_of (by omega) (by omega)) (fun c1 => ?_) (fun c1 => ?_)
  · exact absurd (by omega) hbad
  · obtain ⟨sa, hsa⟩ := hX.2.1 (52, "the house is full") (List.mem_of_getElem? (i := 0) rfl)
    exact vx_throwS hx hb hfl hown (cls := zISE) (names := zNms) zISE_fit zNmsFit (hts (.classLink RX2 50 zISE) (by decide +kernel)) (hts (.initialized zISE) (by decide +kernel)) hsa (vx_hat (fun w hw => hts w (List.mem_cons_of_mem _ (List.mem_append_right _ hw))) zISE_rest (vx_c (va_Nw.use rfl (hX.1.1 zISE (List.mem_of_getElem? (i := 0) rfl))) (fun w hw => by obtain ⟨Y, hY, rfl⟩ := List.mem_map.mp hw; exact va_Nw.use rfl (hX.1.2 Y hY)))) zISE_good hX.2.2.1 hX.2.2.2 va_S.rf (hl.1.trans hml.symm) dX2_come_12 dX2_come_15 dX2_come_16 dX2_come_18 dX2_come_21 (fun x h => (hxt x h).elim) (Nat.le_of_ble_eq_true rfl) (Nat.le_of_ble_eq_true rfl) (Nat.le_of_ble_eq_true rfl) (Nat.le_of_ble_eq_true rfl) hlocks (fun t _ h1 h2 => ⟨(), trivial, rfl, h1, fun q hq _ => h2 q hq⟩) (fun z h => nomatch h) (Nat.le_refl _) (Nat.le_refl _)
set_option maxHeartbeats 4000000 in
set_option maxRecDepth 100000 in
/-- X2_told throws -/
theorem t_X2_told (l : Launch) (hfl : l.stackTraces = false) (D : va_G) (cI : ClassId) (h B C G GB GW GR TB TG FR CH n : Nat) (b bo wo ro fr : Nat → Int) (rc sh po : Int) (z1 z2 : Int) (hn : n ≤ 6) (hb0 : ∀ k, 0 ≤ b k ∧ b k ≤ 999) (hz1 : zB z1) (hz2 : zB z2) (hbad : ¬ ((0 ≤ z1 ∧ z1 < (n : Int)) ∧ 0 ≤ z2 ∧ z2 < 6)) : zTh l yX2_told wsX2_told 6 82 D cI [.ref h, .int (iI (z1)), .int (iI (z2))] [(h, .inr (2, [.ref B, .ref G, .ref TB, .ref TG, .ref FR, .ref CH, .int (iI (rc)), .int (iI (sh)), .int (iI (po))])), (B, .inr (0, [.ref C, .int (iI ((n : Nat) : Int))])), (C, zArr cI 36 b), (G, .inr (1, [.ref GB, .ref GW, .ref GR])), (GB, zArr cI 64 bo), (GW, zArr cI 64 wo), (GR, zArr cI 6 ro), (FR, zArr cI 6 fr)] zOOB := by
  refine zTh_of (cc := cX2_told) (maxL := 3) (rt := (some .int)) (by decide) rfl (Nat.le_of_ble_eq_true rfl) ?_
  intro p e s m args below meth c ls hF hxt hlocks hP hK hX hl
  have hF : zFix p m c cX2_told 3 s args wsX2_told RX2 := hF
  obtain ⟨hx, hb, hml, hown, hts⟩ := id hF
  have hP : va_P D vwCl [(h, .inr (2, [.ref B, .ref G, .ref TB, .ref TG, .ref FR, .ref CH, .int (iI (rc)), .int (iI (sh)), .int (iI (po))])), (B, .inr (0, [.ref C, .int (iI ((n : Nat) : Int))])), (C, zArr cI 36 b), (G, .inr (1, [.ref GB, .ref GW, .ref GR])), (GB, zArr cI 64 bo), (GW, zArr cI 64 wo), (GR, zArr cI 6 ro), (FR, zArr cI 6 fr)] s.heap := hP
  have hl : lv_has ls 3 [(0, .ref h), (1, .int (iI (z1))), (2, .int (iI (z2)))] := hl
  have hz1a := hz1.1
  have hz1b := hz1.2
  have hz2a := hz2.1
  have hz2b := hz2.2
  refine lv_aload_n hx hb dX2_told_0 rfl (lv_at hl 0 rfl) ?_
  refine va_get (D := D) (ci := 2) (v := .ref B) (C := RX2) (T := TX2) (N := 9) hx hb hts (by decide +kernel) hown hK hP 0 rfl rfl 0 (by decide) (hts (.fieldLink RX2 10 "RentHarmony" "bids" "LRentHarmony$Bids;") (by decide +kernel)) (fun _ h9 => h9) rfl dX2_told_1 ?_
  refine lv_iload_n hx hb dX2_told_4 rfl (lv_at hl 1 rfl) ?_
  refine zc_ri (As := [.int (iI (z1))]) (rest := []) hF (c_X0_has l D cI B C n b z1 (by omega) hz1) (cwV 1 hts gX2_told_X0_has rfl rfl rfl (by decide +kernel) ⟨Nat.le_of_ble_eq_true rfl, Nat.le_of_ble_eq_true rfl⟩) hK hP [1, 2] rfl 0 rfl 0 rfl rfl rfl rfl hl.1 rfl (Nat.le_of_ble_eq_true rfl) dX2_told_5 ⟨Nat.zero_le _, Nat.zero_le _⟩ ?_
  refine zr_ifB_eq (tgt := 21) hx hb dX2_told_8 (by decide)  (fun c1 => ?_) (fun c1 => ?_)
  · obtain ⟨sa, hsa⟩ := hX.2.1 (100, "no such lodger or fact") (List.mem_of_getElem? (i := 5) rfl)
    exact vx_throwS hx hb hfl hown (cls := zOOB) (names := zNms) zOOB_fit zNmsFit (hts (.classLink RX2 67 zOOB) (by decide +kernel)) (hts (.initialized zOOB) (by decide +kernel)) hsa (vx_hat (fun w hw => hts w (List.mem_cons_of_mem _ (List.mem_append_right _ hw))) zOOB_rest (vx_c (va_Nw.use rfl (hX.1.1 zOOB (List.mem_of_getElem? (i := 1) rfl))) (fun w hw => by obtain ⟨Y, hY, rfl⟩ := List.mem_map.mp hw; exact va_Nw.use rfl (hX.1.2 Y hY)))) zOOB_good hX.2.2.1 hX.2.2.2 va_S.rf (hl.1.trans hml.symm) dX2_told_21 dX2_told_24 dX2_told_25 dX2_told_27 dX2_told_30 (fun x h => (hxt x h).elim) (Nat.le_of_ble_eq_true rfl) (Nat.le_of_ble_eq_true rfl) (Nat.le_of_ble_eq_true rfl) (Nat.le_of_ble_eq_true rfl) hlocks (fun t _ h1 h2 => ⟨(), trivial, rfl, h1, fun q hq _ => h2 q hq⟩) (fun z h => nomatch h) (Nat.le_refl _) (Nat.le_refl _)
  · refine lv_iload_n hx hb dX2_told_11 rfl (lv_at hl 2 rfl) ?_
    refine zr_if_lt (tgt := 21) hx hb dX2_told_12 (by decide) (zB_of (by omega) (by omega)) (fun c2 => ?_) (fun c2 => ?_)
    · obtain ⟨sa, hsa⟩ := hX.2.1 (100, "no such lodger or fact") (List.mem_of_getElem? (i := 5) rfl)
      exact vx_throwS hx hb hfl hown (cls := zOOB) (names := zNms) zOOB_fit zNmsFit (hts (.classLink RX2 67 zOOB) (by decide +kernel)) (hts (.initialized zOOB) (by decide +kernel)) hsa (vx_hat (fun w hw => hts w (List.mem_cons_of_mem _ (List.mem_append_right _ hw))) zOOB_rest (vx_c (va_Nw.use rfl (hX.1.1 zOOB (List.mem_of_getElem? (i := 1) rfl))) (fun w hw => by obtain ⟨Y, hY, rfl⟩ := List.mem_map.mp hw; exact va_Nw.use rfl (hX.1.2 Y hY)))) zOOB_good hX.2.2.1 hX.2.2.2 va_S.rf (hl.1.trans hml.symm) dX2_told_21 dX2_told_24 dX2_told_25 dX2_told_27 dX2_told_30 (fun x h => (hxt x h).elim) (Nat.le_of_ble_eq_true rfl) (Nat.le_of_ble_eq_true rfl) (Nat.le_of_ble_eq_true rfl) (Nat.le_of_ble_eq_true rfl) hlocks (fun t _ h1 h2 => ⟨(), trivial, rfl, h1, fun q hq _ => h2 q hq⟩) (fun z h => nomatch h) (Nat.le_refl _) (Nat.le_refl _)
    · refine lv_iload_n hx hb dX2_told_15 rfl (lv_at hl 2 rfl) ?_
      refine zr_bi (n := ((6 : Nat) : Int)) hx hb dX2_told_16 rfl ?_
      refine zr_icmp_lt (tgt := 31) hx hb dX2_told_18 (by decide) (zB_of (by omega) (by omega)) (zB_of (by omega) (by omega)) (fun c3 => ?_) (fun c3 => ?_)
      · exact absurd (by omega) hbad
      · obtain ⟨sa, hsa⟩ := hX.2.1 (100, "no such lodger or fact") (List.mem_of_getElem? (i := 5) rfl)
        exact vx_throwS hx hb hfl hown (cls := zOOB) (names := zNms) zOOB_fit zNmsFit (hts (.classLink RX2 67 zOOB) (by decide +kernel)) (hts (.initialized zOOB) (by decide +kernel)) hsa (vx_hat (fun w hw => hts w (List.mem_cons_of_mem _ (List.mem_append_right _ hw))) zOOB_rest (vx_c (va_Nw.use rfl (hX.1.1 zOOB (List.mem_of_getElem? (i := 1) rfl))) (fun w hw => by obtain ⟨Y, hY, rfl⟩ := List.mem_map.mp hw; exact va_Nw.use rfl (hX.1.2 Y hY)))) zOOB_good hX.2.2.1 hX.2.2.2 va_S.rf (hl.1.trans hml.symm) dX2_told_21 dX2_told_24 dX2_told_25 dX2_told_27 dX2_told_30 (fun x h => (hxt x h).elim) (Nat.le_of_ble_eq_true rfl) (Nat.le_of_ble_eq_true rfl) (Nat.le_of_ble_eq_true rfl) (Nat.le_of_ble_eq_true rfl) hlocks (fun t _ h1 h2 => ⟨(), trivial, rfl, h1, fun q hq _ => h2 q hq⟩) (fun z h => nomatch h) (Nat.le_refl _) (Nat.le_refl _)
set_option maxHeartbeats 4000000 in
set_option maxRecDepth 100000 in
/-- X2_count throws -/
theorem t_X2_count (l : Launch) (hfl : l.stackTraces = false) (D : va_G) (cI : ClassId) (h B C G GB GW GR TB TG FR CH n : Nat) (b bo wo ro fr : Nat → Int) (rc sh po : Int) (z1 : Int) (hn : n ≤ 6) (hb0 : ∀ k, 0 ≤ b k ∧ b k ≤ 999) (hz1 : zB z1) (hbad : ¬ (0 ≤ z1 ∧ z1 < 7)) : zTh l yX2_count wsX2_count 6 82 D cI [.ref h, .int (iI (z1))] [(h, .inr (2, [.ref B, .ref G, .ref TB, .ref TG, .ref FR, .ref CH, .int (iI (rc)), .int (iI (sh)), .int (iI (po))])), (B, .inr (0, [.ref C, .int (iI ((n : Nat) : Int))])), (C, zArr cI 36 b), (G, .inr (1, [.ref GB, .ref GW, .ref GR])), (GB, zArr cI 64 bo), (GW, zArr cI 64 wo), (GR, zArr cI 6 ro), (FR, zArr cI 6 fr)] zOOB := by
  refine zTh_of (cc := cX2_count) (maxL := 2) (rt := (some .int)) (by decide) rfl (Nat.le_of_ble_eq_true rfl) ?_
  intro p e s m args below meth c ls hF hxt hlocks hP hK hX hl
  have hF : zFix p m c cX2_count 2 s args wsX2_count RX2 := hF
  obtain ⟨hx, hb, hml, hown, hts⟩ := id hF
  have hP : va_P D vwCl [(h, .inr (2, [.ref B, .ref G, .ref TB, .ref TG, .ref FR, .ref CH, .int (iI (rc)), .int (iI (sh)), .int (iI (po))])), (B, .inr (0, [.ref C, .int (iI ((n : Nat) : Int))])), (C, zArr cI 36 b), (G, .inr (1, [.ref GB, .ref GW, .ref GR])), (GB, zArr cI 64 bo), (GW, zArr cI 64 wo), (GR, zArr cI 6 ro), (FR, zArr cI 6 fr)] s.heap := hP
  have hl : lv_has ls 2 [(0, .ref h), (1, .int (iI (z1)))] := hl
  have hz1a := hz1.1
  have hz1b := hz1.2
  refine lv_iload_n hx hb dX2_count_0 rfl (lv_at hl 1 rfl) ?_
  refine zr_if_lt (tgt := 10) hx hb dX2_count_1 (by decide) (zB_of (by omega) (by omega)) (fun c1 => ?_) (fun c1 => ?_)
  · obtain ⟨sa, hsa⟩ := hX.2.1 (105, "no such count") (List.mem_of_getElem? (i := 6) rfl)
    exact vx_throwS hx hb hfl hown (cls := zOOB) (names := zNms) zOOB_fit zNmsFit (hts (.classLink RX2 67 zOOB) (by decide +kernel)) (hts (.initialized zOOB) (by decide +kernel)) hsa (vx_hat (fun w hw => hts w (List.mem_cons_of_mem _ (List.mem_append_right _ hw))) zOOB_rest (vx_c (va_Nw.use rfl (hX.1.1 zOOB (List.mem_of_getElem? (i := 1) rfl))) (fun w hw => by obtain ⟨Y, hY, rfl⟩ := List.mem_map.mp hw; exact va_Nw.use rfl (hX.1.2 Y hY)))) zOOB_good hX.2.2.1 hX.2.2.2 va_S.rf (hl.1.trans hml.symm) dX2_count_10 dX2_count_13 dX2_count_14 dX2_count_16 dX2_count_19 (fun x h => (hxt x h).elim) (Nat.le_of_ble_eq_true rfl) (Nat.le_of_ble_eq_true rfl) (Nat.le_of_ble_eq_true rfl) (Nat.le_of_ble_eq_true rfl) hlocks (fun t _ h1 h2 => ⟨(), trivial, rfl, h1, fun q hq _ => h2 q hq⟩) (fun z h => nomatch h) (Nat.le_refl _) (Nat.le_refl _)
  · refine lv_iload_n hx hb dX2_count_4 rfl (lv_at hl 1 rfl) ?_
    refine zr_bi (n := ((7 : Nat) : Int)) hx hb dX2_count_5 rfl ?_
    refine zr_icmp_lt (tgt := 20) hx hb dX2_count_7 (by decide) (zB_of (by omega) (by omega)) (zB_of (by omega) (by omega)) (fun c2 => ?_) (fun c2 => ?_)
    · exact absurd (by omega) hbad
    · obtain ⟨sa, hsa⟩ := hX.2.1 (105, "no such count") (List.mem_of_getElem? (i := 6) rfl)
      exact vx_throwS hx hb hfl hown (cls := zOOB) (names := zNms) zOOB_fit zNmsFit (hts (.classLink RX2 67 zOOB) (by decide +kernel)) (hts (.initialized zOOB) (by decide +kernel)) hsa (vx_hat (fun w hw => hts w (List.mem_cons_of_mem _ (List.mem_append_right _ hw))) zOOB_rest (vx_c (va_Nw.use rfl (hX.1.1 zOOB (List.mem_of_getElem? (i := 1) rfl))) (fun w hw => by obtain ⟨Y, hY, rfl⟩ := List.mem_map.mp hw; exact va_Nw.use rfl (hX.1.2 Y hY)))) zOOB_good hX.2.2.1 hX.2.2.2 va_S.rf (hl.1.trans hml.symm) dX2_count_10 dX2_count_13 dX2_count_14 dX2_count_16 dX2_count_19 (fun x h => (hxt x h).elim) (Nat.le_of_ble_eq_true rfl) (Nat.le_of_ble_eq_true rfl) (Nat.le_of_ble_eq_true rfl) (Nat.le_of_ble_eq_true rfl) hlocks (fun t _ h1 h2 => ⟨(), trivial, rfl, h1, fun q hq _ => h2 q hq⟩) (fun z h => nomatch h) (Nat.le_refl _) (Nat.le_refl _)
set_option maxHeartbeats 4000000 in
set_option maxRecDepth 100000 in
/-- X2_offer throws -/
theorem t_X2_offer (l : Launch) (hfl : l.stackTraces = false) (D : va_G) (cI : ClassId) (h B C G GB GW GR TB TG FR CH n : Nat) (b bo wo ro fr : Nat → Int) (rc sh po : Int) (z1 z2 : Int) (hn : n ≤ 6) (hb0 : ∀ k, 0 ≤ b k ∧ b k ≤ 999) (hz1 : zB z1) (hz2 : zB z2) (hbad : ¬ ((0 ≤ z1 ∧ z1 < (n : Int)) ∧ 0 ≤ z2 ∧ z2 < (n : Int))) : zTh l yX2_offer wsX2_offer 6 82 D cI [.ref h, .int (iI (z1)), .int (iI (z2))] [(h, .inr (2, [.ref B, .ref G, .ref TB, .ref TG, .ref FR, .ref CH, .int (iI (rc)), .int (iI (sh)), .int (iI (po))])), (B, .inr (0, [.ref C, .int (iI ((n : Nat) : Int))])), (C, zArr cI 36 b), (G, .inr (1, [.ref GB, .ref GW, .ref GR])), (GB, zArr cI 64 bo), (GW, zArr cI 64 wo), (GR, zArr cI 6 ro), (FR, zArr cI 6 fr)] zOOB := by
  refine zTh_of (cc := cX2_offer) (maxL := 3) (rt := (some .int)) (by decide) rfl (Nat.le_of_ble_eq_true rfl) ?_
  intro p e s m args below meth c ls hF hxt hlocks hP hK hX hl
  have hF : zFix p m c cX2_offer 3 s args wsX2_offer RX2 := hF
  obtain ⟨hx, hb, hml, hown, hts⟩ := id hF
  have hP : va_P D vwCl [(h, .inr (2, [.ref B, .ref G, .ref TB, .ref TG, .ref FR, .ref CH, .int (iI (rc)), .int (iI (sh)), .int (iI (po))])), (B, .inr (0, [.ref C, .int (iI ((n : Nat) : Int))])), (C, zArr cI 36 b), (G, .inr (1, [.ref GB, .ref GW, .ref GR])), (GB, zArr cI 64 bo), (GW, zArr cI 64 wo), (GR, zArr cI 6 ro), (FR, zArr cI 6 fr)] s.heap := hP
  have hl : lv_has ls 3 [(0, .ref h), (1, .int (iI (z1))), (2, .int (iI (z2)))] := hl
  have hz1a := hz1.1
  have hz1b := hz1.2
  have hz2a := hz2.1
  have hz2b := hz2.2
  refine lv_aload_n hx hb dX2_offer_0 rfl (lv_at hl 0 rfl) ?_
  refine va_get (D := D) (ci := 2) (v := .ref B) (C := RX2) (T := TX2) (N := 9) hx hb hts (by decide +kernel) hown hK hP 0 rfl rfl 0 (by decide) (hts (.fieldLink RX2 10 "RentHarmony" "bids" "LRentHarmony$Bids;") (by decide +kernel)) (fun _ h9 => h9) rfl dX2_offer_1 ?_
  refine lv_iload_n hx hb dX2_offer_4 rfl (lv_at hl 1 rfl) ?_
  refine zc_ri (As := [.int (iI (z1))]) (rest := []) hF (c_X0_has l D cI B C n b z1 (by omega) hz1) (cwV 1 hts gX2_offer_X0_has rfl rfl rfl (by decide +kernel) ⟨Nat.le_of_ble_eq_true rfl, Nat.le_of_ble_eq_true rfl⟩) hK hP [1, 2] rfl 0 rfl 0 rfl rfl rfl rfl hl.1 rfl (Nat.le_of_ble_eq_true rfl) dX2_offer_5 ⟨Nat.zero_le _, Nat.zero_le _⟩ ?_
  refine zr_ifB_eq (tgt := 22) hx hb dX2_offer_8 (by decide)  (fun c1 => ?_) (fun c1 => ?_)
  · obtain ⟨sa, hsa⟩ := hX.2.1 (69, "no such lodger or room") (List.mem_of_getElem? (i := 1) rfl)
    exact vx_throwS hx hb hfl hown (cls := zOOB) (names := zNms) zOOB_fit zNmsFit (hts (.classLink RX2 67 zOOB) (by decide +kernel)) (hts (.initialized zOOB) (by decide +kernel)) hsa (vx_hat (fun w hw => hts w (List.mem_cons_of_mem _ (List.mem_append_right _ hw))) zOOB_rest (vx_c (va_Nw.use rfl (hX.1.1 zOOB (List.mem_of_getElem? (i := 1) rfl))) (fun w hw => by obtain ⟨Y, hY, rfl⟩ := List.mem_map.mp hw; exact va_Nw.use rfl (hX.1.2 Y hY)))) zOOB_good hX.2.2.1 hX.2.2.2 va_S.rf (hl.1.trans hml.symm) dX2_offer_22 dX2_offer_25 dX2_offer_26 dX2_offer_28 dX2_offer_31 (fun x h => (hxt x h).elim) (Nat.le_of_ble_eq_true rfl) (Nat.le_of_ble_eq_true rfl) (Nat.le_of_ble_eq_true rfl) (Nat.le_of_ble_eq_true rfl) hlocks (fun t _ h1 h2 => ⟨(), trivial, rfl, h1, fun q hq _ => h2 q hq⟩) (fun z h => nomatch h) (Nat.le_refl _) (Nat.le_refl _)
  · refine lv_aload_n hx hb dX2_offer_11 rfl (lv_at hl 0 rfl) ?_
    refine va_get (D := D) (ci := 2) (v := .ref B) (C := RX2) (T := TX2) (N := 9) hx hb hts (by decide +kernel) hown hK hP 0 rfl rfl 0 (by decide) (hts (.fieldLink RX2 10 "RentHarmony" "bids" "LRentHarmony$Bids;") (by decide +kernel)) (fun _ h9 => h9) rfl dX2_offer_12 ?_
    refine lv_iload_n hx hb dX2_offer_15 rfl (lv_at hl 2 rfl) ?_
    refine zc_ri (As := [.int (iI (z2))]) (rest := []) hF (c_X0_has l D cI B C n b z2 (by omega) hz2) (cwV 1 hts gX2_offer_X0_has rfl rfl rfl (by decide +kernel) ⟨Nat.le_of_ble_eq_true rfl, Nat.le_of_ble_eq_true rfl⟩) hK hP [1, 2] rfl 0 rfl 0 rfl rfl rfl rfl hl.1 rfl (Nat.le_of_ble_eq_true rfl) dX2_offer_16 ⟨Nat.zero_le _, Nat.zero_le _⟩ ?_
    refine zr_ifB_ne (tgt := 32) hx hb dX2_offer_19 (by decide)  (fun c2 => ?_) (fun c2 => ?_)
    · exact absurd (by omega) hbad
    · obtain ⟨sa, hsa⟩ := hX.2.1 (69, "no such lodger or room") (List.mem_of_getElem? (i := 1) rfl)
      exact vx_throwS hx hb hfl hown (cls := zOOB) (names := zNms) zOOB_fit zNmsFit (hts (.classLink RX2 67 zOOB) (by decide +kernel)) (hts (.initialized zOOB) (by decide +kernel)) hsa (vx_hat (fun w hw => hts w (List.mem_cons_of_mem _ (List.mem_append_right _ hw))) zOOB_rest (vx_c (va_Nw.use rfl (hX.1.1 zOOB (List.mem_of_getElem? (i := 1) rfl))) (fun w hw => by obtain ⟨Y, hY, rfl⟩ := List.mem_map.mp hw; exact va_Nw.use rfl (hX.1.2 Y hY)))) zOOB_good hX.2.2.1 hX.2.2.2 va_S.rf (hl.1.trans hml.symm) dX2_offer_22 dX2_offer_25 dX2_offer_26 dX2_offer_28 dX2_offer_31 (fun x h => (hxt x h).elim) (Nat.le_of_ble_eq_true rfl) (Nat.le_of_ble_eq_true rfl) (Nat.le_of_ble_eq_true rfl) (Nat.le_of_ble_eq_true rfl) hlocks (fun t _ h1 h2 => ⟨(), trivial, rfl, h1, fun q hq _ => h2 q hq⟩) (fun z h => nomatch h) (Nat.le_refl _) (Nat.le_refl _)
set_option maxHeartbeats 4000000 in
set_option maxRecDepth 100000 in
/-- X2_envies throws -/
theorem t_X2_envies (l : Launch) (hfl : l.stackTraces = false) (D : va_G) (cI : ClassId) (h B C G GB GW GR TB TG FR CH n : Nat) (b bo wo ro fr : Nat → Int) (rc sh po : Int) (z1 z2 : Int) (hn : n ≤ 6) (hb0 : ∀ k, 0 ≤ b k ∧ b k ≤ 999) (hz1 : zB z1) (hz2 : zB z2) (hbad : ¬ ((0 ≤ z1 ∧ z1 < (n : Int)) ∧ 0 ≤ z2 ∧ z2 < (n : Int))) : zTh l yX2_envies wsX2_envies 6 82 D cI [.ref h, .int (iI (z1)), .int (iI (z2))] [(h, .inr (2, [.ref B, .ref G, .ref TB, .ref TG, .ref FR, .ref CH, .int (iI (rc)), .int (iI (sh)), .int (iI (po))])), (B, .inr (0, [.ref C, .int (iI ((n : Nat) : Int))])), (C, zArr cI 36 b), (G, .inr (1, [.ref GB, .ref GW, .ref GR])), (GB, zArr cI 64 bo), (GW, zArr cI 64 wo), (GR, zArr cI 6 ro), (FR, zArr cI 6 fr)] zOOB := by
  refine zTh_of (cc := cX2_envies) (maxL := 3) (rt := (some .boolean)) (by decide) rfl (Nat.le_of_ble_eq_true rfl) ?_
  intro p e s m args below meth c ls hF hxt hlocks hP hK hX hl
  have hF : zFix p m c cX2_envies 3 s args wsX2_envies RX2 := hF
  obtain ⟨hx, hb, hml, hown, hts⟩ := id hF
  have hP : va_P D vwCl [(h, .inr (2, [.ref B, .ref G, .ref TB, .ref TG, .ref FR, .ref CH, .int (iI (rc)), .int (iI (sh)), .int (iI (po))])), (B, .inr (0, [.ref C, .int (iI ((n : Nat) : Int))])), (C, zArr cI 36 b), (G, .inr (1, [.ref GB, .ref GW, .ref GR])), (GB, zArr cI 64 bo), (GW, zArr cI 64 wo), (GR, zArr cI 6 ro), (FR, zArr cI 6 fr)] s.heap := hP
  have hl : lv_has ls 3 [(0, .ref h), (1, .int (iI (z1))), (2, .int (iI (z2)))] := hl
  have hz1a := hz1.1
  have hz1b := hz1.2
  have hz2a := hz2.1
  have hz2b := hz2.2
  refine lv_aload_n hx hb dX2_envies_0 rfl (lv_at hl 0 rfl) ?_
  refine va_get (D := D) (ci := 2) (v := .ref B) (C := RX2) (T := TX2) (N := 9) hx hb hts (by decide +kernel) hown hK hP 0 rfl rfl 0 (by decide) (hts (.fieldLink RX2 10 "RentHarmony" "bids" "LRentHarmony$Bids;") (by decide +kernel)) (fun _ h9 => h9) rfl dX2_envies_1 ?_
  refine lv_iload_n hx hb dX2_envies_4 rfl (lv_at hl 1 rfl) ?_
  refine zc_ri (As := [.int (iI (z1))]) (rest := []) hF (c_X0_has l D cI B C n b z1 (by omega) hz1) (cwV 1 hts gX2_envies_X0_has rfl rfl rfl (by decide +kernel) ⟨Nat.le_of_ble_eq_true rfl, Nat.le_of_ble_eq_true rfl⟩) hK hP [1, 2] rfl 0 rfl 0 rfl rfl rfl rfl hl.1 rfl (Nat.le_of_ble_eq_true rfl) dX2_envies_5 ⟨Nat.zero_le _, Nat.zero_le _⟩ ?_
  refine zr_ifB_eq (tgt := 22) hx hb dX2_envies_8 (by decide)  (fun c1 => ?_) (fun c1 => ?_)
  · obtain ⟨sa, hsa⟩ := hX.2.1 (90, "no such lodger") (List.mem_of_getElem? (i := 4) rfl)
    exact vx_throwS hx hb hfl hown (cls := zOOB) (names := zNms) zOOB_fit zNmsFit (hts (.classLink RX2 67 zOOB) (by decide +kernel)) (hts (.initialized zOOB) (by decide +kernel)) hsa (vx_hat (fun w hw => hts w (List.mem_cons_of_mem _ (List.mem_append_right _ hw))) zOOB_rest (vx_c (va_Nw.use rfl (hX.1.1 zOOB (List.mem_of_getElem? (i := 1) rfl))) (fun w hw => by obtain ⟨Y, hY, rfl⟩ := List.mem_map.mp hw; exact va_Nw.use rfl (hX.1.2 Y hY)))) zOOB_good hX.2.2.1 hX.2.2.2 va_S.rf (hl.1.trans hml.symm) dX2_envies_22 dX2_envies_25 dX2_envies_26 dX2_envies_28 dX2_envies_31 (fun x h => (hxt x h).elim) (Nat.le_of_ble_eq_true rfl) (Nat.le_of_ble_eq_true rfl) (Nat.le_of_ble_eq_true rfl) (Nat.le_of_ble_eq_true rfl) hlocks (fun t _ h1 h2 => ⟨(), trivial, rfl, h1, fun q hq _ => h2 q hq⟩) (fun z h => nomatch h) (Nat.le_refl _) (Nat.le_refl _)
  · refine lv_aload_n hx hb dX2_envies_11 rfl (lv_at hl 0 rfl) ?_
    refine va_get (D := D) (ci := 2) (v := .ref B) (C := RX2) (T := TX2) (N := 9) hx hb hts (by decide +kernel) hown hK hP 0 rfl rfl 0 (by decide) (hts (.fieldLink RX2 10 "RentHarmony" "bids" "LRentHarmony$Bids;") (by decide +kernel)) (fun _ h9 => h9) rfl dX2_envies_12 ?_
    refine lv_iload_n hx hb dX2_envies_15 rfl (lv_at hl 2 rfl) ?_
    refine zc_ri (As := [.int (iI (z2))]) (rest := []) hF (c_X0_has l D cI B C n b z2 (by omega) hz2) (cwV 1 hts gX2_envies_X0_has rfl rfl rfl (by decide +kernel) ⟨Nat.le_of_ble_eq_true rfl, Nat.le_of_ble_eq_true rfl⟩) hK hP [1, 2] rfl 0 rfl 0 rfl rfl rfl rfl hl.1 rfl (Nat.le_of_ble_eq_true rfl) dX2_envies_16 ⟨Nat.zero_le _, Nat.zero_le _⟩ ?_
    refine zr_ifB_ne (tgt := 32) hx hb dX2_envies_19 (by decide)  (fun c2 => ?_) (fun c2 => ?_)
    · exact absurd (by omega) hbad
    · obtain ⟨sa, hsa⟩ := hX.2.1 (90, "no such lodger") (List.mem_of_getElem? (i := 4) rfl)
      exact vx_throwS hx hb hfl hown (cls := zOOB) (names := zNms) zOOB_fit zNmsFit (hts (.classLink RX2 67 zOOB) (by decide +kernel)) (hts (.initialized zOOB) (by decide +kernel)) hsa (vx_hat (fun w hw => hts w (List.mem_cons_of_mem _ (List.mem_append_right _ hw))) zOOB_rest (vx_c (va_Nw.use rfl (hX.1.1 zOOB (List.mem_of_getElem? (i := 1) rfl))) (fun w hw => by obtain ⟨Y, hY, rfl⟩ := List.mem_map.mp hw; exact va_Nw.use rfl (hX.1.2 Y hY)))) zOOB_good hX.2.2.1 hX.2.2.2 va_S.rf (hl.1.trans hml.symm) dX2_envies_22 dX2_envies_25 dX2_envies_26 dX2_envies_28 dX2_envies_31 (fun x h => (hxt x h).elim) (Nat.le_of_ble_eq_true rfl) (Nat.le_of_ble_eq_true rfl) (Nat.le_of_ble_eq_true rfl) (Nat.le_of_ble_eq_true rfl) hlocks (fun t _ h1 h2 => ⟨(), trivial, rfl, h1, fun q hq _ => h2 q hq⟩) (fun z h => nomatch h) (Nat.le_refl _) (Nat.le_refl _)
set_option maxHeartbeats 4000000 in
set_option maxRecDepth 100000 in
/-- X2_gap throws -/
theorem t_X2_gap (l : Launch) (hfl : l.stackTraces = false) (D : va_G) (cI : ClassId) (h B C G GB GW GR TB TG FR CH n : Nat) (b bo wo ro fr : Nat → Int) (rc sh po : Int) (z1 z2 : Int) (hn : n ≤ 6) (hb0 : ∀ k, 0 ≤ b k ∧ b k ≤ 999) (hz1 : zB z1) (hz2 : zB z2) (hbad : ¬ ((0 ≤ z1 ∧ z1 < (n : Int)) ∧ 0 ≤ z2 ∧ z2 < (n : Int))) : zTh l yX2_gap wsX2_gap 6 82 D cI [.ref h, .int (iI (z1)), .int (iI (z2))] [(h, .inr (2, [.ref B, .ref G, .ref TB, .ref TG, .ref FR, .ref CH, .int (iI (rc)), .int (iI (sh)), .int (iI (po))])), (B, .inr (0, [.ref C, .int (iI ((n : Nat) : Int))])), (C, zArr cI 36 b), (G, .inr (1, [.ref GB, .ref GW, .ref GR])), (GB, zArr cI 64 bo), (GW, zArr cI 64 wo), (GR, zArr cI 6 ro), (FR, zArr cI 6 fr)] zOOB := by
  refine zTh_of (cc := cX2_gap) (maxL := 3) (rt := (some .int)) (by decide) rfl (Nat.le_of_ble_eq_true rfl) ?_
  intro p e s m args below meth c ls hF hxt hlocks hP hK hX hl
  have hF : zFix p m c cX2_gap 3 s args wsX2_gap RX2 := hF
  obtain ⟨hx, hb, hml, hown, hts⟩ := id hF
  have hP : va_P D vwCl [(h, .inr (2, [.ref B, .ref G, .ref TB, .ref TG, .ref FR, .ref CH, .int (iI (rc)), .int (iI (sh)), .int (iI (po))])), (B, .inr (0, [.ref C, .int (iI ((n : Nat) : Int))])), (C, zArr cI 36 b), (G, .inr (1, [.ref GB, .ref GW, .ref GR])), (GB, zArr cI 64 bo), (GW, zArr cI 64 wo), (GR, zArr cI 6 ro), (FR, zArr cI 6 fr)] s.heap := hP
  have hl : lv_has ls 3 [(0, .ref h), (1, .int (iI (z1))), (2, .int (iI (z2)))] := hl
  have hz1a := hz1.1
  have hz1b := hz1.2
  have hz2a := hz2.1
  have hz2b := hz2.2
  refine lv_aload_n hx hb dX2_gap_0 rfl (lv_at hl 0 rfl) ?_
  refine va_get (D := D) (ci := 2) (v := .ref B) (C := RX2) (T := TX2) (N := 9) hx hb hts (by decide +kernel) hown hK hP 0 rfl rfl 0 (by decide) (hts (.fieldLink RX2 10 "RentHarmony" "bids" "LRentHarmony$Bids;") (by decide +kernel)) (fun _ h9 => h9) rfl dX2_gap_1 ?_
  refine lv_iload_n hx hb dX2_gap_4 rfl (lv_at hl 1 rfl) ?_
  refine zc_ri (As := [.int (iI (z1))]) (rest := []) hF (c_X0_has l D cI B C n b z1 (by omega) hz1) (cwV 1 hts gX2_gap_X0_has rfl rfl rfl (by decide +kernel) ⟨Nat.le_of_ble_eq_true rfl, Nat.le_of_ble_eq_true rfl⟩) hK hP [1, 2] rfl 0 rfl 0 rfl rfl rfl rfl hl.1 rfl (Nat.le_of_ble_eq_true rfl) dX2_gap_5 ⟨Nat.zero_le _, Nat.zero_le _⟩ ?_
  refine zr_ifB_eq (tgt := 22) hx hb dX2_gap_8 (by decide)  (fun c1 => ?_) (fun c1 => ?_)
  · obtain ⟨sa, hsa⟩ := hX.2.1 (90, "no such lodger") (List.mem_of_getElem? (i := 4) rfl)
    exact vx_throwS hx hb hfl hown (cls := zOOB) (names := zNms) zOOB_fit zNmsFit (hts (.classLink RX2 67 zOOB) (by decide +kernel)) (hts (.initialized zOOB) (by decide +kernel)) hsa (vx_hat (fun w hw => hts w (List.mem_cons_of_mem _ (List.mem_append_right _ hw))) zOOB_rest (vx_c (va_Nw.use rfl (hX.1.1 zOOB (List.mem_of_getElem? (i := 1) rfl))) (fun w hw => by obtain ⟨Y, hY, rfl⟩ := List.mem_map.mp hw; exact va_Nw.use rfl (hX.1.2 Y hY)))) zOOB_good hX.2.2.1 hX.2.2.2 va_S.rf (hl.1.trans hml.symm) dX2_gap_22 dX2_gap_25 dX2_gap_26 dX2_gap_28 dX2_gap_31 (fun x h => (hxt x h).elim) (Nat.le_of_ble_eq_true rfl) (Nat.le_of_ble_eq_true rfl) (Nat.le_of_ble_eq_true rfl) (Nat.le_of_ble_eq_true rfl) hlocks (fun t _ h1 h2 => ⟨(), trivial, rfl, h1, fun q hq _ => h2 q hq⟩) (fun z h => nomatch h) (Nat.le_refl _) (Nat.le_refl _)
  · refine lv_aload_n hx hb dX2_gap_11 rfl (lv_at hl 0 rfl) ?_
    refine va_get (D := D) (ci := 2) (v := .ref B) (C := RX2) (T := TX2) (N := 9) hx hb hts (by decide +kernel) hown hK hP 0 rfl rfl 0 (by decide) (hts (.fieldLink RX2 10 "RentHarmony" "bids" "LRentHarmony$Bids;") (by decide +kernel)) (fun _ h9 => h9) rfl dX2_gap_12 ?_
    refine lv_iload_n hx hb dX2_gap_15 rfl (lv_at hl 2 rfl) ?_
    refine zc_ri (As := [.int (iI (z2))]) (rest := []) hF (c_X0_has l D cI B C n b z2 (by omega) hz2) (cwV 1 hts gX2_gap_X0_has rfl rfl rfl (by decide +kernel) ⟨Nat.le_of_ble_eq_true rfl, Nat.le_of_ble_eq_true rfl⟩) hK hP [1, 2] rfl 0 rfl 0 rfl rfl rfl rfl hl.1 rfl (Nat.le_of_ble_eq_true rfl) dX2_gap_16 ⟨Nat.zero_le _, Nat.zero_le _⟩ ?_
    refine zr_ifB_ne (tgt := 32) hx hb dX2_gap_19 (by decide)  (fun c2 => ?_) (fun c2 => ?_)
    · exact absurd (by omega) hbad
    · obtain ⟨sa, hsa⟩ := hX.2.1 (90, "no such lodger") (List.mem_of_getElem? (i := 4) rfl)
      exact vx_throwS hx hb hfl hown (cls := zOOB) (names := zNms) zOOB_fit zNmsFit (hts (.classLink RX2 67 zOOB) (by decide +kernel)) (hts (.initialized zOOB) (by decide +kernel)) hsa (vx_hat (fun w hw => hts w (List.mem_cons_of_mem _ (List.mem_append_right _ hw))) zOOB_rest (vx_c (va_Nw.use rfl (hX.1.1 zOOB (List.mem_of_getElem? (i := 1) rfl))) (fun w hw => by obtain ⟨Y, hY, rfl⟩ := List.mem_map.mp hw; exact va_Nw.use rfl (hX.1.2 Y hY)))) zOOB_good hX.2.2.1 hX.2.2.2 va_S.rf (hl.1.trans hml.symm) dX2_gap_22 dX2_gap_25 dX2_gap_26 dX2_gap_28 dX2_gap_31 (fun x h => (hxt x h).elim) (Nat.le_of_ble_eq_true rfl) (Nat.le_of_ble_eq_true rfl) (Nat.le_of_ble_eq_true rfl) (Nat.le_of_ble_eq_true rfl) hlocks (fun t _ h1 h2 => ⟨(), trivial, rfl, h1, fun q hq _ => h2 q hq⟩) (fun z h => nomatch h) (Nat.le_refl _) (Nat.le_refl _)
set_option maxHeartbeats 4000000 in
set_option maxRecDepth 100000 in
/-- X2_needs throws -/
theorem t_X2_needs (l : Launch) (hfl : l.stackTraces = false) (D : va_G) (cI : ClassId) (h B C G GB GW GR TB TG FR CH n : Nat) (b bo wo ro fr : Nat → Int) (rc sh po : Int) (z1 z2 : Int) (hn : n ≤ 6) (hb0 : ∀ k, 0 ≤ b k ∧ b k ≤ 999) (hz1 : zB z1) (hz2 : zB z2) (hbad : ¬ ((0 ≤ z1 ∧ z1 < (n : Int)) ∧ 0 ≤ z2 ∧ z2 < (n : Int))) : zTh l yX2_needs wsX2_needs 6 82 D cI [.ref h, .int (iI (z1)), .int (iI (z2))] [(h, .inr (2, [.ref B, .ref G, .ref TB, .ref TG, .ref FR, .ref CH, .int (iI (rc)), .int (iI (sh)), .int (iI (po))])), (B, .inr (0, [.ref C, .int (iI ((n : Nat) : Int))])), (C, zArr cI 36 b), (G, .inr (1, [.ref GB, .ref GW, .ref GR])), (GB, zArr cI 64 bo), (GW, zArr cI 64 wo), (GR, zArr cI 6 ro), (FR, zArr cI 6 fr)] zOOB := by
  refine zTh_of (cc := cX2_needs) (maxL := 6) (rt := (some .int)) (by decide) rfl (Nat.le_of_ble_eq_true rfl) ?_
  intro p e s m args below meth c ls hF hxt hlocks hP hK hX hl
  have hF : zFix p m c cX2_needs 6 s args wsX2_needs RX2 := hF
  obtain ⟨hx, hb, hml, hown, hts⟩ := id hF
  have hP : va_P D vwCl [(h, .inr (2, [.ref B, .ref G, .ref TB, .ref TG, .ref FR, .ref CH, .int (iI (rc)), .int (iI (sh)), .int (iI (po))])), (B, .inr (0, [.ref C, .int (iI ((n : Nat) : Int))])), (C, zArr cI 36 b), (G, .inr (1, [.ref GB, .ref GW, .ref GR])), (GB, zArr cI 64 bo), (GW, zArr cI 64 wo), (GR, zArr cI 6 ro), (FR, zArr cI 6 fr)] s.heap := hP
  have hl : lv_has ls 6 [(0, .ref h), (1, .int (iI (z1))), (2, .int (iI (z2)))] := hl
  have hz1a := hz1.1
  have hz1b := hz1.2
  have hz2a := hz2.1
  have hz2b := hz2.2
  refine lv_aload_n hx hb dX2_needs_0 rfl (lv_at hl 0 rfl) ?_
  refine va_get (D := D) (ci := 2) (v := .ref B) (C := RX2) (T := TX2) (N := 9) hx hb hts (by decide +kernel) hown hK hP 0 rfl rfl 0 (by decide) (hts (.fieldLink RX2 10 "RentHarmony" "bids" "LRentHarmony$Bids;") (by decide +kernel)) (fun _ h9 => h9) rfl dX2_needs_1 ?_
  refine lv_iload_n hx hb dX2_needs_4 rfl (lv_at hl 1 rfl) ?_
  refine zc_ri (As := [.int (iI (z1))]) (rest := []) hF (c_X0_has l D cI B C n b z1 (by omega) hz1) (cwV 1 hts gX2_needs_X0_has rfl rfl rfl (by decide +kernel) ⟨Nat.le_of_ble_eq_true rfl, Nat.le_of_ble_eq_true rfl⟩) hK hP [1, 2] rfl 0 rfl 0 rfl rfl rfl rfl hl.1 rfl (Nat.le_of_ble_eq_true rfl) dX2_needs_5 ⟨Nat.zero_le _, Nat.zero_le _⟩ ?_
  refine zr_ifB_eq (tgt := 22) hx hb dX2_needs_8 (by decide)  (fun c1 => ?_) (fun c1 => ?_)
  · obtain ⟨sa, hsa⟩ := hX.2.1 (69, "no such lodger or room") (List.mem_of_getElem? (i := 1) rfl)
    exact vx_throwS hx hb hfl hown (cls := zOOB) (names := zNms) zOOB_fit zNmsFit (hts (.classLink RX2 67 zOOB) (by decide +kernel)) (hts (.initialized zOOB) (by decide +kernel)) hsa (vx_hat (fun w hw => hts w (List.mem_cons_of_mem _ (List.mem_append_right _ hw))) zOOB_rest (vx_c (va_Nw.use rfl (hX.1.1 zOOB (List.mem_of_getElem? (i := 1) rfl))) (fun w hw => by obtain ⟨Y, hY, rfl⟩ := List.mem_map.mp hw; exact va_Nw.use rfl (hX.1.2 Y hY)))) zOOB_good hX.2.2.1 hX.2.2.2 va_S.rf (hl.1.trans hml.symm) dX2_needs_22 dX2_needs_25 dX2_needs_26 dX2_needs_28 dX2_needs_31 (fun x h => (hxt x h).elim) (Nat.le_of_ble_eq_true rfl) (Nat.le_of_ble_eq_true rfl) (Nat.le_of_ble_eq_true rfl) (Nat.le_of_ble_eq_true rfl) hlocks (fun t _ h1 h2 => ⟨(), trivial, rfl, h1, fun q hq _ => h2 q hq⟩) (fun z h => nomatch h) (Nat.le_refl _) (Nat.le_refl _)
  · refine lv_aload_n hx hb dX2_needs_11 rfl (lv_at hl 0 rfl) ?_
    refine va_get (D := D) (ci := 2) (v := .ref B) (C := RX2) (T := TX2) (N := 9) hx hb hts (by decide +kernel) hown hK hP 0 rfl rfl 0 (by decide) (hts (.fieldLink RX2 10 "RentHarmony" "bids" "LRentHarmony$Bids;") (by decide +kernel)) (fun _ h9 => h9) rfl dX2_needs_12 ?_
    refine lv_iload_n hx hb dX2_needs_15 rfl (lv_at hl 2 rfl) ?_
    refine zc_ri (As := [.int (iI (z2))]) (rest := []) hF (c_X0_has l D cI B C n b z2 (by omega) hz2) (cwV 1 hts gX2_needs_X0_has rfl rfl rfl (by decide +kernel) ⟨Nat.le_of_ble_eq_true rfl, Nat.le_of_ble_eq_true rfl⟩) hK hP [1, 2] rfl 0 rfl 0 rfl rfl rfl rfl hl.1 rfl (Nat.le_of_ble_eq_true rfl) dX2_needs_16 ⟨Nat.zero_le _, Nat.zero_le _⟩ ?_
    refine zr_ifB_ne (tgt := 32) hx hb dX2_needs_19 (by decide)  (fun c2 => ?_) (fun c2 => ?_)
    · exact absurd (by omega) hbad
    · obtain ⟨sa, hsa⟩ := hX.2.1 (69, "no such lodger or room") (List.mem_of_getElem? (i := 1) rfl)
      exact vx_throwS hx hb hfl hown (cls := zOOB) (names := zNms) zOOB_fit zNmsFit (hts (.classLink RX2 67 zOOB) (by decide +kernel)) (hts (.initialized zOOB) (by decide +kernel)) hsa (vx_hat (fun w hw => hts w (List.mem_cons_of_mem _ (List.mem_append_right _ hw))) zOOB_rest (vx_c (va_Nw.use rfl (hX.1.1 zOOB (List.mem_of_getElem? (i := 1) rfl))) (fun w hw => by obtain ⟨Y, hY, rfl⟩ := List.mem_map.mp hw; exact va_Nw.use rfl (hX.1.2 Y hY)))) zOOB_good hX.2.2.1 hX.2.2.2 va_S.rf (hl.1.trans hml.symm) dX2_needs_22 dX2_needs_25 dX2_needs_26 dX2_needs_28 dX2_needs_31 (fun x h => (hxt x h).elim) (Nat.le_of_ble_eq_true rfl) (Nat.le_of_ble_eq_true rfl) (Nat.le_of_ble_eq_true rfl) (Nat.le_of_ble_eq_true rfl) hlocks (fun t _ h1 h2 => ⟨(), trivial, rfl, h1, fun q hq _ => h2 q hq⟩) (fun z h => nomatch h) (Nat.le_refl _) (Nat.le_refl _)
set_option maxHeartbeats 4000000 in
set_option maxRecDepth 100000 in
/-- X2_leave throws -/
theorem t_X2_leave (l : Launch) (hfl : l.stackTraces = false) (D : va_G) (cI : ClassId) (h B C G GB GW GR TB TG FR CH n : Nat) (b bo wo ro fr : Nat → Int) (rc sh po : Int) (z1 : Int) (hn : n ≤ 6) (hb0 : ∀ k, 0 ≤ b k ∧ b k ≤ 999) (hz1 : zB z1) (hbad : ¬ (0 ≤ z1 ∧ z1 < (n : Int))) : zTh l yX2_leave wsX2_leave 6 82 D cI [.ref h, .int (iI (z1))] [(h, .inr (2, [.ref B, .ref G, .ref TB, .ref TG, .ref FR, .ref CH, .int (iI (rc)), .int (iI (sh)), .int (iI (po))])), (B, .inr (0, [.ref C, .int (iI ((n : Nat) : Int))])), (C, zArr cI 36 b), (G, .inr (1, [.ref GB, .ref GW, .ref GR])), (GB, zArr cI 64 bo), (GW, zArr cI 64 wo), (GR, zArr cI 6 ro), (FR, zArr cI 6 fr)] zOOB := by
  refine zTh_of (cc := cX2_leave) (maxL := 3) (rt := (some .int)) (by decide) rfl (Nat.le_of_ble_eq_true rfl) ?_
  intro p e s m args below meth c ls hF hxt hlocks hP hK hX hl
  have hF : zFix p m c cX2_leave 3 s args wsX2_leave RX2 := hF
  obtain ⟨hx, hb, hml, hown, hts⟩ := id hF
  have hP : va_P D vwCl [(h, .inr (2, [.ref B, .ref G, .ref TB, .ref TG, .ref FR, .ref CH, .int (iI (rc)), .int (iI (sh)), .int (iI (po))])), (B, .inr (0, [.ref C, .int (iI ((n : Nat) : Int))])), (C, zArr cI 36 b), (G, .inr (1, [.ref GB, .ref GW, .ref GR])), (GB, zArr cI 64 bo), (GW, zArr cI 64 wo), (GR, zArr cI 6 ro), (FR, zArr cI 6 fr)] s.heap := hP
  have hl : lv_has ls 3 [(0, .ref h), (1, .int (iI (z1)))] := hl
  have hz1a := hz1.1
  have hz1b := hz1.2
  refine lv_aload_n hx hb dX2_leave_0 rfl (lv_at hl 0 rfl) ?_
  refine va_get (D := D) (ci := 2) (v := .ref B) (C := RX2) (T := TX2) (N := 9) hx hb hts (by decide +kernel) hown hK hP 0 rfl rfl 0 (by decide) (hts (.fieldLink RX2 10 "RentHarmony" "bids" "LRentHarmony$Bids;") (by decide +kernel)) (fun _ h9 => h9) rfl dX2_leave_1 ?_
  refine lv_iload_n hx hb dX2_leave_4 rfl (lv_at hl 1 rfl) ?_
  refine zc_ri (As := [.int (iI (z1))]) (rest := []) hF (c_X0_has l D cI B C n b z1 (by omega) hz1) (cwV 1 hts gX2_leave_X0_has rfl rfl rfl (by decide +kernel) ⟨Nat.le_of_ble_eq_true rfl, Nat.le_of_ble_eq_true rfl⟩) hK hP [1, 2] rfl 0 rfl 0 rfl rfl rfl rfl hl.1 rfl (Nat.le_of_ble_eq_true rfl) dX2_leave_5 ⟨Nat.zero_le _, Nat.zero_le _⟩ ?_
  refine zr_ifB_ne (tgt := 21) hx hb dX2_leave_8 (by decide)  (fun c1 => ?_) (fun c1 => ?_)
  · exact absurd (by omega) hbad
  · obtain ⟨sa, hsa⟩ := hX.2.1 (90, "no such lodger") (List.mem_of_getElem? (i := 4) rfl)
    exact vx_throwS hx hb hfl hown (cls := zOOB) (names := zNms) zOOB_fit zNmsFit (hts (.classLink RX2 67 zOOB) (by decide +kernel)) (hts (.initialized zOOB) (by decide +kernel)) hsa (vx_hat (fun w hw => hts w (List.mem_cons_of_mem _ (List.mem_append_right _ hw))) zOOB_rest (vx_c (va_Nw.use rfl (hX.1.1 zOOB (List.mem_of_getElem? (i := 1) rfl))) (fun w hw => by obtain ⟨Y, hY, rfl⟩ := List.mem_map.mp hw; exact va_Nw.use rfl (hX.1.2 Y hY)))) zOOB_good hX.2.2.1 hX.2.2.2 va_S.rf (hl.1.trans hml.symm) dX2_leave_11 dX2_leave_14 dX2_leave_15 dX2_leave_17 dX2_leave_20 (fun x h => (hxt x h).elim) (Nat.le_of_ble_eq_true rfl) (Nat.le_of_ble_eq_true rfl) (Nat.le_of_ble_eq_true rfl) (Nat.le_of_ble_eq_true rfl) hlocks (fun t _ h1 h2 => ⟨(), trivial, rfl, h1, fun q hq _ => h2 q hq⟩) (fun z h => nomatch h) (Nat.le_refl _) (Nat.le_refl _)
set_option maxHeartbeats 4000000 in
set_option maxRecDepth 100000 in
/-- X2_without throws -/
theorem t_X2_without (l : Launch) (hfl : l.stackTraces = false) (D : va_G) (cI : ClassId) (h B C G GB GW GR TB TG FR CH n : Nat) (b bo wo ro fr : Nat → Int) (rc sh po : Int) (z1 : Int) (hn : n ≤ 6) (hb0 : ∀ k, 0 ≤ b k ∧ b k ≤ 999) (hz1 : zB z1) (hbad : ¬ (0 ≤ z1 ∧ z1 < (n : Int))) : zTh l yX2_without wsX2_without 6 82 D cI [.ref h, .int (iI (z1))] [(h, .inr (2, [.ref B, .ref G, .ref TB, .ref TG, .ref FR, .ref CH, .int (iI (rc)), .int (iI (sh)), .int (iI (po))])), (B, .inr (0, [.ref C, .int (iI ((n : Nat) : Int))])), (C, zArr cI 36 b), (G, .inr (1, [.ref GB, .ref GW, .ref GR])), (GB, zArr cI 64 bo), (GW, zArr cI 64 wo), (GR, zArr cI 6 ro), (FR, zArr cI 6 fr)] zOOB := by
  refine zTh_of (cc := cX2_without) (maxL := 3) (rt := (some .int)) (by decide) rfl (Nat.le_of_ble_eq_true rfl) ?_
  intro p e s m args below meth c ls hF hxt hlocks hP hK hX hl
  have hF : zFix p m c cX2_without 3 s args wsX2_without RX2 := hF
  obtain ⟨hx, hb, hml, hown, hts⟩ := id hF
  have hP : va_P D vwCl [(h, .inr (2, [.ref B, .ref G, .ref TB, .ref TG, .ref FR, .ref CH, .int (iI (rc)), .int (iI (sh)), .int (iI (po))])), (B, .inr (0, [.ref C, .int (iI ((n : Nat) : Int))])), (C, zArr cI 36 b), (G, .inr (1, [.ref GB, .ref GW, .ref GR])), (GB, zArr cI 64 bo), (GW, zArr cI 64 wo), (GR, zArr cI 6 ro), (FR, zArr cI 6 fr)] s.heap := hP
  have hl : lv_has ls 3 [(0, .ref h), (1, .int (iI (z1)))] := hl
  have hz1a := hz1.1
  have hz1b := hz1.2
  refine lv_aload_n hx hb dX2_without_0 rfl (lv_at hl 0 rfl) ?_
  refine va_get (D := D) (ci := 2) (v := .ref B) (C := RX2) (T := TX2) (N := 9) hx hb hts (by decide +kernel) hown hK hP 0 rfl rfl 0 (by decide) (hts (.fieldLink RX2 10 "RentHarmony" "bids" "LRentHarmony$Bids;") (by decide +kernel)) (fun _ h9 => h9) rfl dX2_without_1 ?_
  refine lv_iload_n hx hb dX2_without_4 rfl (lv_at hl 1 rfl) ?_
  refine zc_ri (As := [.int (iI (z1))]) (rest := []) hF (c_X0_has l D cI B C n b z1 (by omega) hz1) (cwV 1 hts gX2_without_X0_has rfl rfl rfl (by decide +kernel) ⟨Nat.le_of_ble_eq_true rfl, Nat.le_of_ble_eq_true rfl⟩) hK hP [1, 2] rfl 0 rfl 0 rfl rfl rfl rfl hl.1 rfl (Nat.le_of_ble_eq_true rfl) dX2_without_5 ⟨Nat.zero_le _, Nat.zero_le _⟩ ?_
  refine zr_ifB_ne (tgt := 21) hx hb dX2_without_8 (by decide)  (fun c1 => ?_) (fun c1 => ?_)
  · exact absurd (by omega) hbad
  · obtain ⟨sa, hsa⟩ := hX.2.1 (90, "no such lodger") (List.mem_of_getElem? (i := 4) rfl)
    exact vx_throwS hx hb hfl hown (cls := zOOB) (names := zNms) zOOB_fit zNmsFit (hts (.classLink RX2 67 zOOB) (by decide +kernel)) (hts (.initialized zOOB) (by decide +kernel)) hsa (vx_hat (fun w hw => hts w (List.mem_cons_of_mem _ (List.mem_append_right _ hw))) zOOB_rest (vx_c (va_Nw.use rfl (hX.1.1 zOOB (List.mem_of_getElem? (i := 1) rfl))) (fun w hw => by obtain ⟨Y, hY, rfl⟩ := List.mem_map.mp hw; exact va_Nw.use rfl (hX.1.2 Y hY)))) zOOB_good hX.2.2.1 hX.2.2.2 va_S.rf (hl.1.trans hml.symm) dX2_without_11 dX2_without_14 dX2_without_15 dX2_without_17 dX2_without_20 (fun x h => (hxt x h).elim) (Nat.le_of_ble_eq_true rfl) (Nat.le_of_ble_eq_true rfl) (Nat.le_of_ble_eq_true rfl) (Nat.le_of_ble_eq_true rfl) hlocks (fun t _ h1 h2 => ⟨(), trivial, rfl, h1, fun q hq _ => h2 q hq⟩) (fun z h => nomatch h) (Nat.le_refl _) (Nat.le_refl _)
set_option maxHeartbeats 4000000 in
set_option maxRecDepth 100000 in
/-- X2_rent throws -/
theorem t_X2_rent (l : Launch) (hfl : l.stackTraces = false) (D : va_G) (cI : ClassId) (h B C G GB GW GR TB TG FR CH n : Nat) (b bo wo ro fr : Nat → Int) (rc sh po : Int) (z1 : Int) (hn : n ≤ 6) (hb0 : ∀ k, 0 ≤ b k ∧ b k ≤ 999) (hz1 : zB z1) (hbad : ¬ (0 ≤ z1 ∧ z1 ≤ 5999)) : zTh l yX2_rent wsX2_rent 6 82 D cI [.ref h, .int (iI (z1))] [(h, .inr (2, [.ref B, .ref G, .ref TB, .ref TG, .ref FR, .ref CH, .int (iI (rc)), .int (iI (sh)), .int (iI (po))])), (B, .inr (0, [.ref C, .int (iI ((n : Nat) : Int))])), (C, zArr cI 36 b), (G, .inr (1, [.ref GB, .ref GW, .ref GR])), (GB, zArr cI 64 bo), (GW, zArr cI 64 wo), (GR, zArr cI 6 ro), (FR, zArr cI 6 fr)] zIAE := by
  refine zTh_of (cc := cX2_rent) (maxL := 3) (rt := (some .int)) (by decide) rfl (Nat.le_of_ble_eq_true rfl) ?_
  intro p e s m args below meth c ls hF hxt hlocks hP hK hX hl
  have hF : zFix p m c cX2_rent 3 s args wsX2_rent RX2 := hF
  obtain ⟨hx, hb, hml, hown, hts⟩ := id hF
  have hP : va_P D vwCl [(h, .inr (2, [.ref B, .ref G, .ref TB, .ref TG, .ref FR, .ref CH, .int (iI (rc)), .int (iI (sh)), .int (iI (po))])), (B, .inr (0, [.ref C, .int (iI ((n : Nat) : Int))])), (C, zArr cI 36 b), (G, .inr (1, [.ref GB, .ref GW, .ref GR])), (GB, zArr cI 64 bo), (GW, zArr cI 64 wo), (GR, zArr cI 6 ro), (FR, zArr cI 6 fr)] s.heap := hP
  have hl : lv_has ls 3 [(0, .ref h), (1, .int (iI (z1)))] := hl
  have hz1a := hz1.1
  have hz1b := hz1.2
  refine lv_iload_n hx hb dX2_rent_0 rfl (lv_at hl 1 rfl) ?_
  refine zr_if_lt (tgt := 11) hx hb dX2_rent_1 (by decide) (zB_of (by omega) (by omega)) (fun c1 => ?_) (fun c1 => ?_)
  · obtain ⟨sa, hsa⟩ := hX.2.1 (85, "no such rent") (List.mem_of_getElem? (i := 3) rfl)
    exact vx_throwS hx hb hfl hown (cls := zIAE) (names := zNms) zIAE_fit zNmsFit (hts (.classLink RX2 72 zIAE) (by decide +kernel)) (hts (.initialized zIAE) (by decide +kernel)) hsa (vx_hat (fun w hw => hts w (List.mem_cons_of_mem _ (List.mem_append_right _ hw))) zIAE_rest (vx_c (va_Nw.use rfl (hX.1.1 zIAE (List.mem_of_getElem? (i := 2) rfl))) (fun w hw => by obtain ⟨Y, hY, rfl⟩ := List.mem_map.mp hw; exact va_Nw.use rfl (hX.1.2 Y hY)))) zIAE_good hX.2.2.1 hX.2.2.2 va_S.rf (hl.1.trans hml.symm) dX2_rent_11 dX2_rent_14 dX2_rent_15 dX2_rent_17 dX2_rent_20 (fun x h => (hxt x h).elim) (Nat.le_of_ble_eq_true rfl) (Nat.le_of_ble_eq_true rfl) (Nat.le_of_ble_eq_true rfl) (Nat.le_of_ble_eq_true rfl) hlocks (fun t _ h1 h2 => ⟨(), trivial, rfl, h1, fun q hq _ => h2 q hq⟩) (fun z h => nomatch h) (Nat.le_refl _) (Nat.le_refl _)
  · refine lv_iload_n hx hb dX2_rent_4 rfl (lv_at hl 1 rfl) ?_
    refine zr_si (n := ((5999 : Nat) : Int)) hx hb dX2_rent_5 rfl ?_
    refine zr_icmp_le (tgt := 21) hx hb dX2_rent_8 (by decide) (zB_of (by omega) (by omega)) (zB_of (by omega) (by omega)) (fun c2 => ?_) (fun c2 => ?_)
    · exact absurd (by omega) hbad
    · obtain ⟨sa, hsa⟩ := hX.2.1 (85, "no such rent") (List.mem_of_getElem? (i := 3) rfl)
      exact vx_throwS hx hb hfl hown (cls := zIAE) (names := zNms) zIAE_fit zNmsFit (hts (.classLink RX2 72 zIAE) (by decide +kernel)) (hts (.initialized zIAE) (by decide +kernel)) hsa (vx_hat (fun w hw => hts w (List.mem_cons_of_mem _ (List.mem_append_right _ hw))) zIAE_rest (vx_c (va_Nw.use rfl (hX.1.1 zIAE (List.mem_of_getElem? (i := 2) rfl))) (fun w hw => by obtain ⟨Y, hY, rfl⟩ := List.mem_map.mp hw; exact va_Nw.use rfl (hX.1.2 Y hY)))) zIAE_good hX.2.2.1 hX.2.2.2 va_S.rf (hl.1.trans hml.symm) dX2_rent_11 dX2_rent_14 dX2_rent_15 dX2_rent_17 dX2_rent_20 (fun x h => (hxt x h).elim) (Nat.le_of_ble_eq_true rfl) (Nat.le_of_ble_eq_true rfl) (Nat.le_of_ble_eq_true rfl) (Nat.le_of_ble_eq_true rfl) hlocks (fun t _ h1 h2 => ⟨(), trivial, rfl, h1, fun q hq _ => h2 q hq⟩) (fun z h => nomatch h) (Nat.le_refl _) (Nat.le_refl _)
set_option maxHeartbeats 4000000 in
set_option maxRecDepth 100000 in
/-- X2_bid throws -/
theorem t_X2_bid (l : Launch) (hfl : l.stackTraces = false) (D : va_G) (cI : ClassId) (h B C G GB GW GR TB TG FR CH n : Nat) (b bo wo ro fr : Nat → Int) (rc sh po : Int) (z1 z2 z3 : Int) (hn : n ≤ 6) (hb0 : ∀ k, 0 ≤ b k ∧ b k ≤ 999) (hz1 : zB z1) (hz2 : zB z2) (hz3 : zB z3) (hbad : ¬ ((0 ≤ z1 ∧ z1 < (n : Int)) ∧ 0 ≤ z2 ∧ z2 < (n : Int))) : zTh l yX2_bid wsX2_bid 6 82 D cI [.ref h, .int (iI (z1)), .int (iI (z2)), .int (iI (z3))] [(h, .inr (2, [.ref B, .ref G, .ref TB, .ref TG, .ref FR, .ref CH, .int (iI (rc)), .int (iI (sh)), .int (iI (po))])), (B, .inr (0, [.ref C, .int (iI ((n : Nat) : Int))])), (C, zArr cI 36 b), (G, .inr (1, [.ref GB, .ref GW, .ref GR])), (GB, zArr cI 64 bo), (GW, zArr cI 64 wo), (GR, zArr cI 6 ro), (FR, zArr cI 6 fr)] zOOB := by
  refine zTh_of (cc := cX2_bid) (maxL := 5) (rt := (some .int)) (by decide) rfl (Nat.le_of_ble_eq_true rfl) ?_
  intro p e s m args below meth c ls hF hxt hlocks hP hK hX hl
  have hF : zFix p m c cX2_bid 5 s args wsX2_bid RX2 := hF
  obtain ⟨hx, hb, hml, hown, hts⟩ := id hF
  have hP : va_P D vwCl [(h, .inr (2, [.ref B, .ref G, .ref TB, .ref TG, .ref FR, .ref CH, .int (iI (rc)), .int (iI (sh)), .int (iI (po))])), (B, .inr (0, [.ref C, .int (iI ((n : Nat) : Int))])), (C, zArr cI 36 b), (G, .inr (1, [.ref GB, .ref GW, .ref GR])), (GB, zArr cI 64 bo), (GW, zArr cI 64 wo), (GR, zArr cI 6 ro), (FR, zArr cI 6 fr)] s.heap := hP
  have hl : lv_has ls 5 [(0, .ref h), (1, .int (iI (z1))), (2, .int (iI (z2))), (3, .int (iI (z3)))] := hl
  have hz1a := hz1.1
  have hz1b := hz1.2
  have hz2a := hz2.1
  have hz2b := hz2.2
  have hz3a := hz3.1
  have hz3b := hz3.2
  refine lv_aload_n hx hb dX2_bid_0 rfl (lv_at hl 0 rfl) ?_
  refine va_get (D := D) (ci := 2) (v := .ref B) (C := RX2) (T := TX2) (N := 9) hx hb hts (by decide +kernel) hown hK hP 0 rfl rfl 0 (by decide) (hts (.fieldLink RX2 10 "RentHarmony" "bids" "LRentHarmony$Bids;") (by decide +kernel)) (fun _ h9 => h9) rfl dX2_bid_1 ?_
  refine lv_iload_n hx hb dX2_bid_4 rfl (lv_at hl 1 rfl) ?_
  refine zc_ri (As := [.int (iI (z1))]) (rest := []) hF (c_X0_has l D cI B C n b z1 (by omega) hz1) (cwV 1 hts gX2_bid_X0_has rfl rfl rfl (by decide +kernel) ⟨Nat.le_of_ble_eq_true rfl, Nat.le_of_ble_eq_true rfl⟩) hK hP [1, 2] rfl 0 rfl 0 rfl rfl rfl rfl hl.1 rfl (Nat.le_of_ble_eq_true rfl) dX2_bid_5 ⟨Nat.zero_le _, Nat.zero_le _⟩ ?_
  refine zr_ifB_eq (tgt := 22) hx hb dX2_bid_8 (by decide)  (fun c1 => ?_) (fun c1 => ?_)
  · obtain ⟨sa, hsa⟩ := hX.2.1 (69, "no such lodger or room") (List.mem_of_getElem? (i := 1) rfl)
    exact vx_throwS hx hb hfl hown (cls := zOOB) (names := zNms) zOOB_fit zNmsFit (hts (.classLink RX2 67 zOOB) (by decide +kernel)) (hts (.initialized zOOB) (by decide +kernel)) hsa (vx_hat (fun w hw => hts w (List.mem_cons_of_mem _ (List.mem_append_left _ (List.mem_append_right _ hw)))) zOOB_rest (vx_c (va_Nw.use rfl (hX.1.1 zOOB (List.mem_of_getElem? (i := 1) rfl))) (fun w hw => by obtain ⟨Y, hY, rfl⟩ := List.mem_map.mp hw; exact va_Nw.use rfl (hX.1.2 Y hY)))) zOOB_good hX.2.2.1 hX.2.2.2 va_S.rf (hl.1.trans hml.symm) dX2_bid_22 dX2_bid_25 dX2_bid_26 dX2_bid_28 dX2_bid_31 (fun x h => (hxt x h).elim) (Nat.le_of_ble_eq_true rfl) (Nat.le_of_ble_eq_true rfl) (Nat.le_of_ble_eq_true rfl) (Nat.le_of_ble_eq_true rfl) hlocks (fun t _ h1 h2 => ⟨(), trivial, rfl, h1, fun q hq _ => h2 q hq⟩) (fun z h => nomatch h) (Nat.le_refl _) (Nat.le_refl _)
  · refine lv_aload_n hx hb dX2_bid_11 rfl (lv_at hl 0 rfl) ?_
    refine va_get (D := D) (ci := 2) (v := .ref B) (C := RX2) (T := TX2) (N := 9) hx hb hts (by decide +kernel) hown hK hP 0 rfl rfl 0 (by decide) (hts (.fieldLink RX2 10 "RentHarmony" "bids" "LRentHarmony$Bids;") (by decide +kernel)) (fun _ h9 => h9) rfl dX2_bid_12 ?_
    refine lv_iload_n hx hb dX2_bid_15 rfl (lv_at hl 2 rfl) ?_
    refine zc_ri (As := [.int (iI (z2))]) (rest := []) hF (c_X0_has l D cI B C n b z2 (by omega) hz2) (cwV 1 hts gX2_bid_X0_has rfl rfl rfl (by decide +kernel) ⟨Nat.le_of_ble_eq_true rfl, Nat.le_of_ble_eq_true rfl⟩) hK hP [1, 2] rfl 0 rfl 0 rfl rfl rfl rfl hl.1 rfl (Nat.le_of_ble_eq_true rfl) dX2_bid_16 ⟨Nat.zero_le _, Nat.zero_le _⟩ ?_
    refine zr_ifB_ne (tgt := 32) hx hb dX2_bid_19 (by decide)  (fun c2 => ?_) (fun c2 => ?_)
    · exact absurd (by omega) hbad
    · obtain ⟨sa, hsa⟩ := hX.2.1 (69, "no such lodger or room") (List.mem_of_getElem? (i := 1) rfl)
      exact vx_throwS hx hb hfl hown (cls := zOOB) (names := zNms) zOOB_fit zNmsFit (hts (.classLink RX2 67 zOOB) (by decide +kernel)) (hts (.initialized zOOB) (by decide +kernel)) hsa (vx_hat (fun w hw => hts w (List.mem_cons_of_mem _ (List.mem_append_left _ (List.mem_append_right _ hw)))) zOOB_rest (vx_c (va_Nw.use rfl (hX.1.1 zOOB (List.mem_of_getElem? (i := 1) rfl))) (fun w hw => by obtain ⟨Y, hY, rfl⟩ := List.mem_map.mp hw; exact va_Nw.use rfl (hX.1.2 Y hY)))) zOOB_good hX.2.2.1 hX.2.2.2 va_S.rf (hl.1.trans hml.symm) dX2_bid_22 dX2_bid_25 dX2_bid_26 dX2_bid_28 dX2_bid_31 (fun x h => (hxt x h).elim) (Nat.le_of_ble_eq_true rfl) (Nat.le_of_ble_eq_true rfl) (Nat.le_of_ble_eq_true rfl) (Nat.le_of_ble_eq_true rfl) hlocks (fun t _ h1 h2 => ⟨(), trivial, rfl, h1, fun q hq _ => h2 q hq⟩) (fun z h => nomatch h) (Nat.le_refl _) (Nat.le_refl _)
set_option maxHeartbeats 4000000 in
set_option maxRecDepth 100000 in
/-- X2_bid throws -/
theorem t_X2_bid1 (l : Launch) (hfl : l.stackTraces = false) (D : va_G) (cI : ClassId) (h B C G GB GW GR TB TG FR CH n : Nat) (b bo wo ro fr : Nat → Int) (rc sh po : Int) (z1 z2 z3 : Int) (hn : n ≤ 6) (hb0 : ∀ k, 0 ≤ b k ∧ b k ≤ 999) (hz1 : zB z1) (hz2 : zB z2) (hz3 : zB z3) (hgood : (0 ≤ z1 ∧ z1 < (n : Int)) ∧ 0 ≤ z2 ∧ z2 < (n : Int)) (hbad : ¬ (0 ≤ z3 ∧ z3 ≤ 999)) : zTh l yX2_bid wsX2_bid 6 82 D cI [.ref h, .int (iI (z1)), .int (iI (z2)), .int (iI (z3))] [(h, .inr (2, [.ref B, .ref G, .ref TB, .ref TG, .ref FR, .ref CH, .int (iI (rc)), .int (iI (sh)), .int (iI (po))])), (B, .inr (0, [.ref C, .int (iI ((n : Nat) : Int))])), (C, zArr cI 36 b), (G, .inr (1, [.ref GB, .ref GW, .ref GR])), (GB, zArr cI 64 bo), (GW, zArr cI 64 wo), (GR, zArr cI 6 ro), (FR, zArr cI 6 fr)] zIAE := by
  refine zTh_of (cc := cX2_bid) (maxL := 5) (rt := (some .int)) (by decide) rfl (Nat.le_of_ble_eq_true rfl) ?_
  intro p e s m args below meth c ls hF hxt hlocks hP hK hX hl
  have hF : zFix p m c cX2_bid 5 s args wsX2_bid RX2 := hF
  obtain ⟨hx, hb, hml, hown, hts⟩ := id hF
  have hP : va_P D vwCl [(h, .inr (2, [.ref B, .ref G, .ref TB, .ref TG, .ref FR, .ref CH, .int (iI (rc)), .int (iI (sh)), .int (iI (po))])), (B, .inr (0, [.ref C, .int (iI ((n : Nat) : Int))])), (C, zArr cI 36 b), (G, .inr (1, [.ref GB, .ref GW, .ref GR])), (GB, zArr cI 64 bo), (GW, zArr cI 64 wo), (GR, zArr cI 6 ro), (FR, zArr cI 6 fr)] s.heap := hP
  have hl : lv_has ls 5 [(0, .ref h), (1, .int (iI (z1))), (2, .int (iI (z2))), (3, .int (iI (z3)))] := hl
  have hz1a := hz1.1
  have hz1b := hz1.2
  have hz2a := hz2.1
  have hz2b := hz2.2
  have hz3a := hz3.1
  have hz3b := hz3.2
  refine lv_aload_n hx hb dX2_bid_0 rfl (lv_at hl 0 rfl) ?_
  refine va_get (D := D) (ci := 2) (v := .ref B) (C := RX2) (T := TX2) (N := 9) hx hb hts (by decide +kernel) hown hK hP 0 rfl rfl 0 (by decide) (hts (.fieldLink RX2 10 "RentHarmony" "bids" "LRentHarmony$Bids;") (by decide +kernel)) (fun _ h9 => h9) rfl dX2_bid_1 ?_
  refine lv_iload_n hx hb dX2_bid_4 rfl (lv_at hl 1 rfl) ?_
  refine zc_ri (As := [.int (iI (z1))]) (rest := []) hF (c_X0_has l D cI B C n b z1 (by omega) hz1) (cwV 1 hts gX2_bid_X0_has rfl rfl rfl (by decide +kernel) ⟨Nat.le_of_ble_eq_true rfl, Nat.le_of_ble_eq_true rfl⟩) hK hP [1, 2] rfl 0 rfl 0 rfl rfl rfl rfl hl.1 rfl (Nat.le_of_ble_eq_true rfl) dX2_bid_5 ⟨Nat.zero_le _, Nat.zero_le _⟩ ?_
  refine zr_ifB_eq (tgt := 22) hx hb dX2_bid_8 (by decide)  (fun c1 => ?_) (fun c1 => ?_)
  · exact absurd hgood (by omega)
  · refine lv_aload_n hx hb dX2_bid_11 rfl (lv_at hl 0 rfl) ?_
    refine va_get (D := D) (ci := 2) (v := .ref B) (C := RX2) (T := TX2) (N := 9) hx hb hts (by decide +kernel) hown hK hP 0 rfl rfl 0 (by decide) (hts (.fieldLink RX2 10 "RentHarmony" "bids" "LRentHarmony$Bids;") (by decide +kernel)) (fun _ h9 => h9) rfl dX2_bid_12 ?_
    refine lv_iload_n hx hb dX2_bid_15 rfl (lv_at hl 2 rfl) ?_
    refine zc_ri (As := [.int (iI (z2))]) (rest := []) hF (c_X0_has l D cI B C n b z2 (by omega) hz2) (cwV 1 hts gX2_bid_X0_has rfl rfl rfl (by decide +kernel) ⟨Nat.le_of_ble_eq_true rfl, Nat.le_of_ble_eq_true rfl⟩) hK hP [1, 2] rfl 0 rfl 0 rfl rfl rfl rfl hl.1 rfl (Nat.le_of_ble_eq_true rfl) dX2_bid_16 ⟨Nat.zero_le _, Nat.zero_le _⟩ ?_
    refine zr_ifB_ne (tgt := 32) hx hb dX2_bid_19 (by decide)  (fun c2 => ?_) (fun c2 => ?_)
    · refine lv_iload_n hx hb dX2_bid_32 rfl (lv_at hl 3 rfl) ?_
      refine zr_if_lt (tgt := 43) hx hb dX2_bid_33 (by decide) (zB_of (by omega) (by omega)) (fun c3 => ?_) (fun c3 => ?_)
      · obtain ⟨sa, hsa⟩ := hX.2.1 (74, "no such bid") (List.mem_of_getElem? (i := 2) rfl)
        exact vx_throwS hx hb hfl hown (cls := zIAE) (names := zNms) zIAE_fit zNmsFit (hts (.classLink RX2 72 zIAE) (by decide +kernel)) (hts (.initialized zIAE) (by decide +kernel)) hsa (vx_hat (fun w hw => hts w (List.mem_cons_of_mem _ (List.mem_append_right _ hw))) zIAE_rest (vx_c (va_Nw.use rfl (hX.1.1 zIAE (List.mem_of_getElem? (i := 2) rfl))) (fun w hw => by obtain ⟨Y, hY, rfl⟩ := List.mem_map.mp hw; exact va_Nw.use rfl (hX.1.2 Y hY)))) zIAE_good hX.2.2.1 hX.2.2.2 va_S.rf (hl.1.trans hml.symm) dX2_bid_43 dX2_bid_46 dX2_bid_47 dX2_bid_49 dX2_bid_52 (fun x h => (hxt x h).elim) (Nat.le_of_ble_eq_true rfl) (Nat.le_of_ble_eq_true rfl) (Nat.le_of_ble_eq_true rfl) (Nat.le_of_ble_eq_true rfl) hlocks (fun t _ h1 h2 => ⟨(), trivial, rfl, h1, fun q hq _ => h2 q hq⟩) (fun z h => nomatch h) (Nat.le_refl _) (Nat.le_refl _)
      · refine lv_iload_n hx hb dX2_bid_36 rfl (lv_at hl 3 rfl) ?_
        refine zr_si (n := ((999 : Nat) : Int)) hx hb dX2_bid_37 rfl ?_
        refine zr_icmp_le (tgt := 53) hx hb dX2_bid_40 (by decide) (zB_of (by omega) (by omega)) (zB_of (by omega) (by omega)) (fun c4 => ?_) (fun c4 => ?_)
        · exact absurd (by omega) hbad
        · obtain ⟨sa, hsa⟩ := hX.2.1 (74, "no such bid") (List.mem_of_getElem? (i := 2) rfl)
          exact vx_throwS hx hb hfl hown (cls := zIAE) (names := zNms) zIAE_fit zNmsFit (hts (.classLink RX2 72 zIAE) (by decide +kernel)) (hts (.initialized zIAE) (by decide +kernel)) hsa (vx_hat (fun w hw => hts w (List.mem_cons_of_mem _ (List.mem_append_right _ hw))) zIAE_rest (vx_c (va_Nw.use rfl (hX.1.1 zIAE (List.mem_of_getElem? (i := 2) rfl))) (fun w hw => by obtain ⟨Y, hY, rfl⟩ := List.mem_map.mp hw; exact va_Nw.use rfl (hX.1.2 Y hY)))) zIAE_good hX.2.2.1 hX.2.2.2 va_S.rf (hl.1.trans hml.symm) dX2_bid_43 dX2_bid_46 dX2_bid_47 dX2_bid_49 dX2_bid_52 (fun x h => (hxt x h).elim) (Nat.le_of_ble_eq_true rfl) (Nat.le_of_ble_eq_true rfl) (Nat.le_of_ble_eq_true rfl) (Nat.le_of_ble_eq_true rfl) hlocks (fun t _ h1 h2 => ⟨(), trivial, rfl, h1, fun q hq _ => h2 q hq⟩) (fun z h => nomatch h) (Nat.le_refl _) (Nat.le_refl _)
    · exact absurd hgood (by omega)
set_option maxHeartbeats 4000000 in
set_option maxRecDepth 100000 in
/-- X2_would throws -/
theorem t_X2_would (l : Launch) (hfl : l.stackTraces = false) (D : va_G) (cI : ClassId) (h B C G GB GW GR TB TG FR CH n : Nat) (b bo wo ro fr : Nat → Int) (rc sh po : Int) (z1 z2 z3 : Int) (hn : n ≤ 6) (hb0 : ∀ k, 0 ≤ b k ∧ b k ≤ 999) (hz1 : zB z1) (hz2 : zB z2) (hz3 : zB z3) (hbad : ¬ ((0 ≤ z1 ∧ z1 < (n : Int)) ∧ 0 ≤ z2 ∧ z2 < (n : Int))) : zTh l yX2_would wsX2_would 6 82 D cI [.ref h, .int (iI (z1)), .int (iI (z2)), .int (iI (z3))] [(h, .inr (2, [.ref B, .ref G, .ref TB, .ref TG, .ref FR, .ref CH, .int (iI (rc)), .int (iI (sh)), .int (iI (po))])), (B, .inr (0, [.ref C, .int (iI ((n : Nat) : Int))])), (C, zArr cI 36 b), (G, .inr (1, [.ref GB, .ref GW, .ref GR])), (GB, zArr cI 64 bo), (GW, zArr cI 64 wo), (GR, zArr cI 6 ro), (FR, zArr cI 6 fr)] zOOB := by
  refine zTh_of (cc := cX2_would) (maxL := 4) (rt := (some .int)) (by decide) rfl (Nat.le_of_ble_eq_true rfl) ?_
  intro p e s m args below meth c ls hF hxt hlocks hP hK hX hl
  have hF : zFix p m c cX2_would 4 s args wsX2_would RX2 := hF
  obtain ⟨hx, hb, hml, hown, hts⟩ := id hF
  have hP : va_P D vwCl [(h, .inr (2, [.ref B, .ref G, .ref TB, .ref TG, .ref FR, .ref CH, .int (iI (rc)), .int (iI (sh)), .int (iI (po))])), (B, .inr (0, [.ref C, .int (iI ((n : Nat) : Int))])), (C, zArr cI 36 b), (G, .inr (1, [.ref GB, .ref GW, .ref GR])), (GB, zArr cI 64 bo), (GW, zArr cI 64 wo), (GR, zArr cI 6 ro), (FR, zArr cI 6 fr)] s.heap := hP
  have hl : lv_has ls 4 [(0, .ref h), (1, .int (iI (z1))), (2, .int (iI (z2))), (3, .int (iI (z3)))] := hl
  have hz1a := hz1.1
  have hz1b := hz1.2
  have hz2a := hz2.1
  have hz2b := hz2.2
  have hz3a := hz3.1
  have hz3b := hz3.2
  refine lv_aload_n hx hb dX2_would_0 rfl (lv_at hl 0 rfl) ?_
  refine va_get (D := D) (ci := 2) (v := .ref B) (C := RX2) (T := TX2) (N := 9) hx hb hts (by decide +kernel) hown hK hP 0 rfl rfl 0 (by decide) (hts (.fieldLink RX2 10 "RentHarmony" "bids" "LRentHarmony$Bids;") (by decide +kernel)) (fun _ h9 => h9) rfl dX2_would_1 ?_
  refine lv_iload_n hx hb dX2_would_4 rfl (lv_at hl 1 rfl) ?_
  refine zc_ri (As := [.int (iI (z1))]) (rest := []) hF (c_X0_has l D cI B C n b z1 (by omega) hz1) (cwV 1 hts gX2_would_X0_has rfl rfl rfl (by decide +kernel) ⟨Nat.le_of_ble_eq_true rfl, Nat.le_of_ble_eq_true rfl⟩) hK hP [1, 2] rfl 0 rfl 0 rfl rfl rfl rfl hl.1 rfl (Nat.le_of_ble_eq_true rfl) dX2_would_5 ⟨Nat.zero_le _, Nat.zero_le _⟩ ?_
  refine zr_ifB_eq (tgt := 22) hx hb dX2_would_8 (by decide)  (fun c1 => ?_) (fun c1 => ?_)
  · obtain ⟨sa, hsa⟩ := hX.2.1 (69, "no such lodger or room") (List.mem_of_getElem? (i := 1) rfl)
    exact vx_throwS hx hb hfl hown (cls := zOOB) (names := zNms) zOOB_fit zNmsFit (hts (.classLink RX2 67 zOOB) (by decide +kernel)) (hts (.initialized zOOB) (by decide +kernel)) hsa (vx_hat (fun w hw => hts w (List.mem_cons_of_mem _ (List.mem_append_left _ (List.mem_append_right _ hw)))) zOOB_rest (vx_c (va_Nw.use rfl (hX.1.1 zOOB (List.mem_of_getElem? (i := 1) rfl))) (fun w hw => by obtain ⟨Y, hY, rfl⟩ := List.mem_map.mp hw; exact va_Nw.use rfl (hX.1.2 Y hY)))) zOOB_good hX.2.2.1 hX.2.2.2 va_S.rf (hl.1.trans hml.symm) dX2_would_22 dX2_would_25 dX2_would_26 dX2_would_28 dX2_would_31 (fun x h => (hxt x h).elim) (Nat.le_of_ble_eq_true rfl) (Nat.le_of_ble_eq_true rfl) (Nat.le_of_ble_eq_true rfl) (Nat.le_of_ble_eq_true rfl) hlocks (fun t _ h1 h2 => ⟨(), trivial, rfl, h1, fun q hq _ => h2 q hq⟩) (fun z h => nomatch h) (Nat.le_refl _) (Nat.le_refl _)
  · refine lv_aload_n hx hb dX2_would_11 rfl (lv_at hl 0 rfl) ?_
    refine va_get (D := D) (ci := 2) (v := .ref B) (C := RX2) (T := TX2) (N := 9) hx hb hts (by decide +kernel) hown hK hP 0 rfl rfl 0 (by decide) (hts (.fieldLink RX2 10 "RentHarmony" "bids" "LRentHarmony$Bids;") (by decide +kernel)) (fun _ h9 => h9) rfl dX2_would_12 ?_
    refine lv_iload_n hx hb dX2_would_15 rfl (lv_at hl 2 rfl) ?_
    refine zc_ri (As := [.int (iI (z2))]) (rest := []) hF (c_X0_has l D cI B C n b z2 (by omega) hz2) (cwV 1 hts gX2_would_X0_has rfl rfl rfl (by decide +kernel) ⟨Nat.le_of_ble_eq_true rfl, Nat.le_of_ble_eq_true rfl⟩) hK hP [1, 2] rfl 0 rfl 0 rfl rfl rfl rfl hl.1 rfl (Nat.le_of_ble_eq_true rfl) dX2_would_16 ⟨Nat.zero_le _, Nat.zero_le _⟩ ?_
    refine zr_ifB_ne (tgt := 32) hx hb dX2_would_19 (by decide)  (fun c2 => ?_) (fun c2 => ?_)
    · exact absurd (by omega) hbad
    · obtain ⟨sa, hsa⟩ := hX.2.1 (69, "no such lodger or room") (List.mem_of_getElem? (i := 1) rfl)
      exact vx_throwS hx hb hfl hown (cls := zOOB) (names := zNms) zOOB_fit zNmsFit (hts (.classLink RX2 67 zOOB) (by decide +kernel)) (hts (.initialized zOOB) (by decide +kernel)) hsa (vx_hat (fun w hw => hts w (List.mem_cons_of_mem _ (List.mem_append_left _ (List.mem_append_right _ hw)))) zOOB_rest (vx_c (va_Nw.use rfl (hX.1.1 zOOB (List.mem_of_getElem? (i := 1) rfl))) (fun w hw => by obtain ⟨Y, hY, rfl⟩ := List.mem_map.mp hw; exact va_Nw.use rfl (hX.1.2 Y hY)))) zOOB_good hX.2.2.1 hX.2.2.2 va_S.rf (hl.1.trans hml.symm) dX2_would_22 dX2_would_25 dX2_would_26 dX2_would_28 dX2_would_31 (fun x h => (hxt x h).elim) (Nat.le_of_ble_eq_true rfl) (Nat.le_of_ble_eq_true rfl) (Nat.le_of_ble_eq_true rfl) (Nat.le_of_ble_eq_true rfl) hlocks (fun t _ h1 h2 => ⟨(), trivial, rfl, h1, fun q hq _ => h2 q hq⟩) (fun z h => nomatch h) (Nat.le_refl _) (Nat.le_refl _)
set_option maxHeartbeats 4000000 in
set_option maxRecDepth 100000 in
/-- X2_would throws -/
theorem t_X2_would1 (l : Launch) (hfl : l.stackTraces = false) (D : va_G) (cI : ClassId) (h B C G GB GW GR TB TG FR CH n : Nat) (b bo wo ro fr : Nat → Int) (rc sh po : Int) (z1 z2 z3 : Int) (hn : n ≤ 6) (hb0 : ∀ k, 0 ≤ b k ∧ b k ≤ 999) (hz1 : zB z1) (hz2 : zB z2) (hz3 : zB z3) (hgood : (0 ≤ z1 ∧ z1 < (n : Int)) ∧ 0 ≤ z2 ∧ z2 < (n : Int)) (hbad : ¬ (0 ≤ z3 ∧ z3 ≤ 999)) : zTh l yX2_would wsX2_would 6 82 D cI [.ref h, .int (iI (z1)), .int (iI (z2)), .int (iI (z3))] [(h, .inr (2, [.ref B, .ref G, .ref TB, .ref TG, .ref FR, .ref CH, .int (iI (rc)), .int (iI (sh)), .int (iI (po))])), (B, .inr (0, [.ref C, .int (iI ((n : Nat) : Int))])), (C, zArr cI 36 b), (G, .inr (1, [.ref GB, .ref GW, .ref GR])), (GB, zArr cI 64 bo), (GW, zArr cI 64 wo), (GR, zArr cI 6 ro), (FR, zArr cI 6 fr)] zIAE := by
  refine zTh_of (cc := cX2_would) (maxL := 4) (rt := (some .int)) (by decide) rfl (Nat.le_of_ble_eq_true rfl) ?_
  intro p e s m args below meth c ls hF hxt hlocks hP hK hX hl
  have hF : zFix p m c cX2_would 4 s args wsX2_would RX2 := hF
  obtain ⟨hx, hb, hml, hown, hts⟩ := id hF
  have hP : va_P D vwCl [(h, .inr (2, [.ref B, .ref G, .ref TB, .ref TG, .ref FR, .ref CH, .int (iI (rc)), .int (iI (sh)), .int (iI (po))])), (B, .inr (0, [.ref C, .int (iI ((n : Nat) : Int))])), (C, zArr cI 36 b), (G, .inr (1, [.ref GB, .ref GW, .ref GR])), (GB, zArr cI 64 bo), (GW, zArr cI 64 wo), (GR, zArr cI 6 ro), (FR, zArr cI 6 fr)] s.heap := hP
  have hl : lv_has ls 4 [(0, .ref h), (1, .int (iI (z1))), (2, .int (iI (z2))), (3, .int (iI (z3)))] := hl
  have hz1a := hz1.1
  have hz1b := hz1.2
  have hz2a := hz2.1
  have hz2b := hz2.2
  have hz3a := hz3.1
  have hz3b := hz3.2
  refine lv_aload_n hx hb dX2_would_0 rfl (lv_at hl 0 rfl) ?_
  refine va_get (D := D) (ci := 2) (v := .ref B) (C := RX2) (T := TX2) (N := 9) hx hb hts (by decide +kernel) hown hK hP 0 rfl rfl 0 (by decide) (hts (.fieldLink RX2 10 "RentHarmony" "bids" "LRentHarmony$Bids;") (by decide +kernel)) (fun _ h9 => h9) rfl dX2_would_1 ?_
  refine lv_iload_n hx hb dX2_would_4 rfl (lv_at hl 1 rfl) ?_
  refine zc_ri (As := [.int (iI (z1))]) (rest := []) hF (c_X0_has l D cI B C n b z1 (by omega) hz1) (cwV 1 hts gX2_would_X0_has rfl rfl rfl (by decide +kernel) ⟨Nat.le_of_ble_eq_true rfl, Nat.le_of_ble_eq_true rfl⟩) hK hP [1, 2] rfl 0 rfl 0 rfl rfl rfl rfl hl.1 rfl (Nat.le_of_ble_eq_true rfl) dX2_would_5 ⟨Nat.zero_le _, Nat.zero_le _⟩ ?_
  refine zr_ifB_eq (tgt := 22) hx hb dX2_would_8 (by decide)  (fun c1 => ?_) (fun c1 => ?_)
  · exact absurd hgood (by omega)
  · refine lv_aload_n hx hb dX2_would_11 rfl (lv_at hl 0 rfl) ?_
    refine va_get (D := D) (ci := 2) (v := .ref B) (C := RX2) (T := TX2) (N := 9) hx hb hts (by decide +kernel) hown hK hP 0 rfl rfl 0 (by decide) (hts (.fieldLink RX2 10 "RentHarmony" "bids" "LRentHarmony$Bids;") (by decide +kernel)) (fun _ h9 => h9) rfl dX2_would_12 ?_
    refine lv_iload_n hx hb dX2_would_15 rfl (lv_at hl 2 rfl) ?_
    refine zc_ri (As := [.int (iI (z2))]) (rest := []) hF (c_X0_has l D cI B C n b z2 (by omega) hz2) (cwV 1 hts gX2_would_X0_has rfl rfl rfl (by decide +kernel) ⟨Nat.le_of_ble_eq_true rfl, Nat.le_of_ble_eq_true rfl⟩) hK hP [1, 2] rfl 0 rfl 0 rfl rfl rfl rfl hl.1 rfl (Nat.le_of_ble_eq_true rfl) dX2_would_16 ⟨Nat.zero_le _, Nat.zero_le _⟩ ?_
    refine zr_ifB_ne (tgt := 32) hx hb dX2_would_19 (by decide)  (fun c2 => ?_) (fun c2 => ?_)
    · refine lv_iload_n hx hb dX2_would_32 rfl (lv_at hl 3 rfl) ?_
      refine zr_if_lt (tgt := 43) hx hb dX2_would_33 (by decide) (zB_of (by omega) (by omega)) (fun c3 => ?_) (fun c3 => ?_)
      · obtain ⟨sa, hsa⟩ := hX.2.1 (74, "no such bid") (List.mem_of_getElem? (i := 2) rfl)
        exact vx_throwS hx hb hfl hown (cls := zIAE) (names := zNms) zIAE_fit zNmsFit (hts (.classLink RX2 72 zIAE) (by decide +kernel)) (hts (.initialized zIAE) (by decide +kernel)) hsa (vx_hat (fun w hw => hts w (List.mem_cons_of_mem _ (List.mem_append_right _ hw))) zIAE_rest (vx_c (va_Nw.use rfl (hX.1.1 zIAE (List.mem_of_getElem? (i := 2) rfl))) (fun w hw => by obtain ⟨Y, hY, rfl⟩ := List.mem_map.mp hw; exact va_Nw.use rfl (hX.1.2 Y hY)))) zIAE_good hX.2.2.1 hX.2.2.2 va_S.rf (hl.1.trans hml.symm) dX2_would_43 dX2_would_46 dX2_would_47 dX2_would_49 dX2_would_52 (fun x h => (hxt x h).elim) (Nat.le_of_ble_eq_true rfl) (Nat.le_of_ble_eq_true rfl) (Nat.le_of_ble_eq_true rfl) (Nat.le_of_ble_eq_true rfl) hlocks (fun t _ h1 h2 => ⟨(), trivial, rfl, h1, fun q hq _ => h2 q hq⟩) (fun z h => nomatch h) (Nat.le_refl _) (Nat.le_refl _)
      · refine lv_iload_n hx hb dX2_would_36 rfl (lv_at hl 3 rfl) ?_
        refine zr_si (n := ((999 : Nat) : Int)) hx hb dX2_would_37 rfl ?_
        refine zr_icmp_le (tgt := 53) hx hb dX2_would_40 (by decide) (zB_of (by omega) (by omega)) (zB_of (by omega) (by omega)) (fun c4 => ?_) (fun c4 => ?_)
        · exact absurd (by omega) hbad
        · obtain ⟨sa, hsa⟩ := hX.2.1 (74, "no such bid") (List.mem_of_getElem? (i := 2) rfl)
          exact vx_throwS hx hb hfl hown (cls := zIAE) (names := zNms) zIAE_fit zNmsFit (hts (.classLink RX2 72 zIAE) (by decide +kernel)) (hts (.initialized zIAE) (by decide +kernel)) hsa (vx_hat (fun w hw => hts w (List.mem_cons_of_mem _ (List.mem_append_right _ hw))) zIAE_rest (vx_c (va_Nw.use rfl (hX.1.1 zIAE (List.mem_of_getElem? (i := 2) rfl))) (fun w hw => by obtain ⟨Y, hY, rfl⟩ := List.mem_map.mp hw; exact va_Nw.use rfl (hX.1.2 Y hY)))) zIAE_good hX.2.2.1 hX.2.2.2 va_S.rf (hl.1.trans hml.symm) dX2_would_43 dX2_would_46 dX2_would_47 dX2_would_49 dX2_would_52 (fun x h => (hxt x h).elim) (Nat.le_of_ble_eq_true rfl) (Nat.le_of_ble_eq_true rfl) (Nat.le_of_ble_eq_true rfl) (Nat.le_of_ble_eq_true rfl) hlocks (fun t _ h1 h2 => ⟨(), trivial, rfl, h1, fun q hq _ => h2 q hq⟩) (fun z h => nomatch h) (Nat.le_refl _) (Nat.le_refl _)
    · exact absurd hgood (by omega)
