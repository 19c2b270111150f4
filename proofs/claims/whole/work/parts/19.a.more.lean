/-! the law: its ops without a helper -/
section ZLD
variable {p : Program} {l : Launch} {e : Env} {R : Room} {s : State} {m : MethodId} {args : Array Value} {below : List Frame} {meth : Method} {c : Code} {H : Heap} {locs : List Loc} {cells slots : Nat} {Q : State → Prop}
variable {cc bytes : ByteArray} {pc nL n maxL index fr lo : Nat} {ls : Array Slot} {rest st0 : List Value} {D : va_G} {cI cJ : ClassId} {ws wc : va_W} {A : Nat → Prop} {H0 : Heap} {wds Ts : List Cond} {own C : String} {y : MethodName} {ret : Option FieldType} {b ci q0 : Nat} {As : List Value} {tys : List (ClassId × FieldType)} {fs : List Value} {cq : vw_C} {hh : List (Nat × Nat × Nat × Nat)}
theorem zc_wl {S : Type} {post : Int64 → S → Prop} {out : S → va_W} (hF : zFix p m c cc nL s args Ts own) (hM : zWl l y wds fr lo D cI (.ref b :: As) wc post out) (cw : CallW R s args own C index y bytes maxL ret wds (zRm fr lo) 0 0 n)
    (hK : va_K D vwCl tys s) (hP : va_P D vwCl ws H) (hD : va_D A ws) (hS : va_S A H0 H locs) (is : List Nat) (hn0 : va_nd is = true) (hs : is.map (fun i => ws[i]?) = wc.map some) (hadr : ∀ u, (out u).map Prod.fst = wc.map Prod.fst) (t0 : Nat) (ht0 : tys[t0]? = some (cI, .int)) (q0 : Nat) (he : wc[q0]? = some (b, .inr (ci, fs))) (hc : vwCl[ci]? = some cq) (hCq : cq.1 = C)
    (hn : As.length = n) (hl : ls.size = nL) (hst : st0 = As.reverse ++ .ref b :: rest) (hW : (rest.map fun v => v.category).sum ≤ 8) (hdg : decode cc pc = .ok (.invokevirtual index, 3)) (hf : cells ≤ R.cells ∧ slots ≤ R.slots)
    (kk : ∀ (r : Int64) (u : S) (H1 : Heap) (locs1 : List Loc), post r u → va_P D vwCl (zUp ws is (out u)) H1 → va_D A (zUp ws is (out u)) → va_S A H0 H1 locs1 → W p l e R s m args below meth c H1 locs1 cells slots Q (F0 m (pc + 3) ls (.long r :: rest))) : W p l e R s m args below meth c H locs cells slots Q (F0 m pc ls st0) := by
  subst hCq
  have hDc : va_D A wc := hD.sub is hn0 hs
  have hPc : va_P D vwCl wc H := fun k q h => by
    obtain ⟨i, -, h2⟩ := z_at hs h
    exact hP i q h2
  have hKc := z_tys hK t0 ht0
  have hfr := zA_free hD is hs
  refine va_calll (va_runV (As := As) (rest := rest) hF hM cw ⟨zPW_blind, va_recv hK hPc hc he, fun U hU hW => ⟨rfl, by rw [hU]; exact hPc, va_K.moved hW.alike hKc, hDc.weaken (fun _ _ _ _ => trivial)⟩⟩ rfl hn hl hst (lv_room hW) hdg ⟨hf.1, hf.2⟩) hS (fun q _ h => hfr q h) hfr (fun r u t H1 locs1 ht hvm hw hB hz1 hk1 hS1 => ?_)
  rw [ht] at hB
  obtain ⟨g1, g2⟩ := z_join hP hD is hs (hadr u) hk1 hB
  exact kk r u H1 locs1 hw g1 g2 hS1
theorem zc_wd {S : Type} {post : UInt64 → S → Prop} {out : S → va_W} (hF : zFix p m c cc nL s args Ts own) (hM : zWd l y wds fr lo D cI (.ref b :: As) wc post out) (cw : CallW R s args own C index y bytes maxL ret wds (zRm fr lo) 0 0 n)
    (hK : va_K D vwCl tys s) (hP : va_P D vwCl ws H) (hD : va_D A ws) (hS : va_S A H0 H locs) (is : List Nat) (hn0 : va_nd is = true) (hs : is.map (fun i => ws[i]?) = wc.map some) (hadr : ∀ u, (out u).map Prod.fst = wc.map Prod.fst) (t0 : Nat) (ht0 : tys[t0]? = some (cI, .int)) (q0 : Nat) (he : wc[q0]? = some (b, .inr (ci, fs))) (hc : vwCl[ci]? = some cq) (hCq : cq.1 = C)
    (hn : As.length = n) (hl : ls.size = nL) (hst : st0 = As.reverse ++ .ref b :: rest) (hW : (rest.map fun v => v.category).sum ≤ 8) (hdg : decode cc pc = .ok (.invokevirtual index, 3)) (hf : cells ≤ R.cells ∧ slots ≤ R.slots)
    (kk : ∀ (r : UInt64) (u : S) (H1 : Heap) (locs1 : List Loc) (d1 : Drawn), s.drawn.sameBut d1 lw_cs → post r u → va_P D vwCl (zUp ws is (out u)) H1 → va_D A (zUp ws is (out u)) → va_S A H0 H1 locs1 → W p l e R (s.setDrawn d1) m args below meth c H1 locs1 cells slots Q (F0 m (pc + 3) ls (.double r :: rest))) : W p l e R s m args below meth c H locs cells slots Q (F0 m pc ls st0) := by
  subst hCq
  have hDc : va_D A wc := hD.sub is hn0 hs
  have hPc : va_P D vwCl wc H := fun k q h => by
    obtain ⟨i, -, h2⟩ := z_at hs h
    exact hP i q h2
  have hKc := z_tys hK t0 ht0
  have hfr := zA_free hD is hs
  refine va_calld_D (va_runV_D (As := As) (rest := rest) hF hM cw ⟨zPW_blind, va_recv hK hPc hc he, fun U hU hW => ⟨rfl, by rw [hU]; exact hPc, va_K.moved hW.alike hKc, hDc.weaken (fun _ _ _ _ => trivial)⟩⟩ rfl hn hl hst (lv_room hW) hdg ⟨hf.1, hf.2⟩) hS (fun q _ h => hfr q h) hfr (fun r u t H1 locs1 ht hvm hw hB hz1 hk1 hS1 d1 hd1 => ?_)
  rw [ht] at hB
  obtain ⟨g1, g2⟩ := z_join hP hD is hs (hadr u) hk1 hB
  exact kk r u H1 locs1 d1 hd1 hw g1 g2 hS1
end ZLD
set_option maxHeartbeats 8000000 in
set_option maxRecDepth 100000 in
theorem op_chain {p : Program} {l : Launch} {e : Env} {s : State} {m : MethodId} {args : Array Value} {below : List Frame} {meth : Method} {c : Code} {H : Heap} {locs : List Loc} {cells slots : Nat} {Q : State → Prop} {ls : Array Slot} {sb L : Nat} {xs : Nat → Int32} {D : va_G} {cI cJ : ClassId} {h B C G GB GW GR TB TC TG TGB TGW TGR FR CH J M MB MR ME MZ MT : Nat} {k n : Nat} {b : Nat → Int} {rc : Int} {u : zVU} {v : zMU}
    (CC : zLC p l m c s args sb L xs) (I : zLI s D cI cJ sb h B C G GB GW GR TB TC TG TGB TGW TGR FR CH J M MB MR ME MZ MT k n b rc u v H locs ls) (hk : 4 * k + 3 < L) (hc : cells + 1 ≤ 648565) (hs : slots + 6 ≤ 7150408) (K : ∀ (n : Nat) (b : Nat → Int) (rc : Int) (u : zVU) (v : zMU) (H : Heap) (locs : List Loc) (ls : Array Slot), zLI s D cI cJ sb h B C G GB GW GR TB TC TG TGB TGW TGR FR CH J M MB MR ME MZ MT k n b rc u v H locs ls → W p l e room_1 s m args below meth c H locs (cells + 1) (slots + 6) Q (F0 m 955 ls [])) : W p l e room_1 s m args below meth c H locs cells slots Q (F0 m 683 ls []) := by
  obtain ⟨hfl, hF, hX, hsb, hL, hXL⟩ := CC
  obtain ⟨hx, hb, hml, hown, hts⟩ := id hF
  obtain ⟨bo, wo, ro, fr, sh, po, tn, tb, tbo, two, tro, ch, f⟩ := u
  obtain ⟨th, rwo, rwy, rpo, mu, mr, me, mq, mt⟩ := v
  obtain ⟨hn, hb0, hrc, hset, hmu, hK, hP, hD, hS, hl⟩ := I
  have hset : zSet n b rc bo wo ro fr sh po := hset
  have hmu : 0 ≤ mu ∧ mu ≤ 1 := hmu
  have hA : ∀ q, s.heap.size ≤ q → (fun q => s.heap.size ≤ q) q := fun _ h => h
  have hbA : ¬ (fun q => s.heap.size ≤ q) sb := Nat.not_le.mpr hsb
  have hE := hset.2.1
  obtain ⟨Lc, hLc⟩ := zL_ex (n := n) (b := b) hn
  refine lv_aload_n hx hb dL_law_683 rfl (lv_at hl 1 rfl) ?_
  refine zc_wi (As := []) (rest := []) hF (c_X2_chain l D cI h B C G GB GW GR TB TG FR CH n b bo wo ro fr rc sh po (zRo n b) ch Lc hn hb0 (zSet_ro hset) (zRo_lt (b := b) hn) hLc) (cwV 0 hts gL_law_X2_chain rfl rfl rfl (by decide +kernel) ⟨Nat.le_of_ble_eq_true rfl, Nat.le_of_ble_eq_true rfl⟩) hK hP hD hS [0, 1, 2, 3, 4, 5, 6, 13, 14] (by decide) rfl (fun _ => rfl) 0 rfl 0 rfl rfl rfl rfl hl.1 rfl (Nat.le_of_ble_eq_true rfl) dL_law_684 ⟨(show cells ≤ 648565 by omega), (show slots ≤ 7150408 by omega)⟩ (fun r ch2 H locs hw hP hD hS => ?_)
  have hw : r = iI (zMx Lc n) := hw
  subst hw
  have hP : va_P D vwCl (zXW h B C G GB GW GR TB TC TG TGB TGW TGR FR CH J cI cJ n b rc (bo, wo, ro, fr, sh, po, tn, tb, tbo, two, tro, ch2, f) ++ zMW M MB MR ME MZ MT cI n b rc (th, rwo, rwy, rpo, mu, mr, me, mq, mt)) H := hP
  have hD : va_D (fun q => s.heap.size ≤ q) (zXW h B C G GB GW GR TB TC TG TGB TGW TGR FR CH J cI cJ n b rc (bo, wo, ro, fr, sh, po, tn, tb, tbo, two, tro, ch2, f) ++ zMW M MB MR ME MZ MT cI n b rc (th, rwo, rwy, rpo, mu, mr, me, mq, mt)) := hD
  refine lv_aload_n hx hb dL_law_687 rfl (lv_at hl 2 rfl) ?_
  refine zc_wi (As := []) (rest := [.int (iI (zMx Lc n))]) hF (r_chain_ok l D cI M MB MR ME MZ MT n b mr me mq mt th rc rwo rwy rpo mu Lc hn hb0 hrc hmu hLc) (cwV 0 hts gL_law_X3_chain rfl rfl rfl (by decide +kernel) ⟨Nat.le_of_ble_eq_true rfl, Nat.le_of_ble_eq_true rfl⟩) hK hP hD hS [16, 17, 18, 19, 20, 21] (by decide) rfl (fun _ => rfl) 0 rfl 0 rfl rfl rfl rfl hl.1 rfl (Nat.le_of_ble_eq_true rfl) dL_law_688 ⟨(show cells ≤ 648565 by omega), (show slots ≤ 7150408 by omega)⟩ (fun r u9 H locs hw hP hD hS => ?_)
  obtain ⟨th2, rwo2, rwy2, rpo2, mu2, mr2, me2, mq2, mt2⟩ := u9
  obtain ⟨hr2, hth, hmu2⟩ := hw
  have hth : th2 = ((0 : Nat) : Int) := hth
  subst hth
  subst hr2
  have hP : va_P D vwCl (zXW h B C G GB GW GR TB TC TG TGB TGW TGR FR CH J cI cJ n b rc (bo, wo, ro, fr, sh, po, tn, tb, tbo, two, tro, ch2, f) ++ zMW M MB MR ME MZ MT cI n b rc (((0 : Nat) : Int), rwo2, rwy2, rpo2, mu2, mr2, me2, mq2, mt2)) H := hP
  have hD : va_D (fun q => s.heap.size ≤ q) (zXW h B C G GB GW GR TB TC TG TGB TGW TGR FR CH J cI cJ n b rc (bo, wo, ro, fr, sh, po, tn, tb, tbo, two, tro, ch2, f) ++ zMW M MB MR ME MZ MT cI n b rc (((0 : Nat) : Int), rwo2, rwy2, rpo2, mu2, mr2, me2, mq2, mt2)) := hD
  refine lv_icmp_eq (tgt := 955) hx hb dL_law_691 (by decide) (fun _ => ?_) (fun q => absurd rfl q)
  refine W.widen (k := cells + 1) (n := slots + 6) (by omega) (by omega) ?_
  exact K n b rc (bo, wo, ro, fr, sh, po, tn, tb, tbo, two, tro, ch2, f) (((0 : Nat) : Int), rwo2, rwy2, rpo2, mu2, mr2, me2, mq2, mt2) H locs ls ⟨hn, hb0, hrc, hset, hmu2, hK, hP, hD, hS, lv_sub hl [0, 1, 2, 3, 4] rfl⟩
set_option maxHeartbeats 8000000 in
set_option maxRecDepth 100000 in
theorem op_digest {p : Program} {l : Launch} {e : Env} {s : State} {m : MethodId} {args : Array Value} {below : List Frame} {meth : Method} {c : Code} {H : Heap} {locs : List Loc} {cells slots : Nat} {Q : State → Prop} {ls : Array Slot} {sb L : Nat} {xs : Nat → Int32} {D : va_G} {cI cJ : ClassId} {h B C G GB GW GR TB TC TG TGB TGW TGR FR CH J M MB MR ME MZ MT : Nat} {k n : Nat} {b : Nat → Int} {rc : Int} {u : zVU} {v : zMU}
    (CC : zLC p l m c s args sb L xs) (I : zLI s D cI cJ sb h B C G GB GW GR TB TC TG TGB TGW TGR FR CH J M MB MR ME MZ MT k n b rc u v H locs ls) (hk : 4 * k + 3 < L) (hc : cells + 1 ≤ 648565) (hs : slots + 6 ≤ 7150408) (K : ∀ (n : Nat) (b : Nat → Int) (rc : Int) (u : zVU) (v : zMU) (H : Heap) (locs : List Loc) (ls : Array Slot), zLI s D cI cJ sb h B C G GB GW GR TB TC TG TGB TGW TGR FR CH J M MB MR ME MZ MT k n b rc u v H locs ls → W p l e room_1 s m args below meth c H locs (cells + 1) (slots + 6) Q (F0 m 955 ls [])) : W p l e room_1 s m args below meth c H locs cells slots Q (F0 m 941 ls []) := by
  obtain ⟨hfl, hF, hX, hsb, hL, hXL⟩ := CC
  obtain ⟨hx, hb, hml, hown, hts⟩ := id hF
  obtain ⟨bo, wo, ro, fr, sh, po, tn, tb, tbo, two, tro, ch, f⟩ := u
  obtain ⟨th, rwo, rwy, rpo, mu, mr, me, mq, mt⟩ := v
  obtain ⟨hn, hb0, hrc, hset, hmu, hK, hP, hD, hS, hl⟩ := I
  have hset : zSet n b rc bo wo ro fr sh po := hset
  have hmu : 0 ≤ mu ∧ mu ≤ 1 := hmu
  have hA : ∀ q, s.heap.size ≤ q → (fun q => s.heap.size ≤ q) q := fun _ h => h
  have hbA : ¬ (fun q => s.heap.size ≤ q) sb := Nat.not_le.mpr hsb
  have hE := hset.2.1
  refine lv_aload_n hx hb dL_law_941 rfl (lv_at hl 1 rfl) ?_
  refine zc_wl (As := []) (rest := []) hF (c_X2_digest l D cI h B C G GB GW GR TB TG FR CH n b bo wo ro fr rc sh po hn hb0 hrc hset) (cwV 0 hts gL_law_X2_digest rfl rfl rfl (by decide +kernel) ⟨Nat.le_of_ble_eq_true rfl, Nat.le_of_ble_eq_true rfl⟩) hK hP hD hS [0, 1, 2, 3, 4, 5, 6, 13] (by decide) rfl (fun _ => rfl) 0 rfl 0 rfl rfl rfl rfl hl.1 rfl (Nat.le_of_ble_eq_true rfl) dL_law_942 ⟨(show cells ≤ 648565 by omega), (show slots ≤ 7150408 by omega)⟩ (fun r _ H locs hw hP hD hS => ?_)
  have hw : r = zDi n b rc fr := hw
  subst hw
  have hP : va_P D vwCl (zXW h B C G GB GW GR TB TC TG TGB TGW TGR FR CH J cI cJ n b rc (bo, wo, ro, fr, sh, po, tn, tb, tbo, two, tro, ch, f) ++ zMW M MB MR ME MZ MT cI n b rc (th, rwo, rwy, rpo, mu, mr, me, mq, mt)) H := hP
  have hD : va_D (fun q => s.heap.size ≤ q) (zXW h B C G GB GW GR TB TC TG TGB TGW TGR FR CH J cI cJ n b rc (bo, wo, ro, fr, sh, po, tn, tb, tbo, two, tro, ch, f) ++ zMW M MB MR ME MZ MT cI n b rc (th, rwo, rwy, rpo, mu, mr, me, mq, mt)) := hD
  refine lv_aload_n hx hb dL_law_945 rfl (lv_at hl 2 rfl) ?_
  refine zc_wl (As := []) (rest := [.long (zDi n b rc fr)]) hF (r_digest l D cI M MB MR ME MZ MT n b mr me mq mt th rc rwo rwy rpo mu fr hn hb0 hrc hmu hE) (cwV 0 hts gL_law_X3_digest rfl rfl rfl (by decide +kernel) ⟨Nat.le_of_ble_eq_true rfl, Nat.le_of_ble_eq_true rfl⟩) hK hP hD hS [16, 17, 18, 19, 20, 21] (by decide) rfl (fun _ => rfl) 0 rfl 0 rfl rfl rfl rfl hl.1 rfl (Nat.le_of_ble_eq_true rfl) dL_law_946 ⟨(show cells ≤ 648565 by omega), (show slots ≤ 7150408 by omega)⟩ (fun r u9 H locs hw hP hD hS => ?_)
  obtain ⟨th2, rwo2, rwy2, rpo2, mu2, mr2, me2, mq2, mt2⟩ := u9
  obtain ⟨hr2, hth, hmu2⟩ := hw
  have hth : th2 = ((0 : Nat) : Int) := hth
  subst hth
  subst hr2
  have hP : va_P D vwCl (zXW h B C G GB GW GR TB TC TG TGB TGW TGR FR CH J cI cJ n b rc (bo, wo, ro, fr, sh, po, tn, tb, tbo, two, tro, ch, f) ++ zMW M MB MR ME MZ MT cI n b rc (((0 : Nat) : Int), rwo2, rwy2, rpo2, mu2, mr2, me2, mq2, mt2)) H := hP
  have hD : va_D (fun q => s.heap.size ≤ q) (zXW h B C G GB GW GR TB TC TG TGB TGW TGR FR CH J cI cJ n b rc (bo, wo, ro, fr, sh, po, tn, tb, tbo, two, tro, ch, f) ++ zMW M MB MR ME MZ MT cI n b rc (((0 : Nat) : Int), rwo2, rwy2, rpo2, mu2, mr2, me2, mq2, mt2)) := hD
  refine zr_lcmpE (tgt := 955) hx hb rfl dL_law_949 dL_law_950 (by decide) ?_
  refine W.widen (k := cells + 1) (n := slots + 6) (by omega) (by omega) ?_
  exact K n b rc (bo, wo, ro, fr, sh, po, tn, tb, tbo, two, tro, ch, f) (((0 : Nat) : Int), rwo2, rwy2, rpo2, mu2, mr2, me2, mq2, mt2) H locs ls ⟨hn, hb0, hrc, hset, hmu2, hK, hP, hD, hS, lv_sub hl [0, 1, 2, 3, 4] rfl⟩
/-- two means that are alike one number: what the law asks of them -/
theorem zMean {p1 p2 X : UInt64} (h1 : alike64 p1 X = true) (h2 : alike64 p2 X = true) : Op.cmpValue (FP.dcmp p1 p2) .l = 0 ∨ (Op.cmpValue (FP.dcmp p1 p2) .l ≠ 0 ∧ Op.cmpValue (FP.dcmp p1 p1) .l ≠ 0 ∧ Op.cmpValue (FP.dcmp p2 p2) .l ≠ 0) := by
  by_cases h0 : Op.cmpValue (FP.dcmp p1 p2) .l = 0
  · exact Or.inl h0
  refine Or.inr ⟨h0, ?_⟩
  have a1 : p1 = X ∨ (isNaN64 p1 = true ∧ isNaN64 X = true) := by simpa [alike64] using h1
  have a2 : p2 = X ∨ (isNaN64 p2 = true ∧ isNaN64 X = true) := by simpa [alike64] using h2
  have nn : ∀ r, isNaN64 r = true → Op.cmpValue (FP.dcmp r r) .l ≠ 0 := fun r h => by rw [zNaN_cmp h]; decide
  rcases a1 with rfl | ⟨b1, b2⟩
  · rcases a2 with rfl | ⟨c1, c2⟩
    · exact ⟨h0, h0⟩
    · exact ⟨nn _ c2, nn _ c1⟩
  · rcases a2 with rfl | ⟨c1, c2⟩
    · exact ⟨nn _ b1, nn _ b2⟩
    · exact ⟨nn _ b1, nn _ c1⟩
set_option maxHeartbeats 8000000 in
set_option maxRecDepth 100000 in
theorem op_mean {p : Program} {l : Launch} {e : Env} {s : State} {m : MethodId} {args : Array Value} {below : List Frame} {meth : Method} {c : Code} {H : Heap} {locs : List Loc} {cells slots : Nat} {Q : State → Prop} {ls : Array Slot} {sb L : Nat} {xs : Nat → Int32} {D : va_G} {cI cJ : ClassId} {h B C G GB GW GR TB TC TG TGB TGW TGR FR CH J M MB MR ME MZ MT : Nat} {k n : Nat} {b : Nat → Int} {rc : Int} {u : zVU} {v : zMU}
    (CC : zLC p l m c s args sb L xs) (I : zLI s D cI cJ sb h B C G GB GW GR TB TC TG TGB TGW TGR FR CH J M MB MR ME MZ MT k n b rc u v H locs ls) (hk : 4 * k + 3 < L) (hc : cells + 1 ≤ 648565) (hs : slots + 6 ≤ 7150408) (K : ∀ (d1 : Drawn), s.drawn.sameBut d1 lw_cs → ∀ (n : Nat) (b : Nat → Int) (rc : Int) (u : zVU) (v : zMU) (H : Heap) (locs : List Loc) (ls : Array Slot), zLI (s.setDrawn d1) D cI cJ sb h B C G GB GW GR TB TC TG TGB TGW TGR FR CH J M MB MR ME MZ MT k n b rc u v H locs ls → W p l e room_1 (s.setDrawn d1) m args below meth c H locs (cells + 1) (slots + 6) Q (F0 m 955 ls [])) : W p l e room_1 s m args below meth c H locs cells slots Q (F0 m 900 ls []) := by
  obtain ⟨hfl, hF, hX, hsb, hL, hXL⟩ := CC
  obtain ⟨hx, hb, hml, hown, hts⟩ := id hF
  obtain ⟨bo, wo, ro, fr, sh, po, tn, tb, tbo, two, tro, ch, f⟩ := u
  obtain ⟨th, rwo, rwy, rpo, mu, mr, me, mq, mt⟩ := v
  obtain ⟨hn, hb0, hrc, hset, hmu, hK, hP, hD, hS, hl⟩ := I
  have hset : zSet n b rc bo wo ro fr sh po := hset
  have hmu : 0 ≤ mu ∧ mu ≤ 1 := hmu
  have hA : ∀ q, s.heap.size ≤ q → (fun q => s.heap.size ≤ q) q := fun _ h => h
  have hbA : ¬ (fun q => s.heap.size ≤ q) sb := Nat.not_le.mpr hsb
  have hE := hset.2.1
  refine lv_aload_n hx hb dL_law_900 rfl (lv_at hl 1 rfl) ?_
  refine zc_wd (As := []) (rest := []) hF (c_X2_mean l D cI h B C G GB GW GR TB TG FR CH n b bo wo ro fr rc sh po hn hb0 hrc hset) (cwV 0 hts gL_law_X2_mean rfl rfl rfl (by decide +kernel) ⟨Nat.le_of_ble_eq_true rfl, Nat.le_of_ble_eq_true rfl⟩) hK hP hD hS [0, 1, 2, 3, 4, 5, 6, 13] (by decide) rfl (fun _ => rfl) 0 rfl 0 rfl rfl rfl rfl hl.1 rfl (Nat.le_of_ble_eq_true rfl) dL_law_901 ⟨(show cells ≤ 648565 by omega), (show slots ≤ 7150408 by omega)⟩ (fun p1 _ H locs d1 hd1 hw hP hD hS => ?_)
  have hw1 : alike64 p1 (if n = 0 then 0 else FP.ddiv (FP.i2d (iI (zTo n b rc fr 6))) (FP.i2d (iI ((n : Nat) : Int)))) = true := hw
  have hP : va_P D vwCl (zXW h B C G GB GW GR TB TC TG TGB TGW TGR FR CH J cI cJ n b rc (bo, wo, ro, fr, sh, po, tn, tb, tbo, two, tro, ch, f) ++ zMW M MB MR ME MZ MT cI n b rc (th, rwo, rwy, rpo, mu, mr, me, mq, mt)) H := hP
  have hD : va_D (fun q => s.heap.size ≤ q) (zXW h B C G GB GW GR TB TC TG TGB TGW TGR FR CH J cI cJ n b rc (bo, wo, ro, fr, sh, po, tn, tb, tbo, two, tro, ch, f) ++ zMW M MB MR ME MZ MT cI n b rc (th, rwo, rwy, rpo, mu, mr, me, mq, mt)) := hD
  have hts1 := dr_words hts d1
  have hF1 : zFix p m c cL_law 9 (s.setDrawn d1) args wsL_law RL := ⟨hx, hb, hml, hown, hts1⟩
  have hK1 : va_K D vwCl [(cI, .int), (cJ, .long)] (s.setDrawn d1) := va_K.moved (u := s) (U := s.setDrawn d1) (Vm.Alike.refl s.vm) hK
  refine lv_dstore (lv' := [(5, .double p1), (0, .ref sb), (1, .ref h), (2, .ref M), (3, .ref J), (4, .int (iI ((4 * k : Nat) : Int)))]) hx hb dL_law_904 hl (by decide) rfl (fun ls hl => ?_)
  refine lv_aload_n hx hb dL_law_906 rfl (lv_at hl 3 rfl) ?_
  refine zc_wd (As := []) (rest := []) hF1 (c_X3_mean l D cI M MB MR ME MZ MT n b mr me mq mt th rc rwo rwy rpo mu fr hn hb0 hrc hmu hE) (cwV 0 hts1 gL_law_X3_mean rfl rfl rfl (by decide +kernel) ⟨Nat.le_of_ble_eq_true rfl, Nat.le_of_ble_eq_true rfl⟩) hK1 hP hD hS [16, 17, 18, 19, 20, 21] (by decide) rfl (fun _ => rfl) 0 rfl 0 rfl rfl rfl rfl hl.1 rfl (Nat.le_of_ble_eq_true rfl) dL_law_907 ⟨(show cells ≤ 648565 by omega), (show slots ≤ 7150408 by omega)⟩ (fun p2 u9 H locs d2 hd2 hw hP hD hS => ?_)
  change W p l e room_1 (s.setDrawn d2) m args below meth c H locs cells slots Q _
  have hK2 : va_K D vwCl [(cI, .int), (cJ, .long)] (s.setDrawn d2) := va_K.moved (u := s) (U := s.setDrawn d2) (Vm.Alike.refl s.vm) hK
  obtain ⟨rwo2, rwy2, rpo2, mr2, me2, mq2, mt2⟩ := u9
  have hw2 : alike64 p2 (if n = 0 then 0 else FP.ddiv (FP.i2d (iI (zTo n b rc fr 6))) (FP.i2d (iI ((n : Nat) : Int)))) = true := hw.1
  have hP : va_P D vwCl (zXW h B C G GB GW GR TB TC TG TGB TGW TGR FR CH J cI cJ n b rc (bo, wo, ro, fr, sh, po, tn, tb, tbo, two, tro, ch, f) ++ zMW M MB MR ME MZ MT cI n b rc (((0 : Nat) : Int), rwo2, rwy2, rpo2, mu, mr2, me2, mq2, mt2)) H := hP
  have hD : va_D (fun q => s.heap.size ≤ q) (zXW h B C G GB GW GR TB TC TG TGB TGW TGR FR CH J cI cJ n b rc (bo, wo, ro, fr, sh, po, tn, tb, tbo, two, tro, ch, f) ++ zMW M MB MR ME MZ MT cI n b rc (((0 : Nat) : Int), rwo2, rwy2, rpo2, mu, mr2, me2, mq2, mt2)) := hD
  refine lv_dstore (lv' := [(7, .double p2), (5, .double p1), (0, .ref sb), (1, .ref h), (2, .ref M), (3, .ref J), (4, .int (iI ((4 * k : Nat) : Int)))]) hx hb dL_law_910 hl (by decide) rfl (fun ls hl => ?_)
  refine lv_dload hx hb dL_law_912 (lv_at hl 1 rfl) ?_
  refine lv_dload hx hb dL_law_914 (lv_at hl 0 rfl) ?_
  refine lv_dcmp hx hb dL_law_916 ?_
  have key := zMean hw1 hw2
  refine lv_if_eq (tgt := 938) hx hb dL_law_917 (by decide) (fun _ => ?_) (fun q => ?_)
  · refine lv_goto (tgt := 955) hx hb dL_law_938 (by decide) ?_
    refine W.widen (k := cells + 1) (n := slots + 6) (by omega) (by omega) ?_
    exact K d2 (hd1.trans hd2) n b rc (bo, wo, ro, fr, sh, po, tn, tb, tbo, two, tro, ch, f) (((0 : Nat) : Int), rwo2, rwy2, rpo2, mu, mr2, me2, mq2, mt2) H locs ls ⟨hn, hb0, hrc, hset, hmu, hK2, hP, hD, hS, lv_sub hl [2, 3, 4, 5, 6] rfl⟩
  · obtain ⟨_, k2, k3⟩ := key.resolve_left q
    refine lv_dload hx hb dL_law_920 (lv_at hl 1 rfl) ?_
    refine lv_dload hx hb dL_law_922 (lv_at hl 1 rfl) ?_
    refine lv_dcmp hx hb dL_law_924 ?_
    refine lv_if_eq (tgt := 936) hx hb dL_law_925 (by decide) (fun q => absurd q k2) (fun _ => ?_)
    refine lv_dload hx hb dL_law_928 (lv_at hl 0 rfl) ?_
    refine lv_dload hx hb dL_law_930 (lv_at hl 0 rfl) ?_
    refine lv_dcmp hx hb dL_law_932 ?_
    refine lv_if_ne (tgt := 938) hx hb dL_law_933 (by decide) (fun _ => ?_) (fun q => absurd q k3)
    refine lv_goto (tgt := 955) hx hb dL_law_938 (by decide) ?_
    refine W.widen (k := cells + 1) (n := slots + 6) (by omega) (by omega) ?_
    exact K d2 (hd1.trans hd2) n b rc (bo, wo, ro, fr, sh, po, tn, tb, tbo, two, tro, ch, f) (((0 : Nat) : Int), rwo2, rwy2, rpo2, mu, mr2, me2, mq2, mt2) H locs ls ⟨hn, hb0, hrc, hset, hmu, hK2, hP, hD, hS, lv_sub hl [2, 3, 4, 5, 6] rfl⟩
