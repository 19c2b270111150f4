/-! THE LAW: its loop -/
theorem zLC_draw {p : Program} {l : Launch} {m : MethodId} {c : Code} {s : State} {args : Array Value} {sb L : Nat} {xs : Nat → Int32} (h : zLC p l m c s args sb L xs) (d : Drawn) : zLC p l m c (s.setDrawn d) args sb L xs := by
  obtain ⟨h1, ⟨a1, a2, a3, a4, a5⟩, h3, h4, h5, h6⟩ := h
  exact ⟨h1, ⟨a1, a2, a3, a4, dr_words a5 d⟩, h3, h4, h5, zXF_same (U := s) (V := s.setDrawn d) rfl rfl h6.1, h6.2⟩
theorem zLen (L : Nat) : Int32.ofNat L = iI ((L : Nat) : Int) := (Int32.ofInt_eq_ofNat).symm
theorem zAnd15 (x : Int32) : ∃ j : Nat, j < 16 ∧ x &&& iI ((15 : Nat) : Int) = iI ((j : Nat) : Int) := by
  have hlt : (x.toBitVec &&& 15#32).toNat < 16 := by
    rw [BitVec.toNat_and]
    exact Nat.lt_of_le_of_lt Nat.and_le_right (by decide)
  refine ⟨(x.toBitVec &&& 15#32).toNat, hlt, ?_⟩
  rw [← zLen]
  refine Int32.toBitVec_inj.mp ?_
  refine BitVec.eq_of_toNat_eq ?_
  show (x.toBitVec &&& 15#32).toNat = (BitVec.ofNat 32 _).toNat
  rw [BitVec.toNat_ofNat, Nat.mod_eq_of_lt (Nat.lt_of_lt_of_le hlt (by decide))]
set_option maxHeartbeats 8000000 in
set_option maxRecDepth 100000 in
theorem law_loop {p : Program} {l : Launch} {e : Env} {s : State} {m : MethodId} {below : List Frame} {meth : Method} {c : Code} {sb L : Nat} {xs : Nat → Int32} {D : va_G} {cI cJ : ClassId} {h B C G GB GW GR TB TC TG TGB TGW TGR FR CH J M MB MR ME MZ MT : Nat} (hr : meth.sig.returnType = ret) (hlocks : meth.locks = false) (CC : zLC p l m c s #[.ref sb] sb L xs) :
    ∀ (g k : Nat), 4 * k ≤ L → L < 4 * k + 4 * g → ∀ (d0 : Drawn), s.drawn.sameBut d0 lw_cs → ∀ (n : Nat) (b : Nat → Int) (rc : Int) (u : zVU) (v : zMU) (H : Heap) (locs : List Loc) (ls : Array Slot), zLI (s.setDrawn d0) D cI cJ sb h B C G GB GW GR TB TC TG TGB TGW TGR FR CH J M MB MR ME MZ MT k n b rc u v H locs ls → W p l e room_1 (s.setDrawn d0) m #[.ref sb] below meth c H locs (22 + k) (447 + 6 * k) (lw_Z below #[.ref sb] s) (F0 m 23 ls []) := by
  intro g
  induction g with
  | zero => intro k h1 h2; exact absurd h2 (by omega)
  | succ g ih =>
    intro k h1 h2 d0 hd0 n b rc u v H locs ls I
    have CC2 : zLC p l m c (s.setDrawn d0) #[.ref sb] sb L xs := zLC_draw CC d0
    obtain ⟨hfl, hF, hX, hsb, hL, hXL⟩ := id CC2
    obtain ⟨hx, hb, hml, hown, hts⟩ := id hF
    obtain ⟨hn, hb0, hrc, hset, hmu, hK, hP, hD, hS, hl⟩ := id I
    have hbA : ¬ (fun q => s.heap.size ≤ q) sb := Nat.not_le.mpr hsb
    have step : ∀ (d1 : Drawn), s.drawn.sameBut d1 lw_cs → ∀ (n : Nat) (b : Nat → Int) (rc : Int) (u : zVU) (v : zMU) (H : Heap) (locs : List Loc) (ls : Array Slot), zLI (s.setDrawn d1) D cI cJ sb h B C G GB GW GR TB TC TG TGB TGW TGR FR CH J M MB MR ME MZ MT k n b rc u v H locs ls → 4 * k + 4 ≤ L → W p l e room_1 (s.setDrawn d1) m #[.ref sb] below meth c H locs (22 + k + 1) (447 + 6 * k + 6) (lw_Z below #[.ref sb] s) (F0 m 955 ls []) := by
      intro d1 hd1 n b rc u v H locs ls I1 h4
      obtain ⟨hn, hb0, hrc, hset, hmu, hK, hP, hD, hS, hl⟩ := I1
      refine zr_iinc (lv2 := [(4, .int (iI (((4 * k : Nat) : Int) + 4))), (0, .ref sb), (1, .ref h), (2, .ref M), (3, .ref J)]) hx hb dL_law_955 hl (k0 := 4) rfl (by decide) rfl (fun ls hl => ?_)
      refine lv_goto (tgt := 23) hx hb dL_law_958 (by decide) ?_
      have e4 : ((4 * k : Nat) : Int) + 4 = ((4 * (k + 1) : Nat) : Int) := by omega
      rw [e4] at hl
      exact ih (k + 1) (by omega) (by omega) d1 hd1 n b rc u v H locs ls ⟨hn, hb0, hrc, hset, hmu, hK, hP, hD, hS, lv_sub hl [1, 2, 3, 4, 0] rfl⟩
    refine lv_iload hx hb dL_law_23 (lv_at hl 4 rfl) ?_
    refine lv_aload_n hx hb dL_law_25 rfl (lv_at hl 0 rfl) ?_
    refine va_slen hx hb hX hsb hbA hS dL_law_26 ?_
    rw [zLen L]
    refine zr_ic (n := ((4 : Nat) : Int)) hx hb dL_law_27 ?_
    refine zr_sub hx hb dL_law_28 ?_
    refine zr_icmp_gt (tgt := 961) hx hb dL_law_29 (by decide) (zB_of (by omega) (by omega)) (zB_of (by omega) (by omega)) (fun q => ?_) (fun q => ?_)
    · refine zr_ic (n := ((1 : Nat) : Int)) hx hb dL_law_961 ?_
      refine va_forget (fun q hq => hS.2.2 q hq) ?_
      refine W.widen (k := 648565) (n := 7150408) (by omega) (by omega) ?_
      exact lw_ret hd0 hx hb hr hlocks dL_law_962
    · refine lv_aload_n hx hb dL_law_32 rfl (lv_at hl 0 rfl) ?_
      refine lv_iload hx hb dL_law_33 (lv_at hl 4 rfl) ?_
      refine zr_sld hx hb hX hsb hbA hS hL (j := 4 * k) (by omega) dL_law_35 ?_
      refine zr_bi (n := ((15 : Nat) : Int)) hx hb dL_law_36 rfl ?_
      refine lv_iand hx hb dL_law_38 ?_
      obtain ⟨j, hj, ej⟩ := zAnd15 (iI (xs (4 * k)).toInt)
      rw [ej]
      rcases (show j = 0 ∨ j = 1 ∨ j = 2 ∨ j = 3 ∨ j = 4 ∨ j = 5 ∨ j = 6 ∨ j = 7 ∨ j = 8 ∨ j = 9 ∨ j = 10 ∨ j = 11 ∨ j = 12 ∨ j = 13 ∨ j = 14 ∨ j = 15 by omega) with rfl | rfl | rfl | rfl | rfl | rfl | rfl | rfl | rfl | rfl | rfl | rfl | rfl | rfl | rfl | rfl
      · refine lv_tableIn (off := 73) (tgt := 112) hx hb dL_law_39 (by decide) (by decide) (by decide) (by decide) ?_
        exact op_come CC2 I (by omega) (by omega) (by omega) (fun n b rc u v H locs ls I1 => step d0 hd0 n b rc u v H locs ls I1 (by omega))
      · refine lv_tableIn (off := 117) (tgt := 156) hx hb dL_law_39 (by decide) (by decide) (by decide) (by decide) ?_
        exact op_bid CC2 I (by omega) (by omega) (by omega) (fun n b rc u v H locs ls I1 => step d0 hd0 n b rc u v H locs ls I1 (by omega))
      · refine lv_tableIn (off := 197) (tgt := 236) hx hb dL_law_39 (by decide) (by decide) (by decide) (by decide) ?_
        exact op_rent CC2 I (by omega) (by omega) (by omega) (fun n b rc u v H locs ls I1 => step d0 hd0 n b rc u v H locs ls I1 (by omega))
      · refine lv_tableIn (off := 253) (tgt := 292) hx hb dL_law_39 (by decide) (by decide) (by decide) (by decide) ?_
        exact op_leave CC2 I (by omega) (by omega) (by omega) (fun n b rc u v H locs ls I1 => step d0 hd0 n b rc u v H locs ls I1 (by omega))
      · refine lv_tableIn (off := 309) (tgt := 348) hx hb dL_law_39 (by decide) (by decide) (by decide) (by decide) ?_
        exact op_told CC2 I (by omega) (by omega) (by omega) (fun n b rc u v H locs ls I1 => step d0 hd0 n b rc u v H locs ls I1 (by omega))
      · refine lv_tableIn (off := 377) (tgt := 416) hx hb dL_law_39 (by decide) (by decide) (by decide) (by decide) ?_
        exact op_offer CC2 I (by omega) (by omega) (by omega) (fun n b rc u v H locs ls I1 => step d0 hd0 n b rc u v H locs ls I1 (by omega))
      · refine lv_tableIn (off := 445) (tgt := 484) hx hb dL_law_39 (by decide) (by decide) (by decide) (by decide) ?_
        exact op_count CC2 I (by omega) (by omega) (by omega) (fun n b rc u v H locs ls I1 => step d0 hd0 n b rc u v H locs ls I1 (by omega))
      · refine lv_tableIn (off := 501) (tgt := 540) hx hb dL_law_39 (by decide) (by decide) (by decide) (by decide) ?_
        exact op_envies CC2 I (by omega) (by omega) (by omega) (fun n b rc u v H locs ls I1 => step d0 hd0 n b rc u v H locs ls I1 (by omega))
      · refine lv_tableIn (off := 576) (tgt := 615) hx hb dL_law_39 (by decide) (by decide) (by decide) (by decide) ?_
        exact op_gap CC2 I (by omega) (by omega) (by omega) (fun n b rc u v H locs ls I1 => step d0 hd0 n b rc u v H locs ls I1 (by omega))
      · refine lv_tableIn (off := 644) (tgt := 683) hx hb dL_law_39 (by decide) (by decide) (by decide) (by decide) ?_
        exact op_chain CC2 I (by omega) (by omega) (by omega) (fun n b rc u v H locs ls I1 => step d0 hd0 n b rc u v H locs ls I1 (by omega))
      · refine lv_tableIn (off := 657) (tgt := 696) hx hb dL_law_39 (by decide) (by decide) (by decide) (by decide) ?_
        exact op_would CC2 I (by omega) (by omega) (by omega) (fun n b rc u v H locs ls I1 => step d0 hd0 n b rc u v H locs ls I1 (by omega))
      · refine lv_tableIn (off := 737) (tgt := 776) hx hb dL_law_39 (by decide) (by decide) (by decide) (by decide) ?_
        exact op_needs CC2 I (by omega) (by omega) (by omega) (fun n b rc u v H locs ls I1 => step d0 hd0 n b rc u v H locs ls I1 (by omega))
      · refine lv_tableIn (off := 805) (tgt := 844) hx hb dL_law_39 (by decide) (by decide) (by decide) (by decide) ?_
        exact op_without CC2 I (by omega) (by omega) (by omega) (fun n b rc u v H locs ls I1 => step d0 hd0 n b rc u v H locs ls I1 (by omega))
      · refine lv_tableIn (off := 861) (tgt := 900) hx hb dL_law_39 (by decide) (by decide) (by decide) (by decide) ?_
        exact op_mean CC2 I (by omega) (by omega) (by omega) (fun d1 h1 n b rc u v H locs ls I1 => step d1 (hd0.trans h1) n b rc u v H locs ls I1 (by omega))
      · refine lv_tableIn (off := 902) (tgt := 941) hx hb dL_law_39 (by decide) (by decide) (by decide) (by decide) ?_
        exact op_digest CC2 I (by omega) (by omega) (by omega) (fun n b rc u v H locs ls I1 => step d0 hd0 n b rc u v H locs ls I1 (by omega))
      · refine lv_tableOut (tgt := 955) hx hb dL_law_39 (by decide) (by decide) ?_
        refine W.widen (k := 22 + k + 1) (n := 447 + 6 * k + 6) (by omega) (by omega) ?_
        exact step d0 hd0 n b rc u v H locs ls I (by omega)
