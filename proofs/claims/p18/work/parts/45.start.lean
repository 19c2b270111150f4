/-! p18: the law from its entry -/
set_option maxHeartbeats 8000000 in
set_option maxRecDepth 100000 in
theorem whole_start {p : Program} {e : Env} {s : State} {m : MethodId} {below : List Frame} {meth : Method} {c : Code} (l : Launch) (hflags : l.flags = flags0) {b L : Nat} {xs : Nat → Int32} (hL : L ≤ 260) (C0 : lw_At p s m meth c b L xs) : W p l e room_1 s m #[Value.ref b] below meth c s.heap [] 0 0 (lw_Z below #[Value.ref b] s) (entryFrame m ([Value.ref b] : List Value).toArray 20) := by
  obtain ⟨hx, hb, hr, hml, hown, htt, hX, hbl, hlocks, hgv⟩ := id C0
  have hts : ∀ w ∈ wsL_law, w.before #[Value.ref b] s = true := fun w h => htt w (wsL_law_in w h)
  have hF : zFix p m c cL_law 20 s #[Value.ref b] wsL_law RL := ⟨hx, hb, hml, hown, hts⟩
  have hA : ∀ q : Nat, s.heap.size ≤ q → (fun q : Nat => s.heap.size ≤ q) q := fun _ h => h
  have hnest : va_Nw (.methodLinkNest RX2 9 yX0_init RX2) s := va_Nw.of rfl (htt (.methodLinkNest RX2 9 yX0_init RX2) (by decide +kernel))
  obtain ⟨c0, i0, hK0⟩ := u_known (C := RX0) (T := TX0) (N := 2) (n := 2) hts inlX0 (hts (.instantiable RX0 2) (by decide +kernel))
  obtain ⟨c1, i1, hK1⟩ := u_known (C := RX1) (T := TX1) (N := 3) (n := 3) hts inlX1 (hts (.instantiable RX1 3) (by decide +kernel))
  obtain ⟨c2, i2, hK2⟩ := u_known (C := RX2) (T := TX2) (N := 9) (n := 9) hts inlX2 (hts (.instantiable RX2 9) (by decide +kernel))
  obtain ⟨c3, i3, hK3⟩ := u_known (C := RX3) (T := TX3) (N := 8) (n := 8) hts inlX3 (hts (.instantiable RX3 8) (by decide +kernel))
  obtain ⟨D, hKc⟩ : ∃ D : va_G, ∀ (k : Nat) (q : vw_C), vwCl[k]? = some q → u_Kn s q.1 q.2.1 q.2.2 (D.1 k) (D.2 k) := by
    refine ⟨(fun k => if k = 0 then c0 else if k = 1 then c1 else if k = 2 then c2 else c3, fun k => if k = 0 then i0 else if k = 1 then i1 else if k = 2 then i2 else i3), ?_⟩
    intro k q hq
    match k, hq with
    | 0, hq => cases hq; exact hK0
    | 1, hq => cases hq; exact hK1
    | 2, hq => cases hq; exact hK2
    | 3, hq => cases hq; exact hK3
    | k + 4, hq => simp [vwCl] at hq
  have hS : va_S (fun q : Nat => s.heap.size ≤ q) s.heap s.heap [] := va_S.rf
  have hK : va_K D vwCl [] s := ⟨hKc, fun k q h => by simp at h⟩
  have hP : va_P D vwCl [] s.heap := fun k q h => by simp at h
  have hD : va_D (fun q : Nat => s.heap.size ≤ q) [] := ⟨fun i j p q h => by simp at h, fun k q h => by simp at h⟩
  have hl := lv_entry ([.ref b]) (n := 20) (Nat.le_of_ble_eq_true rfl)
  rw [lg_entry_eq]
  generalize (lg_sl ([.ref b]) ++ List.replicate (20 - (lg_sl ([.ref b])).length) Slot.unset).toArray = ls at hl ⊢
  have hl : lv_has ls 20 [(0, .ref b)] := hl
  refine va_new (D := D) (ci := 2) (fs := [.null, .null, .null, .null, .null, .null, .int 0, .int 0, .int 0]) (C := RX2) (T := TX2) (N := 9) hx hb hts inlX2 tyX2 tyX2_ok hown (hts (.classLink RL 25 RX2) (by decide +kernel)) (hts (.instantiable RX2 9) (by decide +kernel)) (hts (.initialized RX2) (by decide +kernel)) hK hP hD hS hA rfl (fun j hj => by rcases (show j = 0 ∨ j = 1 ∨ j = 2 ∨ j = 3 ∨ j = 4 ∨ j = 5 ∨ j = 6 ∨ j = 7 ∨ j = 8 by omega) with rfl | rfl | rfl | rfl | rfl | rfl | rfl | rfl | rfl <;> rfl) (Nat.le_of_ble_eq_true rfl) (Nat.le_of_ble_eq_true rfl) dL_law_0 (fun h H hP hD hS => ?_)
  have hP : va_P D vwCl [(h, .inr (2, [.null, .null, .null, .null, .null, .null, .int 0, .int 0, .int 0]))] H := hP
  have hD : va_D (fun q => s.heap.size ≤ q) [(h, .inr (2, [.null, .null, .null, .null, .null, .null, .int 0, .int 0, .int 0]))] := hD
  refine lv_dup hx hb dL_law_3 rfl ?_
  have hPc := hP.sub (ws' := [(h, .inr (2, [.null, .null, .null, .null, .null, .null, .int 0, .int 0, .int 0]))]) [0] rfl
  have hDc := hD.sub (ws' := [(h, .inr (2, [.null, .null, .null, .null, .null, .null, .int 0, .int 0, .int 0]))]) [0] (by decide) rfl
  have hKc := hK.sub (tys' := []) [] rfl
  have hFc := va_free (wc := [(h, .inr (2, [.null, .null, .null, .null, .null, .null, .int 0, .int 0, .int 0]))]) hD hS hA [0] rfl
  refine va_callv (va_runI (As := []) (rest := [.ref h]) hF (c_X2_init l D h H.size) (cwI 0 hts gL_law_X2_init rfl rfl rfl (hts (.initialized RX2) (by decide +kernel)) (hts (.methodLink RL 56 yX2_init) (by decide +kernel)) (hts (.instanceMethod yX2_init) (by decide +kernel)) rfl (by decide +kernel) ⟨Nat.le_of_ble_eq_true rfl, Nat.le_of_ble_eq_true rfl⟩) ⟨fun a U g mk q => by obtain ⟨q0, q1, qP, qK, qD, qN⟩ := q; exact ⟨q0, q1, qP, va_K.moved (u := U) (U := U.calling g mk a) (Vm.Alike.refl U.vm) qK, qD, va_Nw.same rfl rfl qN⟩, fun U hU hW => ⟨rfl, by rw [hU], by rw [hU]; exact hPc, va_K.moved hW.alike hKc, hDc.weaken (fun _ _ _ _ => trivial), va_Nw.warmM hW hnest⟩⟩ rfl rfl hl.1 rfl (lv_room (Nat.le_of_ble_eq_true rfl)) dL_law_4 ⟨Nat.le_of_ble_eq_true rfl, Nat.le_of_ble_eq_true rfl⟩) hS (fun q _ h => hFc q h) hFc (fun u t H1 locs ht hvm hw hB hz1 hk1 hS => ?_)
  obtain ⟨cI, B, C, G, GB, GW, GR, TB, TC, TG, TGB, TGW, TGR, FR, CH⟩ := u
  obtain ⟨hP1, hK1, hD1⟩ := hB
  rw [ht] at hP1
  have hK1 := va_K.moved hvm.symm hK1
  dsimp only at hP1 hK1 hD1
  have hK : va_K D vwCl [(cI, .int)] s := hK1
  obtain ⟨hP, hD⟩ := va_join (wr := []) (w1 := [(h, .inr (2, [.ref B, .ref G, .ref TB, .ref TG, .ref FR, .ref CH, .int (iI ((0 : Nat) : Int)), .int (iI ((0 : Nat) : Int)), .int (iI ((0 : Nat) : Int))])), (B, .inr (0, [.ref C, .int (iI ((0 : Nat) : Int))])), (C, zArr cI 36 (fun _ => 0)), (G, .inr (1, [.ref GB, .ref GW, .ref GR])), (GB, zArr cI 64 (fun _ => 0)), (GW, zArr cI 64 (uZ (fun _ => 0) 0 ((1 : Nat) : Int))), (GR, zArr cI 6 (fun _ => 0)), (TB, .inr (0, [.ref TC, .int (iI ((0 : Nat) : Int))])), (TC, zArr cI 36 (fun _ => 0)), (TG, .inr (1, [.ref TGB, .ref TGW, .ref TGR])), (TGB, zArr cI 64 (fun _ => 0)), (TGW, zArr cI 64 (uZ (fun _ => 0) 0 ((1 : Nat) : Int))), (TGR, zArr cI 6 (fun _ => 0)), (FR, zArr cI 6 (fun _ => 0)), (CH, zArr cI 6 (fun _ => 0))]) hP hD [0] [] rfl rfl (by decide) (by decide) hk1 hFc hP1 hD1
  generalize H1 = H at hP hS ⊢
  have hP : va_P D vwCl [(h, .inr (2, [.ref B, .ref G, .ref TB, .ref TG, .ref FR, .ref CH, .int (iI ((0 : Nat) : Int)), .int (iI ((0 : Nat) : Int)), .int (iI ((0 : Nat) : Int))])), (B, .inr (0, [.ref C, .int (iI ((0 : Nat) : Int))])), (C, zArr cI 36 (fun _ => 0)), (G, .inr (1, [.ref GB, .ref GW, .ref GR])), (GB, zArr cI 64 (fun _ => 0)), (GW, zArr cI 64 (uZ (fun _ => 0) 0 ((1 : Nat) : Int))), (GR, zArr cI 6 (fun _ => 0)), (TB, .inr (0, [.ref TC, .int (iI ((0 : Nat) : Int))])), (TC, zArr cI 36 (fun _ => 0)), (TG, .inr (1, [.ref TGB, .ref TGW, .ref TGR])), (TGB, zArr cI 64 (fun _ => 0)), (TGW, zArr cI 64 (uZ (fun _ => 0) 0 ((1 : Nat) : Int))), (TGR, zArr cI 6 (fun _ => 0)), (FR, zArr cI 6 (fun _ => 0)), (CH, zArr cI 6 (fun _ => 0))] H := hP
  have hD : va_D (fun q => s.heap.size ≤ q) [(h, .inr (2, [.ref B, .ref G, .ref TB, .ref TG, .ref FR, .ref CH, .int (iI ((0 : Nat) : Int)), .int (iI ((0 : Nat) : Int)), .int (iI ((0 : Nat) : Int))])), (B, .inr (0, [.ref C, .int (iI ((0 : Nat) : Int))])), (C, zArr cI 36 (fun _ => 0)), (G, .inr (1, [.ref GB, .ref GW, .ref GR])), (GB, zArr cI 64 (fun _ => 0)), (GW, zArr cI 64 (uZ (fun _ => 0) 0 ((1 : Nat) : Int))), (GR, zArr cI 6 (fun _ => 0)), (TB, .inr (0, [.ref TC, .int (iI ((0 : Nat) : Int))])), (TC, zArr cI 36 (fun _ => 0)), (TG, .inr (1, [.ref TGB, .ref TGW, .ref TGR])), (TGB, zArr cI 64 (fun _ => 0)), (TGW, zArr cI 64 (uZ (fun _ => 0) 0 ((1 : Nat) : Int))), (TGR, zArr cI 6 (fun _ => 0)), (FR, zArr cI 6 (fun _ => 0)), (CH, zArr cI 6 (fun _ => 0))] := hD
  refine lv_astore_n (lv' := [(1, .ref h), (0, .ref b)]) hx hb dL_law_7 rfl hl (by decide) rfl (fun ls hl => ?_)
  have hAO : va_AOA .int s := ⟨_, htt (.arrayOver (.array .int)) (by decide +kernel)⟩
  have hE : qEx s := ⟨hAO, va_Nw.of rfl (htt (.castable "[I" "java/lang/Cloneable") (by decide +kernel))⟩
  have hnestB : va_Nw (.methodLinkNest RL 47 yX3_init RL) s := va_Nw.of rfl (htt (.methodLinkNest RL 47 yX3_init RL) (by decide +kernel))
  obtain ⟨comp, cO, kO, f1, f2, f3, f4, f5⟩ := arrayOverA_spec (hAO.use (x := #[]))
  have hK : va_K D vwCl (qTy cI cO) s := ⟨hK.1, fun k q hk => by
    match k, hk with
    | 0, hk => cases hk; exact hK.2 0 _ rfl
    | 1, hk => cases hk; exact ⟨fun N z => ⟨(fun k h => by cases h), kO, f3, comp, f4⟩, f5⟩
    | k + 2, hk => simp at hk⟩
  refine W.widen (k := 47) (n := 8 * 47) (Nat.le_of_ble_eq_true rfl) (Nat.le_of_ble_eq_true rfl) ?_
  have hP : va_P D vwCl ([(h, .inr (2, [.ref B, .ref G, .ref TB, .ref TG, .ref FR, .ref CH, .int (iI (((0 : Nat) : Int))), .int (iI (((0 : Nat) : Int))), .int (iI (((0 : Nat) : Int)))])), (B, .inr (0, [.ref C, .int (iI ((0 : Nat) : Int))])), (C, zArr cI 36 (fun _ => 0)), (G, .inr (1, [.ref GB, .ref GW, .ref GR])), (GB, zArr cI 64 (fun _ => 0)), (GW, zArr cI 64 (uZ (fun _ => 0) 0 ((1 : Nat) : Int))), (GR, zArr cI 6 (fun _ => 0)), (TB, .inr (0, [.ref TC, .int (iI ((0 : Nat) : Int))])), (TC, zArr cI 36 (fun _ => 0)), (TG, .inr (1, [.ref TGB, .ref TGW, .ref TGR])), (TGB, zArr cI 64 (fun _ => 0)), (TGW, zArr cI 64 (uZ (fun _ => 0) 0 ((1 : Nat) : Int))), (TGR, zArr cI 6 (fun _ => 0)), (FR, zArr cI 6 (fun _ => 0)), (CH, zArr cI 6 (fun _ => 0))] ++ []) H := hP
  have hD : va_D (fun q => s.heap.size ≤ q) ([(h, .inr (2, [.ref B, .ref G, .ref TB, .ref TG, .ref FR, .ref CH, .int (iI (((0 : Nat) : Int))), .int (iI (((0 : Nat) : Int))), .int (iI (((0 : Nat) : Int)))])), (B, .inr (0, [.ref C, .int (iI ((0 : Nat) : Int))])), (C, zArr cI 36 (fun _ => 0)), (G, .inr (1, [.ref GB, .ref GW, .ref GR])), (GB, zArr cI 64 (fun _ => 0)), (GW, zArr cI 64 (uZ (fun _ => 0) 0 ((1 : Nat) : Int))), (GR, zArr cI 6 (fun _ => 0)), (TB, .inr (0, [.ref TC, .int (iI ((0 : Nat) : Int))])), (TC, zArr cI 36 (fun _ => 0)), (TG, .inr (1, [.ref TGB, .ref TGW, .ref TGR])), (TGB, zArr cI 64 (fun _ => 0)), (TGW, zArr cI 64 (uZ (fun _ => 0) 0 ((1 : Nat) : Int))), (TGR, zArr cI 6 (fun _ => 0)), (FR, zArr cI 6 (fun _ => 0)), (CH, zArr cI 6 (fun _ => 0))] ++ []) := hD
  have hbA : ¬ (fun q => s.heap.size ≤ q) b := Nat.not_le.mpr hbl
  have hset : zSet 0 (fun _ => 0) ((0 : Nat) : Int) (fun _ => 0) (uZ (fun _ => 0) 0 ((1 : Nat) : Int)) (fun _ => 0) (fun _ => 0) ((0 : Nat) : Int) ((0 : Nat) : Int) := ⟨⟨by decide, by decide, fun j hj => absurd hj (Nat.not_lt_zero _)⟩, fun j hj => absurd hj (Nat.not_lt_zero _), by decide, by decide⟩
  refine lv_aload_n hx hb dL_law_8 rfl (lv_at hl 0 rfl) ?_
  refine lv_aload_n hx hb dL_law_9 rfl (lv_at hl 1 rfl) ?_
  refine zc_qqX (As := [.ref h, .ref b]) (rest := []) hF (c_L_build l D cI cO b L xs h B C G GB GW GR TB TG FR CH (fun _ => 0) (fun _ => 0) (uZ (fun _ => 0) 0 ((1 : Nat) : Int)) (fun _ => 0) (fun _ => 0) ((0 : Nat) : Int) ((0 : Nat) : Int) hL (fun _ => ⟨Int.le_refl _, by decide⟩) hset _) (va_cwS 2 hts gL_law_L_build rfl rfl rfl (by decide +kernel) ⟨Nat.le_of_ble_eq_true rfl, Nat.le_of_ble_eq_true rfl⟩) hK hE hS (qCut_no (Xc := [(h, .inr (2, [.ref B, .ref G, .ref TB, .ref TG, .ref FR, .ref CH, .int (iI (((0 : Nat) : Int))), .int (iI (((0 : Nat) : Int))), .int (iI (((0 : Nat) : Int)))])), (B, .inr (0, [.ref C, .int (iI ((0 : Nat) : Int))])), (C, zArr cI 36 (fun _ => 0)), (G, .inr (1, [.ref GB, .ref GW, .ref GR])), (GB, zArr cI 64 (fun _ => 0)), (GW, zArr cI 64 (uZ (fun _ => 0) 0 ((1 : Nat) : Int))), (GR, zArr cI 6 (fun _ => 0)), (FR, zArr cI 6 (fun _ => 0))]) (Xr := [(TB, .inr (0, [.ref TC, .int (iI ((0 : Nat) : Int))])), (TC, zArr cI 36 (fun _ => 0)), (TG, .inr (1, [.ref TGB, .ref TGW, .ref TGR])), (TGB, zArr cI 64 (fun _ => 0)), (TGW, zArr cI 64 (uZ (fun _ => 0) 0 ((1 : Nat) : Int))), (TGR, zArr cI 6 (fun _ => 0)), (CH, zArr cI 6 (fun _ => 0))]) hP hD hS hA [0, 1, 2, 3, 4, 5, 6, 13] [7, 8, 9, 10, 11, 12, 14] rfl rfl (by decide) (by decide) (by decide) 15 rfl (by decide) (by decide)) hX hbl hbA hnestB rfl hl.1 rfl (Nat.le_of_ble_eq_true rfl) dL_law_10 ⟨Nat.le_of_ble_eq_true rfl, Nat.le_of_ble_eq_true rfl⟩ (fun r u H locs hw hP hD hS => ?_)
  obtain ⟨S, n1, b1, rc1, bo1, wo1, ro1, fr1, sh1, po1, O1, R1, vr1, ve1, vb1, wv1, yv1, pv1⟩ := u
  obtain ⟨rfl, ⟨h1, h5⟩, hb1, hrc1, hset1⟩ := hw
  rw [List.append_nil] at hP hD
  refine lv_astore_n (lv' := [(2, .ref S), (1, .ref h), (0, .ref b)]) hx hb dL_law_13 rfl hl (by decide) rfl (fun ls hl => ?_)
  refine lv_aload_n hx hb dL_law_14 rfl (lv_at hl 0 rfl) ?_
  refine lv_ifnonnull (tgt := 20) hx hb dL_law_15 (by decide) ?_
  exact law_loop D cI cO b L xs h B C G GB GW GR TB TG FR CH TC TGB TGW TGR S (fun _ => 0) hF hK hE hA hX hbl hbA hL (fun H locs ls hS => va_forget (fun q hq => hS.2.2 q hq) (W.widen (k := 658205) (n := 7126853) (Nat.le_of_ble_eq_true rfl) (Nat.le_of_ble_eq_true rfl) (W.base (lw_ret (Drawn.sameBut.refl s.drawn lw_cs) hx hb hr hlocks dL_law_739)))) n1 b1 rc1 bo1 wo1 ro1 fr1 sh1 po1 O1 R1 vr1 ve1 vb1 wv1 yv1 pv1 0 (fun _ => 0) (fun _ => 0) (uZ (fun _ => 0) 0 ((1 : Nat) : Int)) (fun _ => 0) h1 h5 hb1 hrc1 hset1 H locs ls hP hD hS (lv_sub hl [2, 1, 0] rfl)
