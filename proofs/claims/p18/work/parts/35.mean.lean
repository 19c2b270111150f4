/-! p18: a method that reads and answers a double -/
def zRd (l : Launch) (y : MethodName) (wds : List Cond) (fr lo : Nat) (D : va_G) (cI : ClassId) (av : List Value) (ws : va_W) (r : UInt64) : Prop := Met l y wds (zRm fr lo) (va_Pc av (zP D cI ws)) (vp_Sd (fun x => x = r)) 0 0 (fun _ => False)
theorem zRd_of {l : Launch} {y : MethodName} {wds wds' : List Cond} {fr lo : Nat} {D : va_G} {cI : ClassId} {av : List Value} {ws : va_W} {cc : ByteArray} {maxL : Nat} {rt : FieldType} {r : UInt64} (hy : plainName y.cls = true) (hw : wds = Cond.code y cc maxL (some rt) :: wds') (hav : (lg_sl av).length ≤ maxL)
    (body : ∀ p e s m args below meth c ls, zFix p m c cc maxL s args wds y.cls → meth.sig.returnType = some rt → meth.locks = false → va_P D vwCl ws s.heap → va_K D vwCl [(cI, .int)] s → lv_has ls maxL (lv_args 0 av) →
      W p l e (zRm fr lo) s m args below meth c s.heap [] 0 0 (MQ below (vp_Sd (fun x => x = r)) args s 0 0 (fun _ => False)) (F0 m 0 ls [])) : zRd l y wds fr lo D cI av ws r := by
  refine Met.ofW (cc := cc) (maxL := maxL) (ret := some rt) hy hw ?_
  intro p e s m args below meth c s₁ B hml hv
  obtain ⟨rfl, hP, hK⟩ := hv
  have hl := lv_entry av (n := maxL) hav
  rw [lg_entry_eq]
  exact body p e s m _ below meth c _ ⟨B.exec, B.bytes, hml, findClass_of_methodNamed B.named, atoms_spec (ws := wds) B.pre⟩ B.returns B.notSynchronized hP hK hl
section ZRD
variable {p : Program} {l : Launch} {e : Env} {R0 : Room} {s : State} {m : MethodId} {args : Array Value} {below : List Frame} {meth : Method} {c : Code} {H : Heap} {locs : List Loc} {cells slots : Nat} {Q : State → Prop}
variable {cc bytes : ByteArray} {pc nL n maxL index fr lo : Nat} {ls : Array Slot} {rest st0 : List Value} {D : va_G} {cI : ClassId} {tys : List (ClassId × FieldType)} {ws wc : va_W} {wds Ts : List Cond} {own C : String} {y : MethodName} {ret : Option FieldType} {b ci : Nat} {As : List Value} {fs : List Value} {cq : vw_C}
theorem zRd_ret {r x : UInt64} (hx : p.tables.exec = Jvm.exec) (hb : c.code = cc) (hr : meth.sig.returnType = some .double) (hlocks : meth.locks = false) (hdg : decode cc pc = .ok (.dreturn, 1)) (h : x = r) : W p l e R0 s m args below meth c s.heap [] cells slots (MQ below (vp_Sd (fun x => x = r)) args s cells slots (fun _ => False)) (F0 m pc ls [.double x]) :=
  W.dret hx hb hr (fun t ht _ => ⟨x, rfl, h, ht⟩) (fun q hq => by cases hq) hdg hlocks
theorem z_sd {post : UInt64 → Prop} {a : Array Value} (hr : va_Run p l e R0 s m args below meth c H locs cells slots 0 0 (F0 m pc ls st0) rest (vp_Sd post a) (fun _ => False))
    (kk : ∀ r : UInt64, post r → W p l e R0 s m args below meth c H locs cells slots Q (F0 m (pc + 3) ls (.double r :: rest))) : W p l e R0 s m args below meth c H locs cells slots Q (F0 m pc ls st0) := by
  intro T hT X
  obtain ⟨v, st₀, t, T', L, h0, X', hL, e1, -, ⟨r, hv, hp, hh⟩, st⟩ := hr T hT X
  cases hv
  obtain ⟨t2, a1, b1⟩ := kk r hp T' (by rw [e1, hh, h0]) (Stand.forget X' (fun q h => (hL q h).elim))
  exact ⟨t2, st t2 a1, b1⟩
theorem zc_rd {r : UInt64} (hF : zFix p m c cc nL s args Ts own) (hM : zRd l y wds fr lo D cI (.ref b :: As) wc r) (cw : CallW R0 s args own C index y bytes maxL ret wds (zRm fr lo) 0 0 n)
    (hK : va_K D vwCl tys s) (hP : va_P D vwCl ws H) (is : List Nat) (hs : is.filterMap (fun i => ws[i]?) = wc) (t0 : Nat) (ht0 : tys[t0]? = some (cI, .int)) (q0 : Nat) (he : wc[q0]? = some (b, .inr (ci, fs))) (hc : vwCl[ci]? = some cq) (hCq : cq.1 = C)
    (hn : As.length = n) (hl : ls.size = nL) (hst : st0 = As.reverse ++ .ref b :: rest) (hW : (rest.map fun v => v.category).sum ≤ 8) (hdg : decode cc pc = .ok (.invokevirtual index, 3)) (hf : cells ≤ R0.cells ∧ slots ≤ R0.slots)
    (kk : W p l e R0 s m args below meth c H locs cells slots Q (F0 m (pc + 3) ls (.double r :: rest))) : W p l e R0 s m args below meth c H locs cells slots Q (F0 m pc ls st0) := by
  subst hCq
  have hPc : va_P D vwCl wc H := hP.sub is hs
  have hKc := z_tys hK t0 ht0
  refine z_sd (va_runV (As := As) (rest := rest) hF hM cw ⟨zP_blind, va_recv hK hPc hc he, fun U hU hW => ⟨rfl, by rw [hU]; exact hPc, va_K.moved hW.alike hKc⟩⟩ rfl hn hl hst (lv_room hW) hdg ⟨hf.1, hf.2⟩) (fun r' h => ?_)
  subst h
  exact kk
end ZRD
set_option maxHeartbeats 4000000 in
set_option maxRecDepth 100000 in
/-- X2_mean, for one lodger at least -/
theorem c_X2_meanR (l : Launch) (D : va_G) (cI : ClassId) (h B C G GB GW GR TB TG FR CH n : Nat) (b bo wo ro fr : Nat → Int) (rc sh po : Int)  (hn : n ≤ 6) (h5 : n ≤ 5) (h1 : 1 ≤ n) (hb0 : ∀ k, 0 ≤ b k ∧ b k ≤ 999) (hrc : 0 ≤ rc ∧ rc ≤ 5999) (hset : zSet n b rc bo wo ro fr sh po)  : zRd l yX2_mean wsX2_mean 5 107 D cI [.ref h] [(h, .inr (2, [.ref B, .ref G, .ref TB, .ref TG, .ref FR, .ref CH, .int (iI (rc)), .int (iI (sh)), .int (iI (po))])), (B, .inr (0, [.ref C, .int (iI ((n : Nat) : Int))])), (C, zArr cI 36 b), (G, .inr (1, [.ref GB, .ref GW, .ref GR])), (GB, zArr cI 64 bo), (GW, zArr cI 64 wo), (GR, zArr cI 6 ro), (FR, zArr cI 6 fr)] (FP.ddiv (FP.i2d (iI (zTo n b rc fr 6))) (FP.i2d (iI ((n : Nat) : Int)))) := by
  refine zRd_of (cc := cX2_mean) (maxL := 2) (rt := .double) (by decide) rfl (Nat.le_of_ble_eq_true rfl) ?_
  intro p e s m args below meth c ls hF hr hlocks hP hK hl
  have hF : zFix p m c cX2_mean 2 s args wsX2_mean RX2 := hF
  obtain ⟨hx, hb, hml, hown, hts⟩ := id hF
  have hP : va_P D vwCl [(h, .inr (2, [.ref B, .ref G, .ref TB, .ref TG, .ref FR, .ref CH, .int (iI (rc)), .int (iI (sh)), .int (iI (po))])), (B, .inr (0, [.ref C, .int (iI ((n : Nat) : Int))])), (C, zArr cI 36 b), (G, .inr (1, [.ref GB, .ref GW, .ref GR])), (GB, zArr cI 64 bo), (GW, zArr cI 64 wo), (GR, zArr cI 6 ro), (FR, zArr cI 6 fr)] s.heap := hP
  have hl : lv_has ls 2 [(0, .ref h)] := hl
  have hro := zSet_ro hset
  have hgn := zRo_lt (b := b) hn
  have hsh : sh = zSh0 n b rc fr := hset.2.2.1
  refine lv_aload_n hx hb dX2_mean_0 rfl (lv_at hl 0 rfl) ?_
  refine va_get (D := D) (ci := 2) (v := .ref B) (C := RX2) (T := TX2) (N := 9) hx hb hts (by decide +kernel) hown hK hP 0 rfl rfl 0 (by decide) (hts (.fieldLink RX2 10 "RentHarmony" "bids" "LRentHarmony$Bids;") (by decide +kernel)) (fun _ h9 => h9) rfl dX2_mean_1 ?_
  refine zc_ri (As := []) (rest := []) hF (c_X0_size l D cI B C n b ) (cwV 0 hts gX2_mean_X0_size rfl rfl rfl (by decide +kernel) ⟨Nat.le_of_ble_eq_true rfl, Nat.le_of_ble_eq_true rfl⟩) hK hP [1, 2] rfl 0 rfl 0 rfl rfl rfl rfl hl.1 rfl (Nat.le_of_ble_eq_true rfl) dX2_mean_4 ⟨Nat.zero_le _, Nat.zero_le _⟩ ?_
  refine lv_istore_n (lv' := [(1, .int (iI ((n : Nat) : Int))), (0, .ref h)]) hx hb dX2_mean_7 rfl hl (by decide) rfl (fun ls hl => ?_)
  refine lv_iload_n hx hb dX2_mean_8 rfl (lv_at hl 0 rfl) ?_
  refine zr_if_ne (tgt := 14) hx hb dX2_mean_9 (by decide) (zB_of (by omega) (by omega)) (fun c1 => ?_) (fun c1 => ?_)
  · refine lv_aload_n hx hb dX2_mean_14 rfl (lv_at hl 1 rfl) ?_
    refine zc_ri (As := []) (rest := []) hF (c_X2_allPays l D cI h B C G GB GW GR TB TG FR CH n b bo wo ro fr rc sh po (zRo n b) (by omega) (by assumption) (by assumption) (by assumption)) (cwV 0 hts gX2_mean_X2_allPays rfl rfl rfl (by decide +kernel) ⟨Nat.le_of_ble_eq_true rfl, Nat.le_of_ble_eq_true rfl⟩) hK hP [0, 1, 2, 3, 4, 5, 6, 7] rfl 0 rfl 0 rfl rfl rfl rfl hl.1 rfl (Nat.le_of_ble_eq_true rfl) dX2_mean_15 ⟨Nat.zero_le _, Nat.zero_le _⟩ ?_
    refine zr_topi (show (zSum (zPay b (zRo n b) fr sh) n) = (zTo n b rc fr 6) from (by rw [hsh]; rfl)) ?_
    refine lv_i2d hx hb dX2_mean_18 ?_
    refine lv_iload_n hx hb dX2_mean_19 rfl (lv_at hl 0 rfl) ?_
    refine lv_i2d hx hb dX2_mean_20 ?_
    refine lv_ddiv hx hb dX2_mean_21 (qVf (qN0 h1 h5)) ?_
    exact zRd_ret hx hb hr hlocks dX2_mean_22 rfl
  · exact absurd c1 (by omega)
