/-! THE LAW: rows -/
theorem zXL_at {A : Nat → Prop} {s U : State} {H : Heap} {locs : List Loc} (hA : ∀ q, s.heap.size ≤ q → A q) (hA2 : ∀ q, A q → s.heap.size ≤ q) (hX : zXL A s) (hS : va_S A s.heap H locs) (hW : s.WarmedH U.vm) (hh : U.heap = H) : zXL (fun q => H.size ≤ q) U := by
  obtain ⟨⟨h1, h2, h3, h4⟩, h5⟩ := hX
  have hn : ∀ q, H.size ≤ q → A q := fun q hq => hA q (Nat.le_trans hS.1 hq)
  refine ⟨⟨⟨fun E hE => va_Nw.warmC hW (h1.1 E hE), fun Y hY => va_Nw.warmD hW (h1.2 Y hY)⟩, fun q hq => ?_, ?_, ?_⟩, va_Nc.moved hW.alike h5⟩
  · obtain ⟨sa, h⟩ := h2 q hq
    exact ⟨sa, vk_R.warm hW h⟩
  · rw [hh]; exact vx_Zq.moved hW.alike ((h3.kept hS.2.1).narrow hn)
  · rw [hh]; exact vx_Zq.moved hW.alike ((h4.kept hS.2.1).narrow hn)
section ZLC
variable {p : Program} {l : Launch} {e : Env} {R : Room} {s : State} {m : MethodId} {args : Array Value} {below : List Frame} {meth : Method} {c : Code} {H : Heap} {locs : List Loc} {cells slots : Nat} {Q : State → Prop}
variable {cc bytes : ByteArray} {pc nL n maxL index fr lo : Nat} {ls : Array Slot} {rest st0 : List Value} {D : va_G} {cI cJ : ClassId} {ws wc : va_W} {A : Nat → Prop} {H0 : Heap} {wds Ts : List Cond} {own C : String} {y : MethodName} {ret : Option FieldType} {b ci q0 : Nat} {As : List Value} {fs : List Value} {cq : vw_C} {hh : List (Nat × Nat × Nat × Nat)}
/-- a helper of the law, where the class answers -/
theorem zc_Ls {post : Int32 → zVU → Prop} {out : zVU → va_W} (hF : zFix p m c cc nL s args Ts own) (hM : zLs l y wds fr lo D cI cJ As wc post out) (cw : vx_CSW R s args own index y bytes maxL ret hh wds (zRm fr lo) 0 0 n)
    (hK : va_K D vwCl [(cI, .int), (cJ, .long)] s) (hP : va_P D vwCl ws H) (hD : va_D A ws) (hS : va_S A H0 H locs) (is : List Nat) (hn0 : va_nd is = true) (hs : is.map (fun i => ws[i]?) = wc.map some) (hadr : ∀ u, (out u).map Prod.fst = wc.map Prod.fst)
    (hn : As.length = n) (hl : ls.size = nL) (hst : st0 = As.reverse ++ rest) (hW : (rest.map fun v => v.category).sum ≤ 8) (hdg : decode cc pc = .ok (.invokestatic index, 3)) (hf : cells ≤ R.cells ∧ slots ≤ R.slots)
    (kk : ∀ (r : Int32) (u : zVU) (H1 : Heap) (locs1 : List Loc), post r u → va_P D vwCl (zUp ws is (out u)) H1 → va_D A (zUp ws is (out u)) → va_S A H0 H1 locs1 → W p l e R s m args below meth c H1 locs1 cells slots Q (F0 m (pc + 3) ls (.int r :: rest))) : W p l e R s m args below meth c H locs cells slots Q (F0 m pc ls st0) := by
  have hDc : va_D A wc := hD.sub is hn0 hs
  have hPc : va_P D vwCl wc H := fun k q h => by
    obtain ⟨i, -, h2⟩ := z_at hs h
    exact hP i q h2
  have hfr := zA_free hD is hs
  refine va_calli (vx_runSW (As := As) (rest := rest) hF hM cw ⟨zPJ_blind, fun U hU hW => ⟨rfl, by rw [hU]; exact hPc, va_K.moved hW.alike hK, hDc.weaken (fun _ _ _ _ => trivial)⟩⟩ rfl hn hl hst (lv_room hW) hdg ⟨hf.1, hf.2⟩) hS (fun q _ h => hfr q h) hfr (fun r u t H1 locs1 ht hvm hw hB hz1 hk1 hS1 => ?_)
  rw [ht] at hB
  obtain ⟨g1, g2⟩ := z_join hP hD is hs (hadr u) hk1 hB
  exact kk r u H1 locs1 hw g1 g2 hS1
/-- and where it throws -/
theorem zc_Lx {k : Int} (hF : zFix p m c cc nL s args Ts own) (hM : zLx l y wds fr lo D cI cJ As wc k) (cw : vx_CSW R s args own index y bytes maxL ret hh wds (zXR fr lo) 1 6 n) (hX : ∀ U : State, U.heap = H → s.WarmedH U.vm → zXL (fun q => H.size ≤ q) U)
    (hK : va_K D vwCl [(cI, .int), (cJ, .long)] s) (hP : va_P D vwCl ws H) (hD : va_D A ws) (hS : va_S A H0 H locs) (hA : ∀ q, H0.size ≤ q → A q) (is : List Nat) (hs : is.map (fun i => ws[i]?) = wc.map some)
    (hn : As.length = n) (hl : ls.size = nL) (hst : st0 = As.reverse ++ rest) (hW : (rest.map fun v => v.category).sum ≤ 8) (hdg : decode cc pc = .ok (.invokestatic index, 3)) (hf : cells + 1 ≤ R.cells ∧ slots + 6 ≤ R.slots)
    (kk : ∀ (H1 : Heap) (locs1 : List Loc), va_P D vwCl ws H1 → va_S A H0 H1 locs1 → W p l e R s m args below meth c H1 locs1 (cells + 1) (slots + 6) Q (F0 m (pc + 3) ls (.int (iI k) :: rest))) : W p l e R s m args below meth c H locs cells slots Q (F0 m pc ls st0) := by
  have hPc : va_P D vwCl wc H := fun k q h => by
    obtain ⟨i, -, h2⟩ := z_at hs h
    exact hP i q h2
  have hfr : ∀ q, H.size ≤ q → A q := fun q h => hA q (Nat.le_trans hS.1 h)
  refine va_calli (vx_runSW (As := As) (rest := rest) hF (hM H.size) cw ⟨zXJ_blind, fun U hU hW => ⟨rfl, by rw [hU], by rw [hU]; exact hPc, va_K.moved hW.alike hK, hX U hU hW⟩⟩ rfl hn hl hst (lv_room hW) hdg ⟨hf.1, hf.2⟩) hS (fun q _ h => hfr q h) hfr (fun r u t H1 locs1 ht hvm hw hB hz1 hk1 hS1 => ?_)
  have hw : r = iI k := hw
  subst hw
  exact kk H1 locs1 (fun j q h => (hP j q h).kept (hk1 q.1 (hP j q h).lt (Nat.not_le.mpr (hP j q h).lt))) hS1
/-- an int of the script -/
theorem zr_sld {sb L : Nat} {xs : Nat → Int32} (hx : p.tables.exec = Jvm.exec) (hb : c.code = cc) (hX : va_X sb L xs s H0) (hbl : sb < H0.size) (hbA : ¬ A sb) (hS : va_S A H0 H locs) (hL : L ≤ 2048) {j : Nat} (hj : j < L) (hdg : decode cc pc = .ok (.iaload, 1))
    (kk : W p l e R s m args below meth c H locs cells slots Q (F0 m (pc + 1) ls (.int (iI (xs j).toInt) :: rest))) : W p l e R s m args below meth c H locs cells slots Q (F0 m pc ls (.int (iI ((j : Nat) : Int)) :: .ref sb :: rest)) := by
  have hB : zB ((j : Nat) : Int) := zB_nat (by omega)
  refine va_sld hx hb hX hbl hbA hS (iI_in hB (by omega) (by omega)) hdg ?_
  rw [iI_clamp hB, Int.toNat_natCast]
  rw [show iI (xs j).toInt = xs j from Int32.ofInt_toInt (xs j)] at kk
  exact kk
theorem zr_lald0 {f : Nat → Int64} {ws : va_W} (hx : p.tables.exec = Jvm.exec) (hb : c.code = cc) (hK : va_K D vwCl [(cI, .int), (cJ, .long)] s) (hP : va_P D vwCl ws H) (q0 : Nat) {a : Nat} (ha : ws[q0]? = some (a, .inl (cJ, 1, .inr (.inl f)))) (hdg : decode cc pc = .ok (.laload, 1))
    (kk : W p l e R s m args below meth c H locs cells slots Q (F0 m (pc + 1) ls (.long (f 0) :: rest))) : W p l e R s m args below meth c H locs cells slots Q (F0 m pc ls (.int (iI ((0 : Nat) : Int)) :: .ref a :: rest)) :=
  va_lald hx hb hK hP q0 1 ha rfl zIn01 hdg kk
/-- two longs which are the same -/
theorem zr_lcmpE {x y : Int64} {off : Int} {tgt : Nat} (hx : p.tables.exec = Jvm.exec) (hb : c.code = cc) (h : x = y) (hdg : decode cc pc = .ok (.lcmp, 1)) (hdg2 : decode cc (pc + 1) = .ok (.ifCond .eq off, 3)) (ht : ((pc + 1 : Nat) : Int) + off = (tgt : Int))
    (kk : W p l e R s m args below meth c H locs cells slots Q (F0 m tgt ls rest)) : W p l e R s m args below meth c H locs cells slots Q (F0 m pc ls (.long y :: .long x :: rest)) := by
  subst h
  refine W.lcmp hx hb hdg ?_
  have hv : lg_cmp x x = 0 := by
    have h1 : ¬ x < x := by rw [Int64.lt_iff_toInt_lt]; omega
    unfold lg_cmp
    simp [h1]
  refine lv_if_eq hx hb hdg2 ht (fun _ => kk) (fun q => absurd hv q)
end ZLC
/-- what holds all along the law: nothing of it changes -/
def zLC (p : Program) (l : Launch) (m : MethodId) (c : Code) (s : State) (args : Array Value) (sb L : Nat) (xs : Nat → Int32) : Prop := l.stackTraces = false ∧ zFix p m c cL_law 9 s args wsL_law RL ∧ va_X sb L xs s s.heap ∧ sb < s.heap.size ∧ L ≤ 2048 ∧ zXL (fun q => s.heap.size ≤ q) s
/-- and what holds at the head of its loop -/
def zLI (s : State) (D : va_G) (cI cJ : ClassId) (sb h B C G GB GW GR TB TC TG TGB TGW TGR FR CH J M MB MR ME MZ MT : Nat) (k n : Nat) (b : Nat → Int) (rc : Int) (u : zVU) (v : zMU) (H : Heap) (locs : List Loc) (ls : Array Slot) : Prop := n ≤ 6 ∧ (∀ k, 0 ≤ b k ∧ b k ≤ 999) ∧ (0 ≤ rc ∧ rc ≤ 5999) ∧ zStd n b rc u ∧ (0 ≤ v.2.2.2.2.1 ∧ v.2.2.2.2.1 ≤ 1) ∧ va_K D vwCl [(cI, .int), (cJ, .long)] s ∧ va_P D vwCl (zXW h B C G GB GW GR TB TC TG TGB TGW TGR FR CH J cI cJ n b rc u ++ zMW M MB MR ME MZ MT cI n b rc v) H ∧ va_D (fun q => s.heap.size ≤ q) (zXW h B C G GB GW GR TB TC TG TGB TGW TGR FR CH J cI cJ n b rc u ++ zMW M MB MR ME MZ MT cI n b rc v) ∧ va_S (fun q => s.heap.size ≤ q) s.heap H locs ∧ lv_has ls 9 [(0, .ref sb), (1, .ref h), (2, .ref M), (3, .ref J), (4, .int (iI ((4 * k : Nat) : Int)))]
