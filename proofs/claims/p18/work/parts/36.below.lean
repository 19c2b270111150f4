/-! p18: the law's below and cell -/
theorem qAnd (v : Int32) : ∃ z : Int, 0 ≤ z ∧ zB z ∧ (v &&& 2147483647) = iI z := by
  refine ⟨(v &&& 2147483647).toInt, ?_, ⟨by have := (v &&& 2147483647).le_toInt; omega, by have := (v &&& 2147483647).toInt_lt; omega⟩, (Int32.ofInt_toInt _).symm⟩
  show 0 ≤ (v &&& 2147483647).toBitVec.toInt
  rw [BitVec.toInt_eq_msb_cond]
  have hm : (v &&& 2147483647).toBitVec.msb = false := by
    rw [Int32.toBitVec_and, BitVec.msb_and]
    have : (2147483647 : Int32).toBitVec.msb = false := by decide
    rw [this, Bool.and_false]
  rw [hm]
  simp
theorem qRem {z : Int} {n : Nat} (h0 : 0 ≤ z) (hz : zB z) (h1 : 1 ≤ n) (hn : n ≤ 2147483647) : ∃ r : Nat, r < n ∧ iI z - iI z / iI (n : Int) * iI (n : Int) = iI (r : Int) := by
  refine ⟨(z % (n : Int)).toNat, ?_, ?_⟩
  · have h2 := Int.emod_lt_of_pos z (show (0 : Int) < n by omega)
    have h3 := Int.emod_nonneg z (show (n : Int) ≠ 0 by omega)
    omega
  · have h3 := Int.emod_nonneg z (show (n : Int) ≠ 0 by omega)
    rw [iI_div hz (zB_nat hn) h0 (by omega), iI_mul, iI_sub, Int.toNat_of_nonneg h3, Int.emod_def, Int.mul_comm]
def qBl (l : Launch) (v : Int32) (n : Nat) : Prop := Met l yL_below wsL_below (zRm 1 0) (va_Pc [.int v, .int (iI (n : Int))] (fun _ => True)) (vp_Si (fun x => ∃ r : Nat, r < n ∧ x = iI (r : Int))) 0 0 (fun _ => False)
theorem c_L_below (l : Launch) (v : Int32) (n : Nat) (h1 : 1 ≤ n) (hn : n ≤ 2147483647) : qBl l v n := by
  refine Met.ofW (cc := cL_below) (maxL := 2) (ret := some .int) (by decide) rfl ?_
  intro p e s m args below meth c s₁ B hml hv
  obtain ⟨rfl, -⟩ := hv
  have hx := B.exec
  have hb := B.bytes
  have hr := B.returns
  have hlocks := B.notSynchronized
  have hts := atoms_spec (ws := wsL_below) B.pre
  have hown : s.vm.findClass RL = some m.cls := findClass_of_methodNamed B.named
  have hl := lv_entry [.int v, .int (iI (n : Int))] (n := 2) (Nat.le_of_ble_eq_true rfl)
  rw [lg_entry_eq]
  generalize (lg_sl ([.int v, .int (iI (n : Int))]) ++ List.replicate (2 - (lg_sl ([.int v, .int (iI (n : Int))])).length) Slot.unset).toArray = ls at hl ⊢
  have hl : lv_has ls 2 [(0, .int v), (1, .int (iI (n : Int)))] := hl
  obtain ⟨z, h0, hz, ez⟩ := qAnd v
  obtain ⟨r, hrn, er⟩ := qRem h0 hz h1 hn
  refine lv_iload_n hx hb dL_below_0 rfl (lv_at hl 0 rfl) ?_
  refine lv_ldc hx hb hown (hts (.constant RL 7 (2147483647)) (by decide +kernel)) dL_below_1 ?_
  refine lv_iand hx hb dL_below_3 ?_
  refine zr_top (w := .int (iI z)) (by rw [ez]) ?_
  refine lv_iload_n hx hb dL_below_4 rfl (lv_at hl 1 rfl) ?_
  refine lv_irem hx hb dL_below_5 (fun h => by have h2 := (iI_eq (zB_nat hn) zB_0).mp h; omega) ?_
  rw [er]
  exact W.iret hx hb hr (fun t ht _ => ⟨_, rfl, ⟨r, hrn, rfl⟩, ht⟩) (fun q hq => by cases hq) dL_below_6 hlocks
def qCe (l : Launch) (sb L : Nat) (xs : Nat → Int32) (k : Nat) : Prop := Met l yL_cell wsL_cell (zRm 1 0) (va_Pc [.ref sb, .int (iI (k : Int))] (fun U => va_X sb L xs U U.heap)) (vp_Si (fun _ => True)) 0 0 (fun _ => False)
theorem c_L_cell (l : Launch) (sb L : Nat) (xs : Nat → Int32) (k : Nat) (hL : L ≤ 260) (hk : k ≤ 1000) : qCe l sb L xs k := by
  refine Met.ofW (cc := cL_cell) (maxL := 2) (ret := some .int) (by decide) rfl ?_
  intro p e s m args below meth c s₁ B hml hv
  obtain ⟨rfl, hX⟩ := hv
  have hx := B.exec
  have hb := B.bytes
  have hr := B.returns
  have hlocks := B.notSynchronized
  have hts := atoms_spec (ws := wsL_cell) B.pre
  have hown : s.vm.findClass RL = some m.cls := findClass_of_methodNamed B.named
  have hbl : sb < s.heap.size := by
    obtain ⟨scr, h1, -⟩ := hX
    exact (Array.getElem?_eq_some_iff.mp h1).1
  have hS : va_S (fun _ => False) s.heap s.heap [] := va_S.rf
  have hl := lv_entry [.ref sb, .int (iI (k : Int))] (n := 2) (Nat.le_of_ble_eq_true rfl)
  rw [lg_entry_eq]
  generalize (lg_sl ([.ref sb, .int (iI (k : Int))]) ++ List.replicate (2 - (lg_sl ([.ref sb, .int (iI (k : Int))])).length) Slot.unset).toArray = ls at hl ⊢
  have hl : lv_has ls 2 [(0, .ref sb), (1, .int (iI (k : Int)))] := hl
  refine lv_iload_n hx hb dL_cell_0 rfl (lv_at hl 1 rfl) ?_
  refine lv_aload_n hx hb dL_cell_1 rfl (lv_at hl 0 rfl) ?_
  refine va_slen hx hb hX hbl (fun h => h) hS dL_cell_2 ?_
  refine zr_top (w := .int (iI (L : Int))) (congrArg Value.int (iI_nI L)) ?_
  refine zr_icmp_ge (tgt := 12) hx hb dL_cell_3 (by decide) (zB_of (by omega) (by omega)) (zB_of (by omega) (by omega)) (fun c1 => ?_) (fun c1 => ?_)
  · refine lv_ldc hx hb hown (hts (.constant RL 8 (790386105)) (by decide +kernel)) dL_cell_12 ?_
    refine lv_iload_n hx hb dL_cell_14 rfl (lv_at hl 1 rfl) ?_
    refine zr_ic (n := 3) hx hb dL_cell_15 ?_
    refine lv_iadd hx hb dL_cell_16 ?_
    refine lv_imul hx hb dL_cell_17 ?_
    exact W.iret hx hb hr (fun t ht _ => ⟨_, rfl, trivial, ht⟩) (fun q hq => by cases hq) dL_cell_18 hlocks
  · refine lv_aload_n hx hb dL_cell_6 rfl (lv_at hl 0 rfl) ?_
    refine lv_iload_n hx hb dL_cell_7 rfl (lv_at hl 1 rfl) ?_
    refine va_sld hx hb hX hbl (fun h => h) hS (iI_in (n := L) ⟨by omega, by omega⟩ (by omega) (by omega)) dL_cell_8 ?_
    refine lv_goto (tgt := 18) hx hb dL_cell_9 (by decide) ?_
    exact W.iret hx hb hr (fun t ht _ => ⟨_, rfl, trivial, ht⟩) (fun q hq => by cases hq) dL_cell_18 hlocks
section QBC
variable {p : Program} {l : Launch} {e : Env} {R0 : Room} {s : State} {m : MethodId} {args : Array Value} {below : List Frame} {meth : Method} {c : Code} {H : Heap} {locs : List Loc} {cells slots : Nat} {Q : State → Prop}
variable {cc : ByteArray} {pc nL index : Nat} {ls : Array Slot} {rest st0 : List Value} {Ts : List Cond} {own : String} {H0 : Heap} {A : Nat → Prop}
/-- a call of below: some number under the bound -/
theorem zc_below {v : Int32} (n : Nat) (h1 : 1 ≤ n) (hn0 : n ≤ 2147483647) (hF : zFix p m c cc nL s args Ts own) (cw : CallB R0 s args own index yL_below cL_below 2 (some .int) wsL_below (zRm 1 0) 0 0 2 ∧ (Cond.static yL_below).before args s = true)
    (hl : ls.size = nL) (hst : st0 = .int (iI (n : Int)) :: .int v :: rest) (hW : (rest.map fun v => v.category).sum ≤ 8) (hdg : decode cc pc = .ok (.invokestatic index, 3)) (hf : cells ≤ R0.cells ∧ slots ≤ R0.slots)
    (kk : ∀ r : Nat, r < n → W p l e R0 s m args below meth c H locs cells slots Q (F0 m (pc + 3) ls (.int (iI (r : Int)) :: rest))) : W p l e R0 s m args below meth c H locs cells slots Q (F0 m pc ls st0) := by
  refine z_si (va_runS (As := [.int v, .int (iI (n : Int))]) (rest := rest) hF (c_L_below l v n h1 hn0) cw ⟨fun a U g mk q => q, fun U hU hW => ⟨rfl, trivial⟩⟩ rfl rfl hl hst (lv_room hW) hdg ⟨hf.1, hf.2⟩) (fun r' h => ?_)
  obtain ⟨r, h2, rfl⟩ := h
  exact kk r h2
theorem zc_cell {sb L : Nat} {xs : Nat → Int32} (k : Nat) (hL : L ≤ 260) (hk : k ≤ 1000) (hF : zFix p m c cc nL s args Ts own) (cw : CallB R0 s args own index yL_cell cL_cell 2 (some .int) wsL_cell (zRm 1 0) 0 0 2 ∧ (Cond.static yL_cell).before args s = true)
    (hX : va_X sb L xs s H0) (hbl : sb < H0.size) (hbA : ¬ A sb) (hS : va_S A H0 H locs) (hl : ls.size = nL) (hst : st0 = .int (iI (k : Int)) :: .ref sb :: rest) (hW : (rest.map fun v => v.category).sum ≤ 8) (hdg : decode cc pc = .ok (.invokestatic index, 3)) (hf : cells ≤ R0.cells ∧ slots ≤ R0.slots)
    (kk : ∀ r : Int32, W p l e R0 s m args below meth c H locs cells slots Q (F0 m (pc + 3) ls (.int r :: rest))) : W p l e R0 s m args below meth c H locs cells slots Q (F0 m pc ls st0) := by
  have hXH : va_X sb L xs s H := hX.kept (hS.2.1 sb hbl hbA)
  refine z_si (va_runS (As := [.ref sb, .int (iI (k : Int))]) (rest := rest) hF (c_L_cell l sb L xs k hL hk) cw ⟨fun a U g mk q => ⟨q.1, va_X.moved (u := U) (U := U.calling g mk a) (Vm.Alike.refl U.vm) q.2⟩, fun U hU hW => ⟨rfl, by show va_X sb L xs U U.heap; rw [hU]; exact va_X.moved hW.alike hXH⟩⟩ rfl rfl hl hst (lv_room hW) hdg ⟨hf.1, hf.2⟩) (fun r' _ => kk r')
end QBC
