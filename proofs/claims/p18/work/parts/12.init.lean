/-! the constructors -/
theorem zKi {D : va_G} {c1 c2 : ClassId} {U : State} (h1 : va_K D vwCl [(c1, .int)] U) (h2 : va_K D vwCl [(c2, .int)] U) : c2 = c1 := by
  have a1 := (h1.2 0 _ rfl).2
  have a2 := (h2.2 0 _ rfl).2
  exact Option.some.inj (a2.symm.trans a1)

set_option maxHeartbeats 4000000 in
set_option maxRecDepth 100000 in
/-- X0_init -/
theorem c_X0_init (l : Launch) (D : va_G) (a sz : Nat) : Met l yX0_init wsX0_init { frames := 1, cells := 1, slots := 36, locals := 12 } (va_Pc [.ref a] (fun U => U.heap.size = sz ∧ va_P D vwCl [(a, .inr (0, [.null, .int 0]))] U.heap ∧ va_K D vwCl [] U ∧ va_D (fun _ => True) [(a, .inr (0, [.null, .int 0]))])) (va_Qv (S := ClassId × Nat) (fun _ => True) (fun u t => va_P D vwCl [(a, .inr (0, [.ref u.2, .int (iI ((0 : Nat) : Int))])), (u.2, zArr u.1 36 (fun _ => 0))] t.heap ∧ va_K D vwCl [(u.1, .int)] t ∧ va_D (va_A [(a, .inr (0, [.null, .int 0]))] sz) [(a, .inr (0, [.ref u.2, .int (iI ((0 : Nat) : Int))])), (u.2, zArr u.1 36 (fun _ => 0))]) (va_A [(a, .inr (0, [.null, .int 0]))] sz)) 1 36 (va_A [(a, .inr (0, [.null, .int 0]))] sz) := by
  refine Met.ofW (cc := cX0_init) (maxL := 1) (ret := none) (by decide) rfl ?_
  intro p e s m args below meth c s₁ B hml hv
  obtain ⟨rfl, hsz, hP, hK, hD0⟩ := hv
  have hx := B.exec
  have hb := B.bytes
  have hr := B.returns
  have hts := atoms_spec (ws := wsX0_init) B.pre
  have hown : s.vm.findClass RX0 = some m.cls := findClass_of_methodNamed B.named
  have hlocks := B.notSynchronized
  have hin : meth.name = "<init>" := (name_of_methodNamed B.named B.method).1
  subst hsz
  have hD := hD0.self (sz := s.heap.size)
  generalize hAe : va_A [(a, .inr (0, [.null, .int 0]))] s.heap.size = A at hD ⊢
  have hA : ∀ q : Nat, s.heap.size ≤ q → A q := fun q h => by rw [← hAe]; exact Or.inr h
  have hS : va_S A s.heap s.heap [] := va_S.rf
  have hP : va_P D vwCl [(a, .inr (0, [.null, .int 0]))] s.heap := hP
  have hl := lv_entry ([.ref a]) (n := 1) (Nat.le_of_ble_eq_true rfl)
  rw [lg_entry_eq]
  generalize (lg_sl ([.ref a]) ++ List.replicate (1 - (lg_sl ([.ref a])).length) Slot.unset).toArray = ls at hl ⊢
  have hl : lv_has ls 1 [(0, .ref a)] := hl
  refine lv_aload_n hx hb dX0_init_0 rfl (lv_at hl 0 rfl) ?_
  refine W.objInit hx hb hown (hts (.methodLink RX0 3 objectInit) (by decide +kernel)) (hts (.instanceMethod objectInit) (by decide +kernel)) (hts (.code objectInit ⟨#[0xb1]⟩ 1 none) (by decide +kernel)) rfl (by rw [hml]; exact hl.1) rfl dX0_init_1 (Nat.le_of_ble_eq_true rfl) (Nat.le_of_ble_eq_true rfl) ?_
  refine W.eq (g2 := F0 m 4 ls []) rfl ?_
  refine lv_aload_n hx hb dX0_init_4 rfl (lv_at hl 0 rfl) ?_
  refine zr_bi (n := 36) hx hb dX0_init_5 rfl ?_
  refine va_newa (atype := .int) (ty := .int) (a0 := (36, .inl (fun _ => iI 0))) hx hb (hts (.arrayClass .int) (by decide +kernel)) rfl hK hP hD hS hA (n := iI 36) (N' := 36) (fun cA => rfl) (by decide) (by decide) (by decide) (Nat.le_of_ble_eq_true rfl) (Nat.le_of_ble_eq_true rfl) dX0_init_7 (fun q1 cA1 H hK1 hP hD hS => ?_)
  have hK : va_K D vwCl [(cA1, .int)] s := hK1
  have hP : va_P D vwCl [(a, .inr (0, [.null, .int 0])), (q1, zArr cA1 36 (fun _ => 0))] H := hP
  have hD : va_D A [(a, .inr (0, [.null, .int 0])), (q1, zArr cA1 36 (fun _ => 0))] := hD
  refine va_putF (D := D) (ci := 0) (v := .ref q1) (ty := (.array .int)) (C := RX0) (T := TX0) (N := 2) hx hb hts (by decide +kernel) tyX0 tyX0_ok nmX0 hown hK hP hD hS 0 rfl rfl 0 (by decide) (hts (.fieldLink RX0 9 "RentHarmony$Bids" "coins" "[I") (by decide +kernel)) (fun _ h9 => h9) rfl hin rfl (by decide +kernel) rfl rfl (Nat.le_of_ble_eq_true rfl) dX0_init_9 (fun H locs hP hD hS => ?_)
  have hP : va_P D vwCl [(a, .inr (0, [.ref q1, .int 0])), (q1, zArr cA1 36 (fun _ => 0))] H := hP
  have hD : va_D A [(a, .inr (0, [.ref q1, .int 0])), (q1, zArr cA1 36 (fun _ => 0))] := hD
  refine lv_aload_n hx hb dX0_init_12 rfl (lv_at hl 0 rfl) ?_
  refine zr_ic (n := ((0 : Nat) : Int)) hx hb dX0_init_13 ?_
  refine va_put (D := D) (ci := 0) (v := .int (iI ((0 : Nat) : Int))) (ty := .int) (C := RX0) (T := TX0) (N := 2) hx hb hts (by decide +kernel) tyX0 tyX0_ok nmX0 hown hK hP hD hS 0 rfl rfl 1 (by decide) (hts (.fieldLink RX0 15 "RentHarmony$Bids" "size" "I") (by decide +kernel)) (fun _ h9 => h9) rfl (by decide +kernel) rfl rfl (Nat.le_of_ble_eq_true rfl) dX0_init_14 (fun H locs hP hD hS => ?_)
  have hP : va_P D vwCl [(a, .inr (0, [.ref q1, .int (iI ((0 : Nat) : Int))])), (q1, zArr cA1 36 (fun _ => 0))] H := hP
  have hD : va_D A [(a, .inr (0, [.ref q1, .int (iI ((0 : Nat) : Int))])), (q1, zArr cA1 36 (fun _ => 0))] := hD
  exact W.vret hx hb hr (fun t ht hW => ⟨⟨(cA1, q1), rfl, trivial, by rw [ht]; exact hP, va_K.moved hW.alike hK, hD⟩, hS.F ht⟩) hS.2.2 dX0_init_17 hlocks
set_option maxHeartbeats 4000000 in
set_option maxRecDepth 100000 in
/-- X1_init -/
theorem c_X1_init (l : Launch) (D : va_G) (a sz : Nat) : Met l yX1_init wsX1_init { frames := 1, cells := 3, slots := 134, locals := 12 } (va_Pc [.ref a] (fun U => U.heap.size = sz ∧ va_P D vwCl [(a, .inr (1, [.null, .null, .null]))] U.heap ∧ va_K D vwCl [] U ∧ va_D (fun _ => True) [(a, .inr (1, [.null, .null, .null]))])) (va_Qv (S := ClassId × Nat × Nat × Nat) (fun _ => True) (fun u t => va_P D vwCl [(a, .inr (1, [.ref u.2.1, .ref u.2.2.1, .ref u.2.2.2])), (u.2.1, zArr u.1 64 (fun _ => 0)), (u.2.2.1, zArr u.1 64 (uZ (fun _ => 0) 0 ((1 : Nat) : Int))), (u.2.2.2, zArr u.1 6 (fun _ => 0))] t.heap ∧ va_K D vwCl [(u.1, .int)] t ∧ va_D (va_A [(a, .inr (1, [.null, .null, .null]))] sz) [(a, .inr (1, [.ref u.2.1, .ref u.2.2.1, .ref u.2.2.2])), (u.2.1, zArr u.1 64 (fun _ => 0)), (u.2.2.1, zArr u.1 64 (uZ (fun _ => 0) 0 ((1 : Nat) : Int))), (u.2.2.2, zArr u.1 6 (fun _ => 0))]) (va_A [(a, .inr (1, [.null, .null, .null]))] sz)) 3 134 (va_A [(a, .inr (1, [.null, .null, .null]))] sz) := by
  refine Met.ofW (cc := cX1_init) (maxL := 1) (ret := none) (by decide) rfl ?_
  intro p e s m args below meth c s₁ B hml hv
  obtain ⟨rfl, hsz, hP, hK, hD0⟩ := hv
  have hx := B.exec
  have hb := B.bytes
  have hr := B.returns
  have hts := atoms_spec (ws := wsX1_init) B.pre
  have hown : s.vm.findClass RX1 = some m.cls := findClass_of_methodNamed B.named
  have hlocks := B.notSynchronized
  have hin : meth.name = "<init>" := (name_of_methodNamed B.named B.method).1
  subst hsz
  have hD := hD0.self (sz := s.heap.size)
  generalize hAe : va_A [(a, .inr (1, [.null, .null, .null]))] s.heap.size = A at hD ⊢
  have hA : ∀ q : Nat, s.heap.size ≤ q → A q := fun q h => by rw [← hAe]; exact Or.inr h
  have hS : va_S A s.heap s.heap [] := va_S.rf
  have hP : va_P D vwCl [(a, .inr (1, [.null, .null, .null]))] s.heap := hP
  have hl := lv_entry ([.ref a]) (n := 1) (Nat.le_of_ble_eq_true rfl)
  rw [lg_entry_eq]
  generalize (lg_sl ([.ref a]) ++ List.replicate (1 - (lg_sl ([.ref a])).length) Slot.unset).toArray = ls at hl ⊢
  have hl : lv_has ls 1 [(0, .ref a)] := hl
  refine lv_aload_n hx hb dX1_init_0 rfl (lv_at hl 0 rfl) ?_
  refine W.objInit hx hb hown (hts (.methodLink RX1 3 objectInit) (by decide +kernel)) (hts (.instanceMethod objectInit) (by decide +kernel)) (hts (.code objectInit ⟨#[0xb1]⟩ 1 none) (by decide +kernel)) rfl (by rw [hml]; exact hl.1) rfl dX1_init_1 (Nat.le_of_ble_eq_true rfl) (Nat.le_of_ble_eq_true rfl) ?_
  refine W.eq (g2 := F0 m 4 ls []) rfl ?_
  refine lv_aload_n hx hb dX1_init_4 rfl (lv_at hl 0 rfl) ?_
  refine zr_bi (n := 64) hx hb dX1_init_5 rfl ?_
  refine va_newa (atype := .int) (ty := .int) (a0 := (64, .inl (fun _ => iI 0))) hx hb (hts (.arrayClass .int) (by decide +kernel)) rfl hK hP hD hS hA (n := iI 64) (N' := 64) (fun cA => rfl) (by decide) (by decide) (by decide) (Nat.le_of_ble_eq_true rfl) (Nat.le_of_ble_eq_true rfl) dX1_init_7 (fun q1 cA1 H hK1 hP hD hS => ?_)
  have hK : va_K D vwCl [(cA1, .int)] s := hK1
  have hP : va_P D vwCl [(a, .inr (1, [.null, .null, .null])), (q1, zArr cA1 64 (fun _ => 0))] H := hP
  have hD : va_D A [(a, .inr (1, [.null, .null, .null])), (q1, zArr cA1 64 (fun _ => 0))] := hD
  refine va_putF (D := D) (ci := 1) (v := .ref q1) (ty := (.array .int)) (C := RX1) (T := TX1) (N := 3) hx hb hts (by decide +kernel) tyX1 tyX1_ok nmX1 hown hK hP hD hS 0 rfl rfl 0 (by decide) (hts (.fieldLink RX1 9 "RentHarmony$Giving" "bestOfRest" "[I") (by decide +kernel)) (fun _ h9 => h9) rfl hin rfl (by decide +kernel) rfl rfl (Nat.le_of_ble_eq_true rfl) dX1_init_9 (fun H locs hP hD hS => ?_)
  have hP : va_P D vwCl [(a, .inr (1, [.ref q1, .null, .null])), (q1, zArr cA1 64 (fun _ => 0))] H := hP
  have hD : va_D A [(a, .inr (1, [.ref q1, .null, .null])), (q1, zArr cA1 64 (fun _ => 0))] := hD
  refine lv_aload_n hx hb dX1_init_12 rfl (lv_at hl 0 rfl) ?_
  refine zr_bi (n := 64) hx hb dX1_init_13 rfl ?_
  have hK0 := hK.sub (tys' := []) [] rfl
  refine va_newa (atype := .int) (ty := .int) (a0 := (64, .inl (fun _ => iI 0))) hx hb (hts (.arrayClass .int) (by decide +kernel)) rfl hK0 hP hD hS hA (n := iI 64) (N' := 64) (fun cA => rfl) (by decide) (by decide) (by decide) (Nat.le_of_ble_eq_true rfl) (Nat.le_of_ble_eq_true rfl) dX1_init_15 (fun q2 cA2 H hK2 hP hD hS => ?_)
  have e2 := zKi hK hK2
  rw [e2] at hP hD
  have hP : va_P D vwCl [(a, .inr (1, [.ref q1, .null, .null])), (q1, zArr cA1 64 (fun _ => 0)), (q2, zArr cA1 64 (fun _ => 0))] H := hP
  have hD : va_D A [(a, .inr (1, [.ref q1, .null, .null])), (q1, zArr cA1 64 (fun _ => 0)), (q2, zArr cA1 64 (fun _ => 0))] := hD
  refine va_putF (D := D) (ci := 1) (v := .ref q2) (ty := (.array .int)) (C := RX1) (T := TX1) (N := 3) hx hb hts (by decide +kernel) tyX1 tyX1_ok nmX1 hown hK hP hD hS 0 rfl rfl 1 (by decide) (hts (.fieldLink RX1 15 "RentHarmony$Giving" "waysOfRest" "[I") (by decide +kernel)) (fun _ h9 => h9) rfl hin rfl (by decide +kernel) rfl rfl (Nat.le_of_ble_eq_true rfl) dX1_init_17 (fun H locs hP hD hS => ?_)
  have hP : va_P D vwCl [(a, .inr (1, [.ref q1, .ref q2, .null])), (q1, zArr cA1 64 (fun _ => 0)), (q2, zArr cA1 64 (fun _ => 0))] H := hP
  have hD : va_D A [(a, .inr (1, [.ref q1, .ref q2, .null])), (q1, zArr cA1 64 (fun _ => 0)), (q2, zArr cA1 64 (fun _ => 0))] := hD
  refine lv_aload_n hx hb dX1_init_20 rfl (lv_at hl 0 rfl) ?_
  refine zr_bi (n := 6) hx hb dX1_init_21 rfl ?_
  have hK0 := hK.sub (tys' := []) [] rfl
  refine va_newa (atype := .int) (ty := .int) (a0 := (6, .inl (fun _ => iI 0))) hx hb (hts (.arrayClass .int) (by decide +kernel)) rfl hK0 hP hD hS hA (n := iI 6) (N' := 6) (fun cA => rfl) (by decide) (by decide) (by decide) (Nat.le_of_ble_eq_true rfl) (Nat.le_of_ble_eq_true rfl) dX1_init_23 (fun q3 cA3 H hK3 hP hD hS => ?_)
  have e3 := zKi hK hK3
  rw [e3] at hP hD
  have hP : va_P D vwCl [(a, .inr (1, [.ref q1, .ref q2, .null])), (q1, zArr cA1 64 (fun _ => 0)), (q2, zArr cA1 64 (fun _ => 0)), (q3, zArr cA1 6 (fun _ => 0))] H := hP
  have hD : va_D A [(a, .inr (1, [.ref q1, .ref q2, .null])), (q1, zArr cA1 64 (fun _ => 0)), (q2, zArr cA1 64 (fun _ => 0)), (q3, zArr cA1 6 (fun _ => 0))] := hD
  refine va_putF (D := D) (ci := 1) (v := .ref q3) (ty := (.array .int)) (C := RX1) (T := TX1) (N := 3) hx hb hts (by decide +kernel) tyX1 tyX1_ok nmX1 hown hK hP hD hS 0 rfl rfl 2 (by decide) (hts (.fieldLink RX1 18 "RentHarmony$Giving" "rooms" "[I") (by decide +kernel)) (fun _ h9 => h9) rfl hin rfl (by decide +kernel) rfl rfl (Nat.le_of_ble_eq_true rfl) dX1_init_25 (fun H locs hP hD hS => ?_)
  have hP : va_P D vwCl [(a, .inr (1, [.ref q1, .ref q2, .ref q3])), (q1, zArr cA1 64 (fun _ => 0)), (q2, zArr cA1 64 (fun _ => 0)), (q3, zArr cA1 6 (fun _ => 0))] H := hP
  have hD : va_D A [(a, .inr (1, [.ref q1, .ref q2, .ref q3])), (q1, zArr cA1 64 (fun _ => 0)), (q2, zArr cA1 64 (fun _ => 0)), (q3, zArr cA1 6 (fun _ => 0))] := hD
  refine lv_aload_n hx hb dX1_init_28 rfl (lv_at hl 0 rfl) ?_
  refine va_get (D := D) (ci := 1) (v := .ref q2) (C := RX1) (T := TX1) (N := 3) hx hb hts (by decide +kernel) hown hK hP 0 rfl rfl 1 (by decide) (hts (.fieldLink RX1 15 "RentHarmony$Giving" "waysOfRest" "[I") (by decide +kernel)) (fun _ h9 => h9) rfl dX1_init_29 ?_
  refine zr_ic (n := ((0 : Nat) : Int)) hx hb dX1_init_32 ?_
  refine zr_ic (n := ((1 : Nat) : Int)) hx hb dX1_init_33 ?_
  refine zr_iast hx hb hK hP hD hS 2 0 rfl rfl 0 (by omega) (by omega) (by omega) dX1_init_34 (fun H locs hP hD hS => ?_)
  have hP : va_P D vwCl [(a, .inr (1, [.ref q1, .ref q2, .ref q3])), (q1, zArr cA1 64 (fun _ => 0)), (q2, zArr cA1 64 (uZ (fun _ => 0) 0 ((1 : Nat) : Int))), (q3, zArr cA1 6 (fun _ => 0))] H := hP
  have hD : va_D A [(a, .inr (1, [.ref q1, .ref q2, .ref q3])), (q1, zArr cA1 64 (fun _ => 0)), (q2, zArr cA1 64 (uZ (fun _ => 0) 0 ((1 : Nat) : Int))), (q3, zArr cA1 6 (fun _ => 0))] := hD
  exact W.vret hx hb hr (fun t ht hW => ⟨⟨(cA1, q1, q2, q3), rfl, trivial, by rw [ht]; exact hP, va_K.moved hW.alike hK, hD⟩, hS.F ht⟩) hS.2.2 dX1_init_35 hlocks
set_option maxHeartbeats 4000000 in
set_option maxRecDepth 100000 in
/-- X2_init -/
theorem c_X2_init (l : Launch) (D : va_G) (a sz : Nat) : Met l yX2_init wsX2_init { frames := 2, cells := 14, slots := 362, locals := 32 } (va_Pc [.ref a] (fun U => U.heap.size = sz ∧ va_P D vwCl [(a, .inr (2, [.null, .null, .null, .null, .null, .null, .int 0, .int 0, .int 0]))] U.heap ∧ va_K D vwCl [] U ∧ va_D (fun _ => True) [(a, .inr (2, [.null, .null, .null, .null, .null, .null, .int 0, .int 0, .int 0]))] ∧ va_Nw (.methodLinkNest RX2 9 yX0_init RX2) U)) (va_Qv (S := ClassId × Nat × Nat × Nat × Nat × Nat × Nat × Nat × Nat × Nat × Nat × Nat × Nat × Nat × Nat) (fun _ => True) (fun u t => va_P D vwCl [(a, .inr (2, [.ref u.2.1, .ref u.2.2.2.1, .ref u.2.2.2.2.2.2.2.1, .ref u.2.2.2.2.2.2.2.2.2.1, .ref u.2.2.2.2.2.2.2.2.2.2.2.2.2.1, .ref u.2.2.2.2.2.2.2.2.2.2.2.2.2.2, .int (iI ((0 : Nat) : Int)), .int (iI ((0 : Nat) : Int)), .int (iI ((0 : Nat) : Int))])), (u.2.1, .inr (0, [.ref u.2.2.1, .int (iI ((0 : Nat) : Int))])), (u.2.2.1, zArr u.1 36 (fun _ => 0)), (u.2.2.2.1, .inr (1, [.ref u.2.2.2.2.1, .ref u.2.2.2.2.2.1, .ref u.2.2.2.2.2.2.1])), (u.2.2.2.2.1, zArr u.1 64 (fun _ => 0)), (u.2.2.2.2.2.1, zArr u.1 64 (uZ (fun _ => 0) 0 ((1 : Nat) : Int))), (u.2.2.2.2.2.2.1, zArr u.1 6 (fun _ => 0)), (u.2.2.2.2.2.2.2.1, .inr (0, [.ref u.2.2.2.2.2.2.2.2.1, .int (iI ((0 : Nat) : Int))])), (u.2.2.2.2.2.2.2.2.1, zArr u.1 36 (fun _ => 0)), (u.2.2.2.2.2.2.2.2.2.1, .inr (1, [.ref u.2.2.2.2.2.2.2.2.2.2.1, .ref u.2.2.2.2.2.2.2.2.2.2.2.1, .ref u.2.2.2.2.2.2.2.2.2.2.2.2.1])), (u.2.2.2.2.2.2.2.2.2.2.1, zArr u.1 64 (fun _ => 0)), (u.2.2.2.2.2.2.2.2.2.2.2.1, zArr u.1 64 (uZ (fun _ => 0) 0 ((1 : Nat) : Int))), (u.2.2.2.2.2.2.2.2.2.2.2.2.1, zArr u.1 6 (fun _ => 0)), (u.2.2.2.2.2.2.2.2.2.2.2.2.2.1, zArr u.1 6 (fun _ => 0)), (u.2.2.2.2.2.2.2.2.2.2.2.2.2.2, zArr u.1 6 (fun _ => 0))] t.heap ∧ va_K D vwCl [(u.1, .int)] t ∧ va_D (va_A [(a, .inr (2, [.null, .null, .null, .null, .null, .null, .int 0, .int 0, .int 0]))] sz) [(a, .inr (2, [.ref u.2.1, .ref u.2.2.2.1, .ref u.2.2.2.2.2.2.2.1, .ref u.2.2.2.2.2.2.2.2.2.1, .ref u.2.2.2.2.2.2.2.2.2.2.2.2.2.1, .ref u.2.2.2.2.2.2.2.2.2.2.2.2.2.2, .int (iI ((0 : Nat) : Int)), .int (iI ((0 : Nat) : Int)), .int (iI ((0 : Nat) : Int))])), (u.2.1, .inr (0, [.ref u.2.2.1, .int (iI ((0 : Nat) : Int))])), (u.2.2.1, zArr u.1 36 (fun _ => 0)), (u.2.2.2.1, .inr (1, [.ref u.2.2.2.2.1, .ref u.2.2.2.2.2.1, .ref u.2.2.2.2.2.2.1])), (u.2.2.2.2.1, zArr u.1 64 (fun _ => 0)), (u.2.2.2.2.2.1, zArr u.1 64 (uZ (fun _ => 0) 0 ((1 : Nat) : Int))), (u.2.2.2.2.2.2.1, zArr u.1 6 (fun _ => 0)), (u.2.2.2.2.2.2.2.1, .inr (0, [.ref u.2.2.2.2.2.2.2.2.1, .int (iI ((0 : Nat) : Int))])), (u.2.2.2.2.2.2.2.2.1, zArr u.1 36 (fun _ => 0)), (u.2.2.2.2.2.2.2.2.2.1, .inr (1, [.ref u.2.2.2.2.2.2.2.2.2.2.1, .ref u.2.2.2.2.2.2.2.2.2.2.2.1, .ref u.2.2.2.2.2.2.2.2.2.2.2.2.1])), (u.2.2.2.2.2.2.2.2.2.2.1, zArr u.1 64 (fun _ => 0)), (u.2.2.2.2.2.2.2.2.2.2.2.1, zArr u.1 64 (uZ (fun _ => 0) 0 ((1 : Nat) : Int))), (u.2.2.2.2.2.2.2.2.2.2.2.2.1, zArr u.1 6 (fun _ => 0)), (u.2.2.2.2.2.2.2.2.2.2.2.2.2.1, zArr u.1 6 (fun _ => 0)), (u.2.2.2.2.2.2.2.2.2.2.2.2.2.2, zArr u.1 6 (fun _ => 0))]) (va_A [(a, .inr (2, [.null, .null, .null, .null, .null, .null, .int 0, .int 0, .int 0]))] sz)) 14 362 (va_A [(a, .inr (2, [.null, .null, .null, .null, .null, .null, .int 0, .int 0, .int 0]))] sz) := by
  refine Met.ofW (cc := cX2_init) (maxL := 1) (ret := none) (by decide) rfl ?_
  intro p e s m args below meth c s₁ B hml hv
  obtain ⟨rfl, hsz, hP, hK, hD0, hnest⟩ := hv
  have hx := B.exec
  have hb := B.bytes
  have hr := B.returns
  have hts := atoms_spec (ws := wsX2_init) B.pre
  have hown : s.vm.findClass RX2 = some m.cls := findClass_of_methodNamed B.named
  have hlocks := B.notSynchronized
  have hin : meth.name = "<init>" := (name_of_methodNamed B.named B.method).1
  subst hsz
  have hD := hD0.self (sz := s.heap.size)
  generalize hAe : va_A [(a, .inr (2, [.null, .null, .null, .null, .null, .null, .int 0, .int 0, .int 0]))] s.heap.size = A at hD ⊢
  have hA : ∀ q : Nat, s.heap.size ≤ q → A q := fun q h => by rw [← hAe]; exact Or.inr h
  have hS : va_S A s.heap s.heap [] := va_S.rf
  have hP : va_P D vwCl [(a, .inr (2, [.null, .null, .null, .null, .null, .null, .int 0, .int 0, .int 0]))] s.heap := hP
  have hl := lv_entry ([.ref a]) (n := 1) (Nat.le_of_ble_eq_true rfl)
  rw [lg_entry_eq]
  generalize (lg_sl ([.ref a]) ++ List.replicate (1 - (lg_sl ([.ref a])).length) Slot.unset).toArray = ls at hl ⊢
  have hl : lv_has ls 1 [(0, .ref a)] := hl
  refine lv_aload_n hx hb dX2_init_0 rfl (lv_at hl 0 rfl) ?_
  refine W.objInit hx hb hown (hts (.methodLink RX2 1 objectInit) (by decide +kernel)) (hts (.instanceMethod objectInit) (by decide +kernel)) (hts (.code objectInit ⟨#[0xb1]⟩ 1 none) (by decide +kernel)) rfl (by rw [hml]; exact hl.1) rfl dX2_init_1 (Nat.le_of_ble_eq_true rfl) (Nat.le_of_ble_eq_true rfl) ?_
  refine W.eq (g2 := F0 m 4 ls []) rfl ?_
  refine lv_aload_n hx hb dX2_init_4 rfl (lv_at hl 0 rfl) ?_
  refine va_new (ci := 0) (fs := [.null, .int 0]) (C := RX0) (T := TX0) (N := 2) hx hb hts (by decide +kernel) tyX0 tyX0_ok hown (hts (.classLink RX2 7 RX0) (by decide +kernel)) (hts (.instantiable RX0 2) (by decide +kernel)) (hts (.initialized RX0) (by decide +kernel)) hK hP hD hS hA rfl (fun j hj => by rcases (show j = 0 ∨ j = 1 by omega) with rfl | rfl <;> rfl) (Nat.le_of_ble_eq_true rfl) (Nat.le_of_ble_eq_true rfl) dX2_init_5 (fun q1 H hP hD hS => ?_)
  have hP : va_P D vwCl [(a, .inr (2, [.null, .null, .null, .null, .null, .null, .int 0, .int 0, .int 0])), (q1, .inr (0, [.null, .int 0]))] H := hP
  have hD : va_D A [(a, .inr (2, [.null, .null, .null, .null, .null, .null, .int 0, .int 0, .int 0])), (q1, .inr (0, [.null, .int 0]))] := hD
  refine lv_dup hx hb dX2_init_8 rfl ?_
  have hPc := hP.sub (ws' := [(q1, .inr (0, [.null, .int 0]))]) [1] rfl
  have hDc := hD.sub (ws' := [(q1, .inr (0, [.null, .int 0]))]) [1] (by decide) rfl
  have hKc := hK.sub (tys' := []) [] rfl
  have hFc := va_free (wc := [(q1, .inr (0, [.null, .int 0]))]) hD hS hA [1] rfl
  refine va_callv (va_runIN (As := []) (rest := [.ref q1, .ref a]) ⟨hx, hb, hml, hown, hts⟩ (c_X0_init l D q1 H.size) ⟨va_cnB 0 hts gX2_init_X0_init_n9 rfl rfl rfl hnest (hts (.initialized RX0) (by decide +kernel)) (by decide +kernel) ⟨Nat.le_of_ble_eq_true rfl, Nat.le_of_ble_eq_true rfl⟩, rfl, (hts (.instanceMethod yX0_init) (by decide +kernel))⟩ ⟨fun a U g mk q => by obtain ⟨q0, q1, qP, qK, qD⟩ := q; exact ⟨q0, q1, qP, va_K.moved (u := U) (U := U.calling g mk a) (Vm.Alike.refl U.vm) qK, qD⟩, fun U hU hW => ⟨rfl, by rw [hU], by rw [hU]; exact hPc, va_K.moved hW.alike hKc, hDc.weaken (fun _ _ _ _ => trivial)⟩⟩ rfl rfl hl.1 rfl (lv_room (Nat.le_of_ble_eq_true rfl)) dX2_init_9 ⟨Nat.le_of_ble_eq_true rfl, Nat.le_of_ble_eq_true rfl⟩) hS (fun q _ h => hFc q h) hFc (fun u t H1 locs ht hvm hw hB hz1 hk1 hS => ?_)
  obtain ⟨cA2, r2_0⟩ := u
  obtain ⟨hP1, hK1, hD1⟩ := hB
  rw [ht] at hP1
  have hK1 := va_K.moved hvm.symm hK1
  dsimp only at hP1 hK1 hD1
  obtain ⟨hP, hD⟩ := va_join (wr := [(a, .inr (2, [.null, .null, .null, .null, .null, .null, .int 0, .int 0, .int 0]))]) (w1 := [(q1, .inr (0, [.ref r2_0, .int (iI ((0 : Nat) : Int))])), (r2_0, zArr cA2 36 (fun _ => 0))]) hP hD [1] [0] rfl rfl (by decide) (by decide) hk1 hFc hP1 hD1
  have hK : va_K D vwCl [(cA2, .int)] s := hK1
  generalize H1 = H at hP hS ⊢
  have hP : va_P D vwCl [(a, .inr (2, [.null, .null, .null, .null, .null, .null, .int 0, .int 0, .int 0])), (q1, .inr (0, [.ref r2_0, .int (iI ((0 : Nat) : Int))])), (r2_0, zArr cA2 36 (fun _ => 0))] H := hP
  have hD : va_D A [(a, .inr (2, [.null, .null, .null, .null, .null, .null, .int 0, .int 0, .int 0])), (q1, .inr (0, [.ref r2_0, .int (iI ((0 : Nat) : Int))])), (r2_0, zArr cA2 36 (fun _ => 0))] := hD
  refine va_putF (D := D) (ci := 2) (v := .ref q1) (ty := (.object "RentHarmony$Bids")) (C := RX2) (T := TX2) (N := 9) hx hb hts (by decide +kernel) tyX2 tyX2_ok nmX2 hown hK hP hD hS 0 rfl rfl 0 (by decide) (hts (.fieldLink RX2 10 "RentHarmony" "bids" "LRentHarmony$Bids;") (by decide +kernel)) (fun _ h9 => h9) rfl hin rfl (by decide +kernel) rfl rfl (Nat.le_of_ble_eq_true rfl) dX2_init_12 (fun H locs hP hD hS => ?_)
  have hP : va_P D vwCl [(a, .inr (2, [.ref q1, .null, .null, .null, .null, .null, .int 0, .int 0, .int 0])), (q1, .inr (0, [.ref r2_0, .int (iI ((0 : Nat) : Int))])), (r2_0, zArr cA2 36 (fun _ => 0))] H := hP
  have hD : va_D A [(a, .inr (2, [.ref q1, .null, .null, .null, .null, .null, .int 0, .int 0, .int 0])), (q1, .inr (0, [.ref r2_0, .int (iI ((0 : Nat) : Int))])), (r2_0, zArr cA2 36 (fun _ => 0))] := hD
  refine lv_aload_n hx hb dX2_init_15 rfl (lv_at hl 0 rfl) ?_
  refine va_new (ci := 1) (fs := [.null, .null, .null]) (C := RX1) (T := TX1) (N := 3) hx hb hts (by decide +kernel) tyX1 tyX1_ok hown (hts (.classLink RX2 16 RX1) (by decide +kernel)) (hts (.instantiable RX1 3) (by decide +kernel)) (hts (.initialized RX1) (by decide +kernel)) hK hP hD hS hA rfl (fun j hj => by rcases (show j = 0 ∨ j = 1 ∨ j = 2 by omega) with rfl | rfl | rfl <;> rfl) (Nat.le_of_ble_eq_true rfl) (Nat.le_of_ble_eq_true rfl) dX2_init_16 (fun q3 H hP hD hS => ?_)
  have hP : va_P D vwCl [(a, .inr (2, [.ref q1, .null, .null, .null, .null, .null, .int 0, .int 0, .int 0])), (q1, .inr (0, [.ref r2_0, .int (iI ((0 : Nat) : Int))])), (r2_0, zArr cA2 36 (fun _ => 0)), (q3, .inr (1, [.null, .null, .null]))] H := hP
  have hD : va_D A [(a, .inr (2, [.ref q1, .null, .null, .null, .null, .null, .int 0, .int 0, .int 0])), (q1, .inr (0, [.ref r2_0, .int (iI ((0 : Nat) : Int))])), (r2_0, zArr cA2 36 (fun _ => 0)), (q3, .inr (1, [.null, .null, .null]))] := hD
  refine lv_dup hx hb dX2_init_19 rfl ?_
  have hPc := hP.sub (ws' := [(q3, .inr (1, [.null, .null, .null]))]) [3] rfl
  have hDc := hD.sub (ws' := [(q3, .inr (1, [.null, .null, .null]))]) [3] (by decide) rfl
  have hKc := hK.sub (tys' := []) [] rfl
  have hFc := va_free (wc := [(q3, .inr (1, [.null, .null, .null]))]) hD hS hA [3] rfl
  refine va_callv (va_runI (As := []) (rest := [.ref q3, .ref a]) ⟨hx, hb, hml, hown, hts⟩ (c_X1_init l D q3 H.size) (cwI 0 hts gX2_init_X1_init rfl rfl rfl (hts (.initialized RX1) (by decide +kernel)) (hts (.methodLink RX2 18 yX1_init) (by decide +kernel)) (hts (.instanceMethod yX1_init) (by decide +kernel)) rfl (by decide +kernel) ⟨Nat.le_of_ble_eq_true rfl, Nat.le_of_ble_eq_true rfl⟩) ⟨fun a U g mk q => by obtain ⟨q0, q1, qP, qK, qD⟩ := q; exact ⟨q0, q1, qP, va_K.moved (u := U) (U := U.calling g mk a) (Vm.Alike.refl U.vm) qK, qD⟩, fun U hU hW => ⟨rfl, by rw [hU], by rw [hU]; exact hPc, va_K.moved hW.alike hKc, hDc.weaken (fun _ _ _ _ => trivial)⟩⟩ rfl rfl hl.1 rfl (lv_room (Nat.le_of_ble_eq_true rfl)) dX2_init_20 ⟨Nat.le_of_ble_eq_true rfl, Nat.le_of_ble_eq_true rfl⟩) hS (fun q _ h => hFc q h) hFc (fun u t H1 locs ht hvm hw hB hz1 hk1 hS => ?_)
  obtain ⟨cA4, r4_0, r4_1, r4_2⟩ := u
  obtain ⟨hP1, hK1, hD1⟩ := hB
  rw [ht] at hP1
  have hK1 := va_K.moved hvm.symm hK1
  dsimp only at hP1 hK1 hD1
  have e4 : cA4 = cA2 := zKi hK hK1
  rw [e4] at hP1 hK1 hD1
  obtain ⟨hP, hD⟩ := va_join (wr := [(a, .inr (2, [.ref q1, .null, .null, .null, .null, .null, .int 0, .int 0, .int 0])), (q1, .inr (0, [.ref r2_0, .int (iI ((0 : Nat) : Int))])), (r2_0, zArr cA2 36 (fun _ => 0))]) (w1 := [(q3, .inr (1, [.ref r4_0, .ref r4_1, .ref r4_2])), (r4_0, zArr cA2 64 (fun _ => 0)), (r4_1, zArr cA2 64 (uZ (fun _ => 0) 0 ((1 : Nat) : Int))), (r4_2, zArr cA2 6 (fun _ => 0))]) hP hD [3] [0, 1, 2] rfl rfl (by decide) (by decide) hk1 hFc hP1 hD1
  have hK : va_K D vwCl [(cA2, .int)] s := hK1
  generalize H1 = H at hP hS ⊢
  have hP : va_P D vwCl [(a, .inr (2, [.ref q1, .null, .null, .null, .null, .null, .int 0, .int 0, .int 0])), (q1, .inr (0, [.ref r2_0, .int (iI ((0 : Nat) : Int))])), (r2_0, zArr cA2 36 (fun _ => 0)), (q3, .inr (1, [.ref r4_0, .ref r4_1, .ref r4_2])), (r4_0, zArr cA2 64 (fun _ => 0)), (r4_1, zArr cA2 64 (uZ (fun _ => 0) 0 ((1 : Nat) : Int))), (r4_2, zArr cA2 6 (fun _ => 0))] H := hP
  have hD : va_D A [(a, .inr (2, [.ref q1, .null, .null, .null, .null, .null, .int 0, .int 0, .int 0])), (q1, .inr (0, [.ref r2_0, .int (iI ((0 : Nat) : Int))])), (r2_0, zArr cA2 36 (fun _ => 0)), (q3, .inr (1, [.ref r4_0, .ref r4_1, .ref r4_2])), (r4_0, zArr cA2 64 (fun _ => 0)), (r4_1, zArr cA2 64 (uZ (fun _ => 0) 0 ((1 : Nat) : Int))), (r4_2, zArr cA2 6 (fun _ => 0))] := hD
  refine va_putF (D := D) (ci := 2) (v := .ref q3) (ty := (.object "RentHarmony$Giving")) (C := RX2) (T := TX2) (N := 9) hx hb hts (by decide +kernel) tyX2 tyX2_ok nmX2 hown hK hP hD hS 0 rfl rfl 1 (by decide) (hts (.fieldLink RX2 19 "RentHarmony" "giving" "LRentHarmony$Giving;") (by decide +kernel)) (fun _ h9 => h9) rfl hin rfl (by decide +kernel) rfl rfl (Nat.le_of_ble_eq_true rfl) dX2_init_23 (fun H locs hP hD hS => ?_)
  have hP : va_P D vwCl [(a, .inr (2, [.ref q1, .ref q3, .null, .null, .null, .null, .int 0, .int 0, .int 0])), (q1, .inr (0, [.ref r2_0, .int (iI ((0 : Nat) : Int))])), (r2_0, zArr cA2 36 (fun _ => 0)), (q3, .inr (1, [.ref r4_0, .ref r4_1, .ref r4_2])), (r4_0, zArr cA2 64 (fun _ => 0)), (r4_1, zArr cA2 64 (uZ (fun _ => 0) 0 ((1 : Nat) : Int))), (r4_2, zArr cA2 6 (fun _ => 0))] H := hP
  have hD : va_D A [(a, .inr (2, [.ref q1, .ref q3, .null, .null, .null, .null, .int 0, .int 0, .int 0])), (q1, .inr (0, [.ref r2_0, .int (iI ((0 : Nat) : Int))])), (r2_0, zArr cA2 36 (fun _ => 0)), (q3, .inr (1, [.ref r4_0, .ref r4_1, .ref r4_2])), (r4_0, zArr cA2 64 (fun _ => 0)), (r4_1, zArr cA2 64 (uZ (fun _ => 0) 0 ((1 : Nat) : Int))), (r4_2, zArr cA2 6 (fun _ => 0))] := hD
  refine lv_aload_n hx hb dX2_init_26 rfl (lv_at hl 0 rfl) ?_
  refine va_new (ci := 0) (fs := [.null, .int 0]) (C := RX0) (T := TX0) (N := 2) hx hb hts (by decide +kernel) tyX0 tyX0_ok hown (hts (.classLink RX2 7 RX0) (by decide +kernel)) (hts (.instantiable RX0 2) (by decide +kernel)) (hts (.initialized RX0) (by decide +kernel)) hK hP hD hS hA rfl (fun j hj => by rcases (show j = 0 ∨ j = 1 by omega) with rfl | rfl <;> rfl) (Nat.le_of_ble_eq_true rfl) (Nat.le_of_ble_eq_true rfl) dX2_init_27 (fun q5 H hP hD hS => ?_)
  have hP : va_P D vwCl [(a, .inr (2, [.ref q1, .ref q3, .null, .null, .null, .null, .int 0, .int 0, .int 0])), (q1, .inr (0, [.ref r2_0, .int (iI ((0 : Nat) : Int))])), (r2_0, zArr cA2 36 (fun _ => 0)), (q3, .inr (1, [.ref r4_0, .ref r4_1, .ref r4_2])), (r4_0, zArr cA2 64 (fun _ => 0)), (r4_1, zArr cA2 64 (uZ (fun _ => 0) 0 ((1 : Nat) : Int))), (r4_2, zArr cA2 6 (fun _ => 0)), (q5, .inr (0, [.null, .int 0]))] H := hP
  have hD : va_D A [(a, .inr (2, [.ref q1, .ref q3, .null, .null, .null, .null, .int 0, .int 0, .int 0])), (q1, .inr (0, [.ref r2_0, .int (iI ((0 : Nat) : Int))])), (r2_0, zArr cA2 36 (fun _ => 0)), (q3, .inr (1, [.ref r4_0, .ref r4_1, .ref r4_2])), (r4_0, zArr cA2 64 (fun _ => 0)), (r4_1, zArr cA2 64 (uZ (fun _ => 0) 0 ((1 : Nat) : Int))), (r4_2, zArr cA2 6 (fun _ => 0)), (q5, .inr (0, [.null, .int 0]))] := hD
  refine lv_dup hx hb dX2_init_30 rfl ?_
  have hPc := hP.sub (ws' := [(q5, .inr (0, [.null, .int 0]))]) [7] rfl
  have hDc := hD.sub (ws' := [(q5, .inr (0, [.null, .int 0]))]) [7] (by decide) rfl
  have hKc := hK.sub (tys' := []) [] rfl
  have hFc := va_free (wc := [(q5, .inr (0, [.null, .int 0]))]) hD hS hA [7] rfl
  refine va_callv (va_runIN (As := []) (rest := [.ref q5, .ref a]) ⟨hx, hb, hml, hown, hts⟩ (c_X0_init l D q5 H.size) ⟨va_cnB 0 hts gX2_init_X0_init_n9 rfl rfl rfl hnest (hts (.initialized RX0) (by decide +kernel)) (by decide +kernel) ⟨Nat.le_of_ble_eq_true rfl, Nat.le_of_ble_eq_true rfl⟩, rfl, (hts (.instanceMethod yX0_init) (by decide +kernel))⟩ ⟨fun a U g mk q => by obtain ⟨q0, q1, qP, qK, qD⟩ := q; exact ⟨q0, q1, qP, va_K.moved (u := U) (U := U.calling g mk a) (Vm.Alike.refl U.vm) qK, qD⟩, fun U hU hW => ⟨rfl, by rw [hU], by rw [hU]; exact hPc, va_K.moved hW.alike hKc, hDc.weaken (fun _ _ _ _ => trivial)⟩⟩ rfl rfl hl.1 rfl (lv_room (Nat.le_of_ble_eq_true rfl)) dX2_init_31 ⟨Nat.le_of_ble_eq_true rfl, Nat.le_of_ble_eq_true rfl⟩) hS (fun q _ h => hFc q h) hFc (fun u t H1 locs ht hvm hw hB hz1 hk1 hS => ?_)
  obtain ⟨cA6, r6_0⟩ := u
  obtain ⟨hP1, hK1, hD1⟩ := hB
  rw [ht] at hP1
  have hK1 := va_K.moved hvm.symm hK1
  dsimp only at hP1 hK1 hD1
  have e6 : cA6 = cA2 := zKi hK hK1
  rw [e6] at hP1 hK1 hD1
  obtain ⟨hP, hD⟩ := va_join (wr := [(a, .inr (2, [.ref q1, .ref q3, .null, .null, .null, .null, .int 0, .int 0, .int 0])), (q1, .inr (0, [.ref r2_0, .int (iI ((0 : Nat) : Int))])), (r2_0, zArr cA2 36 (fun _ => 0)), (q3, .inr (1, [.ref r4_0, .ref r4_1, .ref r4_2])), (r4_0, zArr cA2 64 (fun _ => 0)), (r4_1, zArr cA2 64 (uZ (fun _ => 0) 0 ((1 : Nat) : Int))), (r4_2, zArr cA2 6 (fun _ => 0))]) (w1 := [(q5, .inr (0, [.ref r6_0, .int (iI ((0 : Nat) : Int))])), (r6_0, zArr cA2 36 (fun _ => 0))]) hP hD [7] [0, 1, 2, 3, 4, 5, 6] rfl rfl (by decide) (by decide) hk1 hFc hP1 hD1
  have hK : va_K D vwCl [(cA2, .int)] s := hK1
  generalize H1 = H at hP hS ⊢
  have hP : va_P D vwCl [(a, .inr (2, [.ref q1, .ref q3, .null, .null, .null, .null, .int 0, .int 0, .int 0])), (q1, .inr (0, [.ref r2_0, .int (iI ((0 : Nat) : Int))])), (r2_0, zArr cA2 36 (fun _ => 0)), (q3, .inr (1, [.ref r4_0, .ref r4_1, .ref r4_2])), (r4_0, zArr cA2 64 (fun _ => 0)), (r4_1, zArr cA2 64 (uZ (fun _ => 0) 0 ((1 : Nat) : Int))), (r4_2, zArr cA2 6 (fun _ => 0)), (q5, .inr (0, [.ref r6_0, .int (iI ((0 : Nat) : Int))])), (r6_0, zArr cA2 36 (fun _ => 0))] H := hP
  have hD : va_D A [(a, .inr (2, [.ref q1, .ref q3, .null, .null, .null, .null, .int 0, .int 0, .int 0])), (q1, .inr (0, [.ref r2_0, .int (iI ((0 : Nat) : Int))])), (r2_0, zArr cA2 36 (fun _ => 0)), (q3, .inr (1, [.ref r4_0, .ref r4_1, .ref r4_2])), (r4_0, zArr cA2 64 (fun _ => 0)), (r4_1, zArr cA2 64 (uZ (fun _ => 0) 0 ((1 : Nat) : Int))), (r4_2, zArr cA2 6 (fun _ => 0)), (q5, .inr (0, [.ref r6_0, .int (iI ((0 : Nat) : Int))])), (r6_0, zArr cA2 36 (fun _ => 0))] := hD
  refine va_putF (D := D) (ci := 2) (v := .ref q5) (ty := (.object "RentHarmony$Bids")) (C := RX2) (T := TX2) (N := 9) hx hb hts (by decide +kernel) tyX2 tyX2_ok nmX2 hown hK hP hD hS 0 rfl rfl 2 (by decide) (hts (.fieldLink RX2 23 "RentHarmony" "triedBids" "LRentHarmony$Bids;") (by decide +kernel)) (fun _ h9 => h9) rfl hin rfl (by decide +kernel) rfl rfl (Nat.le_of_ble_eq_true rfl) dX2_init_34 (fun H locs hP hD hS => ?_)
  have hP : va_P D vwCl [(a, .inr (2, [.ref q1, .ref q3, .ref q5, .null, .null, .null, .int 0, .int 0, .int 0])), (q1, .inr (0, [.ref r2_0, .int (iI ((0 : Nat) : Int))])), (r2_0, zArr cA2 36 (fun _ => 0)), (q3, .inr (1, [.ref r4_0, .ref r4_1, .ref r4_2])), (r4_0, zArr cA2 64 (fun _ => 0)), (r4_1, zArr cA2 64 (uZ (fun _ => 0) 0 ((1 : Nat) : Int))), (r4_2, zArr cA2 6 (fun _ => 0)), (q5, .inr (0, [.ref r6_0, .int (iI ((0 : Nat) : Int))])), (r6_0, zArr cA2 36 (fun _ => 0))] H := hP
  have hD : va_D A [(a, .inr (2, [.ref q1, .ref q3, .ref q5, .null, .null, .null, .int 0, .int 0, .int 0])), (q1, .inr (0, [.ref r2_0, .int (iI ((0 : Nat) : Int))])), (r2_0, zArr cA2 36 (fun _ => 0)), (q3, .inr (1, [.ref r4_0, .ref r4_1, .ref r4_2])), (r4_0, zArr cA2 64 (fun _ => 0)), (r4_1, zArr cA2 64 (uZ (fun _ => 0) 0 ((1 : Nat) : Int))), (r4_2, zArr cA2 6 (fun _ => 0)), (q5, .inr (0, [.ref r6_0, .int (iI ((0 : Nat) : Int))])), (r6_0, zArr cA2 36 (fun _ => 0))] := hD
  refine lv_aload_n hx hb dX2_init_37 rfl (lv_at hl 0 rfl) ?_
  refine va_new (ci := 1) (fs := [.null, .null, .null]) (C := RX1) (T := TX1) (N := 3) hx hb hts (by decide +kernel) tyX1 tyX1_ok hown (hts (.classLink RX2 16 RX1) (by decide +kernel)) (hts (.instantiable RX1 3) (by decide +kernel)) (hts (.initialized RX1) (by decide +kernel)) hK hP hD hS hA rfl (fun j hj => by rcases (show j = 0 ∨ j = 1 ∨ j = 2 by omega) with rfl | rfl | rfl <;> rfl) (Nat.le_of_ble_eq_true rfl) (Nat.le_of_ble_eq_true rfl) dX2_init_38 (fun q7 H hP hD hS => ?_)
  have hP : va_P D vwCl [(a, .inr (2, [.ref q1, .ref q3, .ref q5, .null, .null, .null, .int 0, .int 0, .int 0])), (q1, .inr (0, [.ref r2_0, .int (iI ((0 : Nat) : Int))])), (r2_0, zArr cA2 36 (fun _ => 0)), (q3, .inr (1, [.ref r4_0, .ref r4_1, .ref r4_2])), (r4_0, zArr cA2 64 (fun _ => 0)), (r4_1, zArr cA2 64 (uZ (fun _ => 0) 0 ((1 : Nat) : Int))), (r4_2, zArr cA2 6 (fun _ => 0)), (q5, .inr (0, [.ref r6_0, .int (iI ((0 : Nat) : Int))])), (r6_0, zArr cA2 36 (fun _ => 0)), (q7, .inr (1, [.null, .null, .null]))] H := hP
  have hD : va_D A [(a, .inr (2, [.ref q1, .ref q3, .ref q5, .null, .null, .null, .int 0, .int 0, .int 0])), (q1, .inr (0, [.ref r2_0, .int (iI ((0 : Nat) : Int))])), (r2_0, zArr cA2 36 (fun _ => 0)), (q3, .inr (1, [.ref r4_0, .ref r4_1, .ref r4_2])), (r4_0, zArr cA2 64 (fun _ => 0)), (r4_1, zArr cA2 64 (uZ (fun _ => 0) 0 ((1 : Nat) : Int))), (r4_2, zArr cA2 6 (fun _ => 0)), (q5, .inr (0, [.ref r6_0, .int (iI ((0 : Nat) : Int))])), (r6_0, zArr cA2 36 (fun _ => 0)), (q7, .inr (1, [.null, .null, .null]))] := hD
  refine lv_dup hx hb dX2_init_41 rfl ?_
  have hPc := hP.sub (ws' := [(q7, .inr (1, [.null, .null, .null]))]) [9] rfl
  have hDc := hD.sub (ws' := [(q7, .inr (1, [.null, .null, .null]))]) [9] (by decide) rfl
  have hKc := hK.sub (tys' := []) [] rfl
  have hFc := va_free (wc := [(q7, .inr (1, [.null, .null, .null]))]) hD hS hA [9] rfl
  refine va_callv (va_runI (As := []) (rest := [.ref q7, .ref a]) ⟨hx, hb, hml, hown, hts⟩ (c_X1_init l D q7 H.size) (cwI 0 hts gX2_init_X1_init rfl rfl rfl (hts (.initialized RX1) (by decide +kernel)) (hts (.methodLink RX2 18 yX1_init) (by decide +kernel)) (hts (.instanceMethod yX1_init) (by decide +kernel)) rfl (by decide +kernel) ⟨Nat.le_of_ble_eq_true rfl, Nat.le_of_ble_eq_true rfl⟩) ⟨fun a U g mk q => by obtain ⟨q0, q1, qP, qK, qD⟩ := q; exact ⟨q0, q1, qP, va_K.moved (u := U) (U := U.calling g mk a) (Vm.Alike.refl U.vm) qK, qD⟩, fun U hU hW => ⟨rfl, by rw [hU], by rw [hU]; exact hPc, va_K.moved hW.alike hKc, hDc.weaken (fun _ _ _ _ => trivial)⟩⟩ rfl rfl hl.1 rfl (lv_room (Nat.le_of_ble_eq_true rfl)) dX2_init_42 ⟨Nat.le_of_ble_eq_true rfl, Nat.le_of_ble_eq_true rfl⟩) hS (fun q _ h => hFc q h) hFc (fun u t H1 locs ht hvm hw hB hz1 hk1 hS => ?_)
  obtain ⟨cA8, r8_0, r8_1, r8_2⟩ := u
  obtain ⟨hP1, hK1, hD1⟩ := hB
  rw [ht] at hP1
  have hK1 := va_K.moved hvm.symm hK1
  dsimp only at hP1 hK1 hD1
  have e8 : cA8 = cA2 := zKi hK hK1
  rw [e8] at hP1 hK1 hD1
  obtain ⟨hP, hD⟩ := va_join (wr := [(a, .inr (2, [.ref q1, .ref q3, .ref q5, .null, .null, .null, .int 0, .int 0, .int 0])), (q1, .inr (0, [.ref r2_0, .int (iI ((0 : Nat) : Int))])), (r2_0, zArr cA2 36 (fun _ => 0)), (q3, .inr (1, [.ref r4_0, .ref r4_1, .ref r4_2])), (r4_0, zArr cA2 64 (fun _ => 0)), (r4_1, zArr cA2 64 (uZ (fun _ => 0) 0 ((1 : Nat) : Int))), (r4_2, zArr cA2 6 (fun _ => 0)), (q5, .inr (0, [.ref r6_0, .int (iI ((0 : Nat) : Int))])), (r6_0, zArr cA2 36 (fun _ => 0))]) (w1 := [(q7, .inr (1, [.ref r8_0, .ref r8_1, .ref r8_2])), (r8_0, zArr cA2 64 (fun _ => 0)), (r8_1, zArr cA2 64 (uZ (fun _ => 0) 0 ((1 : Nat) : Int))), (r8_2, zArr cA2 6 (fun _ => 0))]) hP hD [9] [0, 1, 2, 3, 4, 5, 6, 7, 8] rfl rfl (by decide) (by decide) hk1 hFc hP1 hD1
  have hK : va_K D vwCl [(cA2, .int)] s := hK1
  generalize H1 = H at hP hS ⊢
  have hP : va_P D vwCl [(a, .inr (2, [.ref q1, .ref q3, .ref q5, .null, .null, .null, .int 0, .int 0, .int 0])), (q1, .inr (0, [.ref r2_0, .int (iI ((0 : Nat) : Int))])), (r2_0, zArr cA2 36 (fun _ => 0)), (q3, .inr (1, [.ref r4_0, .ref r4_1, .ref r4_2])), (r4_0, zArr cA2 64 (fun _ => 0)), (r4_1, zArr cA2 64 (uZ (fun _ => 0) 0 ((1 : Nat) : Int))), (r4_2, zArr cA2 6 (fun _ => 0)), (q5, .inr (0, [.ref r6_0, .int (iI ((0 : Nat) : Int))])), (r6_0, zArr cA2 36 (fun _ => 0)), (q7, .inr (1, [.ref r8_0, .ref r8_1, .ref r8_2])), (r8_0, zArr cA2 64 (fun _ => 0)), (r8_1, zArr cA2 64 (uZ (fun _ => 0) 0 ((1 : Nat) : Int))), (r8_2, zArr cA2 6 (fun _ => 0))] H := hP
  have hD : va_D A [(a, .inr (2, [.ref q1, .ref q3, .ref q5, .null, .null, .null, .int 0, .int 0, .int 0])), (q1, .inr (0, [.ref r2_0, .int (iI ((0 : Nat) : Int))])), (r2_0, zArr cA2 36 (fun _ => 0)), (q3, .inr (1, [.ref r4_0, .ref r4_1, .ref r4_2])), (r4_0, zArr cA2 64 (fun _ => 0)), (r4_1, zArr cA2 64 (uZ (fun _ => 0) 0 ((1 : Nat) : Int))), (r4_2, zArr cA2 6 (fun _ => 0)), (q5, .inr (0, [.ref r6_0, .int (iI ((0 : Nat) : Int))])), (r6_0, zArr cA2 36 (fun _ => 0)), (q7, .inr (1, [.ref r8_0, .ref r8_1, .ref r8_2])), (r8_0, zArr cA2 64 (fun _ => 0)), (r8_1, zArr cA2 64 (uZ (fun _ => 0) 0 ((1 : Nat) : Int))), (r8_2, zArr cA2 6 (fun _ => 0))] := hD
  refine va_putF (D := D) (ci := 2) (v := .ref q7) (ty := (.object "RentHarmony$Giving")) (C := RX2) (T := TX2) (N := 9) hx hb hts (by decide +kernel) tyX2 tyX2_ok nmX2 hown hK hP hD hS 0 rfl rfl 3 (by decide) (hts (.fieldLink RX2 26 "RentHarmony" "triedGiving" "LRentHarmony$Giving;") (by decide +kernel)) (fun _ h9 => h9) rfl hin rfl (by decide +kernel) rfl rfl (Nat.le_of_ble_eq_true rfl) dX2_init_45 (fun H locs hP hD hS => ?_)
  have hP : va_P D vwCl [(a, .inr (2, [.ref q1, .ref q3, .ref q5, .ref q7, .null, .null, .int 0, .int 0, .int 0])), (q1, .inr (0, [.ref r2_0, .int (iI ((0 : Nat) : Int))])), (r2_0, zArr cA2 36 (fun _ => 0)), (q3, .inr (1, [.ref r4_0, .ref r4_1, .ref r4_2])), (r4_0, zArr cA2 64 (fun _ => 0)), (r4_1, zArr cA2 64 (uZ (fun _ => 0) 0 ((1 : Nat) : Int))), (r4_2, zArr cA2 6 (fun _ => 0)), (q5, .inr (0, [.ref r6_0, .int (iI ((0 : Nat) : Int))])), (r6_0, zArr cA2 36 (fun _ => 0)), (q7, .inr (1, [.ref r8_0, .ref r8_1, .ref r8_2])), (r8_0, zArr cA2 64 (fun _ => 0)), (r8_1, zArr cA2 64 (uZ (fun _ => 0) 0 ((1 : Nat) : Int))), (r8_2, zArr cA2 6 (fun _ => 0))] H := hP
  have hD : va_D A [(a, .inr (2, [.ref q1, .ref q3, .ref q5, .ref q7, .null, .null, .int 0, .int 0, .int 0])), (q1, .inr (0, [.ref r2_0, .int (iI ((0 : Nat) : Int))])), (r2_0, zArr cA2 36 (fun _ => 0)), (q3, .inr (1, [.ref r4_0, .ref r4_1, .ref r4_2])), (r4_0, zArr cA2 64 (fun _ => 0)), (r4_1, zArr cA2 64 (uZ (fun _ => 0) 0 ((1 : Nat) : Int))), (r4_2, zArr cA2 6 (fun _ => 0)), (q5, .inr (0, [.ref r6_0, .int (iI ((0 : Nat) : Int))])), (r6_0, zArr cA2 36 (fun _ => 0)), (q7, .inr (1, [.ref r8_0, .ref r8_1, .ref r8_2])), (r8_0, zArr cA2 64 (fun _ => 0)), (r8_1, zArr cA2 64 (uZ (fun _ => 0) 0 ((1 : Nat) : Int))), (r8_2, zArr cA2 6 (fun _ => 0))] := hD
  refine lv_aload_n hx hb dX2_init_48 rfl (lv_at hl 0 rfl) ?_
  refine zr_bi (n := 6) hx hb dX2_init_49 rfl ?_
  have hK0 := hK.sub (tys' := []) [] rfl
  refine va_newa (atype := .int) (ty := .int) (a0 := (6, .inl (fun _ => iI 0))) hx hb (hts (.arrayClass .int) (by decide +kernel)) rfl hK0 hP hD hS hA (n := iI 6) (N' := 6) (fun cA => rfl) (by decide) (by decide) (by decide) (Nat.le_of_ble_eq_true rfl) (Nat.le_of_ble_eq_true rfl) dX2_init_51 (fun q9 cA9 H hK9 hP hD hS => ?_)
  have e9 := zKi hK hK9
  rw [e9] at hP hD
  have hP : va_P D vwCl [(a, .inr (2, [.ref q1, .ref q3, .ref q5, .ref q7, .null, .null, .int 0, .int 0, .int 0])), (q1, .inr (0, [.ref r2_0, .int (iI ((0 : Nat) : Int))])), (r2_0, zArr cA2 36 (fun _ => 0)), (q3, .inr (1, [.ref r4_0, .ref r4_1, .ref r4_2])), (r4_0, zArr cA2 64 (fun _ => 0)), (r4_1, zArr cA2 64 (uZ (fun _ => 0) 0 ((1 : Nat) : Int))), (r4_2, zArr cA2 6 (fun _ => 0)), (q5, .inr (0, [.ref r6_0, .int (iI ((0 : Nat) : Int))])), (r6_0, zArr cA2 36 (fun _ => 0)), (q7, .inr (1, [.ref r8_0, .ref r8_1, .ref r8_2])), (r8_0, zArr cA2 64 (fun _ => 0)), (r8_1, zArr cA2 64 (uZ (fun _ => 0) 0 ((1 : Nat) : Int))), (r8_2, zArr cA2 6 (fun _ => 0)), (q9, zArr cA2 6 (fun _ => 0))] H := hP
  have hD : va_D A [(a, .inr (2, [.ref q1, .ref q3, .ref q5, .ref q7, .null, .null, .int 0, .int 0, .int 0])), (q1, .inr (0, [.ref r2_0, .int (iI ((0 : Nat) : Int))])), (r2_0, zArr cA2 36 (fun _ => 0)), (q3, .inr (1, [.ref r4_0, .ref r4_1, .ref r4_2])), (r4_0, zArr cA2 64 (fun _ => 0)), (r4_1, zArr cA2 64 (uZ (fun _ => 0) 0 ((1 : Nat) : Int))), (r4_2, zArr cA2 6 (fun _ => 0)), (q5, .inr (0, [.ref r6_0, .int (iI ((0 : Nat) : Int))])), (r6_0, zArr cA2 36 (fun _ => 0)), (q7, .inr (1, [.ref r8_0, .ref r8_1, .ref r8_2])), (r8_0, zArr cA2 64 (fun _ => 0)), (r8_1, zArr cA2 64 (uZ (fun _ => 0) 0 ((1 : Nat) : Int))), (r8_2, zArr cA2 6 (fun _ => 0)), (q9, zArr cA2 6 (fun _ => 0))] := hD
  refine va_putF (D := D) (ci := 2) (v := .ref q9) (ty := (.array .int)) (C := RX2) (T := TX2) (N := 9) hx hb hts (by decide +kernel) tyX2 tyX2_ok nmX2 hown hK hP hD hS 0 rfl rfl 4 (by decide) (hts (.fieldLink RX2 29 "RentHarmony" "firstRebates" "[I") (by decide +kernel)) (fun _ h9 => h9) rfl hin rfl (by decide +kernel) rfl rfl (Nat.le_of_ble_eq_true rfl) dX2_init_53 (fun H locs hP hD hS => ?_)
  have hP : va_P D vwCl [(a, .inr (2, [.ref q1, .ref q3, .ref q5, .ref q7, .ref q9, .null, .int 0, .int 0, .int 0])), (q1, .inr (0, [.ref r2_0, .int (iI ((0 : Nat) : Int))])), (r2_0, zArr cA2 36 (fun _ => 0)), (q3, .inr (1, [.ref r4_0, .ref r4_1, .ref r4_2])), (r4_0, zArr cA2 64 (fun _ => 0)), (r4_1, zArr cA2 64 (uZ (fun _ => 0) 0 ((1 : Nat) : Int))), (r4_2, zArr cA2 6 (fun _ => 0)), (q5, .inr (0, [.ref r6_0, .int (iI ((0 : Nat) : Int))])), (r6_0, zArr cA2 36 (fun _ => 0)), (q7, .inr (1, [.ref r8_0, .ref r8_1, .ref r8_2])), (r8_0, zArr cA2 64 (fun _ => 0)), (r8_1, zArr cA2 64 (uZ (fun _ => 0) 0 ((1 : Nat) : Int))), (r8_2, zArr cA2 6 (fun _ => 0)), (q9, zArr cA2 6 (fun _ => 0))] H := hP
  have hD : va_D A [(a, .inr (2, [.ref q1, .ref q3, .ref q5, .ref q7, .ref q9, .null, .int 0, .int 0, .int 0])), (q1, .inr (0, [.ref r2_0, .int (iI ((0 : Nat) : Int))])), (r2_0, zArr cA2 36 (fun _ => 0)), (q3, .inr (1, [.ref r4_0, .ref r4_1, .ref r4_2])), (r4_0, zArr cA2 64 (fun _ => 0)), (r4_1, zArr cA2 64 (uZ (fun _ => 0) 0 ((1 : Nat) : Int))), (r4_2, zArr cA2 6 (fun _ => 0)), (q5, .inr (0, [.ref r6_0, .int (iI ((0 : Nat) : Int))])), (r6_0, zArr cA2 36 (fun _ => 0)), (q7, .inr (1, [.ref r8_0, .ref r8_1, .ref r8_2])), (r8_0, zArr cA2 64 (fun _ => 0)), (r8_1, zArr cA2 64 (uZ (fun _ => 0) 0 ((1 : Nat) : Int))), (r8_2, zArr cA2 6 (fun _ => 0)), (q9, zArr cA2 6 (fun _ => 0))] := hD
  refine lv_aload_n hx hb dX2_init_56 rfl (lv_at hl 0 rfl) ?_
  refine zr_bi (n := 6) hx hb dX2_init_57 rfl ?_
  have hK0 := hK.sub (tys' := []) [] rfl
  refine va_newa (atype := .int) (ty := .int) (a0 := (6, .inl (fun _ => iI 0))) hx hb (hts (.arrayClass .int) (by decide +kernel)) rfl hK0 hP hD hS hA (n := iI 6) (N' := 6) (fun cA => rfl) (by decide) (by decide) (by decide) (Nat.le_of_ble_eq_true rfl) (Nat.le_of_ble_eq_true rfl) dX2_init_59 (fun q10 cA10 H hK10 hP hD hS => ?_)
  have e10 := zKi hK hK10
  rw [e10] at hP hD
  have hP : va_P D vwCl [(a, .inr (2, [.ref q1, .ref q3, .ref q5, .ref q7, .ref q9, .null, .int 0, .int 0, .int 0])), (q1, .inr (0, [.ref r2_0, .int (iI ((0 : Nat) : Int))])), (r2_0, zArr cA2 36 (fun _ => 0)), (q3, .inr (1, [.ref r4_0, .ref r4_1, .ref r4_2])), (r4_0, zArr cA2 64 (fun _ => 0)), (r4_1, zArr cA2 64 (uZ (fun _ => 0) 0 ((1 : Nat) : Int))), (r4_2, zArr cA2 6 (fun _ => 0)), (q5, .inr (0, [.ref r6_0, .int (iI ((0 : Nat) : Int))])), (r6_0, zArr cA2 36 (fun _ => 0)), (q7, .inr (1, [.ref r8_0, .ref r8_1, .ref r8_2])), (r8_0, zArr cA2 64 (fun _ => 0)), (r8_1, zArr cA2 64 (uZ (fun _ => 0) 0 ((1 : Nat) : Int))), (r8_2, zArr cA2 6 (fun _ => 0)), (q9, zArr cA2 6 (fun _ => 0)), (q10, zArr cA2 6 (fun _ => 0))] H := hP
  have hD : va_D A [(a, .inr (2, [.ref q1, .ref q3, .ref q5, .ref q7, .ref q9, .null, .int 0, .int 0, .int 0])), (q1, .inr (0, [.ref r2_0, .int (iI ((0 : Nat) : Int))])), (r2_0, zArr cA2 36 (fun _ => 0)), (q3, .inr (1, [.ref r4_0, .ref r4_1, .ref r4_2])), (r4_0, zArr cA2 64 (fun _ => 0)), (r4_1, zArr cA2 64 (uZ (fun _ => 0) 0 ((1 : Nat) : Int))), (r4_2, zArr cA2 6 (fun _ => 0)), (q5, .inr (0, [.ref r6_0, .int (iI ((0 : Nat) : Int))])), (r6_0, zArr cA2 36 (fun _ => 0)), (q7, .inr (1, [.ref r8_0, .ref r8_1, .ref r8_2])), (r8_0, zArr cA2 64 (fun _ => 0)), (r8_1, zArr cA2 64 (uZ (fun _ => 0) 0 ((1 : Nat) : Int))), (r8_2, zArr cA2 6 (fun _ => 0)), (q9, zArr cA2 6 (fun _ => 0)), (q10, zArr cA2 6 (fun _ => 0))] := hD
  refine va_putF (D := D) (ci := 2) (v := .ref q10) (ty := (.array .int)) (C := RX2) (T := TX2) (N := 9) hx hb hts (by decide +kernel) tyX2 tyX2_ok nmX2 hown hK hP hD hS 0 rfl rfl 5 (by decide) (hts (.fieldLink RX2 33 "RentHarmony" "chains" "[I") (by decide +kernel)) (fun _ h9 => h9) rfl hin rfl (by decide +kernel) rfl rfl (Nat.le_of_ble_eq_true rfl) dX2_init_61 (fun H locs hP hD hS => ?_)
  have hP : va_P D vwCl [(a, .inr (2, [.ref q1, .ref q3, .ref q5, .ref q7, .ref q9, .ref q10, .int 0, .int 0, .int 0])), (q1, .inr (0, [.ref r2_0, .int (iI ((0 : Nat) : Int))])), (r2_0, zArr cA2 36 (fun _ => 0)), (q3, .inr (1, [.ref r4_0, .ref r4_1, .ref r4_2])), (r4_0, zArr cA2 64 (fun _ => 0)), (r4_1, zArr cA2 64 (uZ (fun _ => 0) 0 ((1 : Nat) : Int))), (r4_2, zArr cA2 6 (fun _ => 0)), (q5, .inr (0, [.ref r6_0, .int (iI ((0 : Nat) : Int))])), (r6_0, zArr cA2 36 (fun _ => 0)), (q7, .inr (1, [.ref r8_0, .ref r8_1, .ref r8_2])), (r8_0, zArr cA2 64 (fun _ => 0)), (r8_1, zArr cA2 64 (uZ (fun _ => 0) 0 ((1 : Nat) : Int))), (r8_2, zArr cA2 6 (fun _ => 0)), (q9, zArr cA2 6 (fun _ => 0)), (q10, zArr cA2 6 (fun _ => 0))] H := hP
  have hD : va_D A [(a, .inr (2, [.ref q1, .ref q3, .ref q5, .ref q7, .ref q9, .ref q10, .int 0, .int 0, .int 0])), (q1, .inr (0, [.ref r2_0, .int (iI ((0 : Nat) : Int))])), (r2_0, zArr cA2 36 (fun _ => 0)), (q3, .inr (1, [.ref r4_0, .ref r4_1, .ref r4_2])), (r4_0, zArr cA2 64 (fun _ => 0)), (r4_1, zArr cA2 64 (uZ (fun _ => 0) 0 ((1 : Nat) : Int))), (r4_2, zArr cA2 6 (fun _ => 0)), (q5, .inr (0, [.ref r6_0, .int (iI ((0 : Nat) : Int))])), (r6_0, zArr cA2 36 (fun _ => 0)), (q7, .inr (1, [.ref r8_0, .ref r8_1, .ref r8_2])), (r8_0, zArr cA2 64 (fun _ => 0)), (r8_1, zArr cA2 64 (uZ (fun _ => 0) 0 ((1 : Nat) : Int))), (r8_2, zArr cA2 6 (fun _ => 0)), (q9, zArr cA2 6 (fun _ => 0)), (q10, zArr cA2 6 (fun _ => 0))] := hD
  refine lv_aload_n hx hb dX2_init_64 rfl (lv_at hl 0 rfl) ?_
  refine zr_ic (n := ((0 : Nat) : Int)) hx hb dX2_init_65 ?_
  refine va_put (D := D) (ci := 2) (v := .int (iI ((0 : Nat) : Int))) (ty := .int) (C := RX2) (T := TX2) (N := 9) hx hb hts (by decide +kernel) tyX2 tyX2_ok nmX2 hown hK hP hD hS 0 rfl rfl 6 (by decide) (hts (.fieldLink RX2 36 "RentHarmony" "rentCoins" "I") (by decide +kernel)) (fun _ h9 => h9) rfl (by decide +kernel) rfl rfl (Nat.le_of_ble_eq_true rfl) dX2_init_66 (fun H locs hP hD hS => ?_)
  have hP : va_P D vwCl [(a, .inr (2, [.ref q1, .ref q3, .ref q5, .ref q7, .ref q9, .ref q10, .int (iI ((0 : Nat) : Int)), .int 0, .int 0])), (q1, .inr (0, [.ref r2_0, .int (iI ((0 : Nat) : Int))])), (r2_0, zArr cA2 36 (fun _ => 0)), (q3, .inr (1, [.ref r4_0, .ref r4_1, .ref r4_2])), (r4_0, zArr cA2 64 (fun _ => 0)), (r4_1, zArr cA2 64 (uZ (fun _ => 0) 0 ((1 : Nat) : Int))), (r4_2, zArr cA2 6 (fun _ => 0)), (q5, .inr (0, [.ref r6_0, .int (iI ((0 : Nat) : Int))])), (r6_0, zArr cA2 36 (fun _ => 0)), (q7, .inr (1, [.ref r8_0, .ref r8_1, .ref r8_2])), (r8_0, zArr cA2 64 (fun _ => 0)), (r8_1, zArr cA2 64 (uZ (fun _ => 0) 0 ((1 : Nat) : Int))), (r8_2, zArr cA2 6 (fun _ => 0)), (q9, zArr cA2 6 (fun _ => 0)), (q10, zArr cA2 6 (fun _ => 0))] H := hP
  have hD : va_D A [(a, .inr (2, [.ref q1, .ref q3, .ref q5, .ref q7, .ref q9, .ref q10, .int (iI ((0 : Nat) : Int)), .int 0, .int 0])), (q1, .inr (0, [.ref r2_0, .int (iI ((0 : Nat) : Int))])), (r2_0, zArr cA2 36 (fun _ => 0)), (q3, .inr (1, [.ref r4_0, .ref r4_1, .ref r4_2])), (r4_0, zArr cA2 64 (fun _ => 0)), (r4_1, zArr cA2 64 (uZ (fun _ => 0) 0 ((1 : Nat) : Int))), (r4_2, zArr cA2 6 (fun _ => 0)), (q5, .inr (0, [.ref r6_0, .int (iI ((0 : Nat) : Int))])), (r6_0, zArr cA2 36 (fun _ => 0)), (q7, .inr (1, [.ref r8_0, .ref r8_1, .ref r8_2])), (r8_0, zArr cA2 64 (fun _ => 0)), (r8_1, zArr cA2 64 (uZ (fun _ => 0) 0 ((1 : Nat) : Int))), (r8_2, zArr cA2 6 (fun _ => 0)), (q9, zArr cA2 6 (fun _ => 0)), (q10, zArr cA2 6 (fun _ => 0))] := hD
  refine lv_aload_n hx hb dX2_init_69 rfl (lv_at hl 0 rfl) ?_
  refine zr_ic (n := ((0 : Nat) : Int)) hx hb dX2_init_70 ?_
  refine va_put (D := D) (ci := 2) (v := .int (iI ((0 : Nat) : Int))) (ty := .int) (C := RX2) (T := TX2) (N := 9) hx hb hts (by decide +kernel) tyX2 tyX2_ok nmX2 hown hK hP hD hS 0 rfl rfl 7 (by decide) (hts (.fieldLink RX2 40 "RentHarmony" "share" "I") (by decide +kernel)) (fun _ h9 => h9) rfl (by decide +kernel) rfl rfl (Nat.le_of_ble_eq_true rfl) dX2_init_71 (fun H locs hP hD hS => ?_)
  have hP : va_P D vwCl [(a, .inr (2, [.ref q1, .ref q3, .ref q5, .ref q7, .ref q9, .ref q10, .int (iI ((0 : Nat) : Int)), .int (iI ((0 : Nat) : Int)), .int 0])), (q1, .inr (0, [.ref r2_0, .int (iI ((0 : Nat) : Int))])), (r2_0, zArr cA2 36 (fun _ => 0)), (q3, .inr (1, [.ref r4_0, .ref r4_1, .ref r4_2])), (r4_0, zArr cA2 64 (fun _ => 0)), (r4_1, zArr cA2 64 (uZ (fun _ => 0) 0 ((1 : Nat) : Int))), (r4_2, zArr cA2 6 (fun _ => 0)), (q5, .inr (0, [.ref r6_0, .int (iI ((0 : Nat) : Int))])), (r6_0, zArr cA2 36 (fun _ => 0)), (q7, .inr (1, [.ref r8_0, .ref r8_1, .ref r8_2])), (r8_0, zArr cA2 64 (fun _ => 0)), (r8_1, zArr cA2 64 (uZ (fun _ => 0) 0 ((1 : Nat) : Int))), (r8_2, zArr cA2 6 (fun _ => 0)), (q9, zArr cA2 6 (fun _ => 0)), (q10, zArr cA2 6 (fun _ => 0))] H := hP
  have hD : va_D A [(a, .inr (2, [.ref q1, .ref q3, .ref q5, .ref q7, .ref q9, .ref q10, .int (iI ((0 : Nat) : Int)), .int (iI ((0 : Nat) : Int)), .int 0])), (q1, .inr (0, [.ref r2_0, .int (iI ((0 : Nat) : Int))])), (r2_0, zArr cA2 36 (fun _ => 0)), (q3, .inr (1, [.ref r4_0, .ref r4_1, .ref r4_2])), (r4_0, zArr cA2 64 (fun _ => 0)), (r4_1, zArr cA2 64 (uZ (fun _ => 0) 0 ((1 : Nat) : Int))), (r4_2, zArr cA2 6 (fun _ => 0)), (q5, .inr (0, [.ref r6_0, .int (iI ((0 : Nat) : Int))])), (r6_0, zArr cA2 36 (fun _ => 0)), (q7, .inr (1, [.ref r8_0, .ref r8_1, .ref r8_2])), (r8_0, zArr cA2 64 (fun _ => 0)), (r8_1, zArr cA2 64 (uZ (fun _ => 0) 0 ((1 : Nat) : Int))), (r8_2, zArr cA2 6 (fun _ => 0)), (q9, zArr cA2 6 (fun _ => 0)), (q10, zArr cA2 6 (fun _ => 0))] := hD
  refine lv_aload_n hx hb dX2_init_74 rfl (lv_at hl 0 rfl) ?_
  refine zr_ic (n := ((0 : Nat) : Int)) hx hb dX2_init_75 ?_
  refine va_put (D := D) (ci := 2) (v := .int (iI ((0 : Nat) : Int))) (ty := .int) (C := RX2) (T := TX2) (N := 9) hx hb hts (by decide +kernel) tyX2 tyX2_ok nmX2 hown hK hP hD hS 0 rfl rfl 8 (by decide) (hts (.fieldLink RX2 43 "RentHarmony" "pot" "I") (by decide +kernel)) (fun _ h9 => h9) rfl (by decide +kernel) rfl rfl (Nat.le_of_ble_eq_true rfl) dX2_init_76 (fun H locs hP hD hS => ?_)
  have hP : va_P D vwCl [(a, .inr (2, [.ref q1, .ref q3, .ref q5, .ref q7, .ref q9, .ref q10, .int (iI ((0 : Nat) : Int)), .int (iI ((0 : Nat) : Int)), .int (iI ((0 : Nat) : Int))])), (q1, .inr (0, [.ref r2_0, .int (iI ((0 : Nat) : Int))])), (r2_0, zArr cA2 36 (fun _ => 0)), (q3, .inr (1, [.ref r4_0, .ref r4_1, .ref r4_2])), (r4_0, zArr cA2 64 (fun _ => 0)), (r4_1, zArr cA2 64 (uZ (fun _ => 0) 0 ((1 : Nat) : Int))), (r4_2, zArr cA2 6 (fun _ => 0)), (q5, .inr (0, [.ref r6_0, .int (iI ((0 : Nat) : Int))])), (r6_0, zArr cA2 36 (fun _ => 0)), (q7, .inr (1, [.ref r8_0, .ref r8_1, .ref r8_2])), (r8_0, zArr cA2 64 (fun _ => 0)), (r8_1, zArr cA2 64 (uZ (fun _ => 0) 0 ((1 : Nat) : Int))), (r8_2, zArr cA2 6 (fun _ => 0)), (q9, zArr cA2 6 (fun _ => 0)), (q10, zArr cA2 6 (fun _ => 0))] H := hP
  have hD : va_D A [(a, .inr (2, [.ref q1, .ref q3, .ref q5, .ref q7, .ref q9, .ref q10, .int (iI ((0 : Nat) : Int)), .int (iI ((0 : Nat) : Int)), .int (iI ((0 : Nat) : Int))])), (q1, .inr (0, [.ref r2_0, .int (iI ((0 : Nat) : Int))])), (r2_0, zArr cA2 36 (fun _ => 0)), (q3, .inr (1, [.ref r4_0, .ref r4_1, .ref r4_2])), (r4_0, zArr cA2 64 (fun _ => 0)), (r4_1, zArr cA2 64 (uZ (fun _ => 0) 0 ((1 : Nat) : Int))), (r4_2, zArr cA2 6 (fun _ => 0)), (q5, .inr (0, [.ref r6_0, .int (iI ((0 : Nat) : Int))])), (r6_0, zArr cA2 36 (fun _ => 0)), (q7, .inr (1, [.ref r8_0, .ref r8_1, .ref r8_2])), (r8_0, zArr cA2 64 (fun _ => 0)), (r8_1, zArr cA2 64 (uZ (fun _ => 0) 0 ((1 : Nat) : Int))), (r8_2, zArr cA2 6 (fun _ => 0)), (q9, zArr cA2 6 (fun _ => 0)), (q10, zArr cA2 6 (fun _ => 0))] := hD
  exact W.vret hx hb hr (fun t ht hW => ⟨⟨(cA2, q1, r2_0, q3, r4_0, r4_1, r4_2, q5, r6_0, q7, r8_0, r8_1, r8_2, q9, q10), rfl, trivial, by rw [ht]; exact hP, va_K.moved hW.alike hK, hD⟩, hS.F ht⟩) hS.2.2 dX2_init_79 hlocks
