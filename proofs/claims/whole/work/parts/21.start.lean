theorem zStr {own tx : String} {k : Nat} {A : Array Value} {s : State} (h : (Cond.stringRef own k tx).before A s = true) : ∃ a, (Term.string own k).eval A s none [] s = some (.ref a) := by
  simp only [Cond.before, Cond.holds, Cond.value] at h
  simp only [Term.eval]
  cases hr : s.resolvedAt? own k with
  | none => cases hc : s.vm.findClass own <;> simp [hr, hc] at h
  | some r =>
    cases hc : s.vm.findClass own with
    | none => simp [hr, hc] at h
    | some c0 =>
      have hr2 := hr
      simp only [State.resolvedAt?, hc, Option.bind_eq_bind, Option.bind_some] at hr2
      cases hk : s.vm.classes[c0]? with
      | none => simp [hk] at hr2
      | some kk =>
        cases hj : kk.resolved[k]? with
        | none => simp [hk, hj] at hr2
        | some rr =>
          cases rr with
          | none => simp [hk, hj] at hr2
          | some r3 =>
            cases r <;> simp_all
set_option maxHeartbeats 8000000 in
set_option maxRecDepth 100000 in
theorem whole_start {p : Program} {e : Env} {s : State} {m : MethodId} {below : List Frame} {meth : Method} {c : Code} (l : Launch) (hflags : l.flags = flags0) {b L : Nat} {xs : Nat → Int32} (hL : L ≤ 2048) (C0 : lw_At p s m meth c b L xs) : W p l e room_1 s m #[Value.ref b] below meth c s.heap [] 0 0 (lw_Z below #[Value.ref b] s) (entryFrame m ([Value.ref b] : List Value).toArray 9) := by
  obtain ⟨hx, hb, hr, hml, hown, htt, hX, hbl, hlocks, hgv⟩ := id C0
  have hfl : l.stackTraces = false := by unfold Launch.stackTraces; rw [hflags]; decide
  have hts : ∀ w ∈ wsL_law, w.before #[Value.ref b] s = true := fun w h => htt w (wsL_law_in w h)
  have hF : zFix p m c cL_law 9 s #[Value.ref b] wsL_law RL := ⟨hx, hb, hml, hown, hts⟩
  have hA : ∀ q : Nat, s.heap.size ≤ q → (fun q : Nat => s.heap.size ≤ q) q := fun _ h => h
  have hnest : va_Nw (.methodLinkNest RX2 9 yX0_init RX2) s := va_Nw.of rfl (htt (.methodLinkNest RX2 9 yX0_init RX2) (by decide +kernel))
  obtain ⟨c0, i0, hK0⟩ := u_known (C := RX0) (T := TX0) (N := 2) (n := 2) hts inlX0 (hts (.instantiable RX0 2) (by decide +kernel))
  obtain ⟨c1, i1, hK1⟩ := u_known (C := RX1) (T := TX1) (N := 3) (n := 3) hts inlX1 (hts (.instantiable RX1 3) (by decide +kernel))
  obtain ⟨c2, i2, hK2⟩ := u_known (C := RX2) (T := TX2) (N := 9) (n := 9) hts inlX2 (hts (.instantiable RX2 9) (by decide +kernel))
  obtain ⟨c3, i3, hK3⟩ := u_known (C := RX3) (T := TX3) (N := 15) (n := 15) hts inlX3 (hts (.instantiable RX3 15) (by decide +kernel))
  obtain ⟨D, hKc⟩ : ∃ D : va_G, ∀ (k : Nat) (q : vw_C), vwCl[k]? = some q → u_Kn s q.1 q.2.1 q.2.2 (D.1 k) (D.2 k) := by
    refine ⟨(fun k => if k = 0 then c0 else if k = 1 then c1 else if k = 2 then c2 else c3, fun k => if k = 0 then i0 else if k = 1 then i1 else if k = 2 then i2 else i3), ?_⟩
    intro k q hq
    match k, hq with
    | 0, hq => cases hq; exact hK0
    | 1, hq => cases hq; exact hK1
    | 2, hq => cases hq; exact hK2
    | 3, hq => cases hq; exact hK3
    | k + 4, hq => simp [vwCl] at hq
  have hS : va_S (fun q : Nat => s.heap.size ≤ q) s.heap s.heap [] := va_S.rf
  have hK : va_K D vwCl [] s := ⟨hKc, fun k q h => by simp at h⟩
  have hP : va_P D vwCl [] s.heap := fun k q h => by simp at h
  have hD : va_D (fun q : Nat => s.heap.size ≤ q) [] := ⟨fun i j p q h => by simp at h, fun k q h => by simp at h⟩
  have hl := lv_entry ([.ref b]) (n := 9) (Nat.le_of_ble_eq_true rfl)
  rw [lg_entry_eq]
  generalize (lg_sl ([.ref b]) ++ List.replicate (9 - (lg_sl ([.ref b])).length) Slot.unset).toArray = ls at hl ⊢
  have hl : lv_has ls 9 [(0, .ref b)] := hl
  refine va_new (D := D) (ci := 2) (fs := [.null, .null, .null, .null, .null, .null, .int 0, .int 0, .int 0]) (C := RX2) (T := TX2) (N := 9) hx hb hts inlX2 tyX2 tyX2_ok hown (hts (.classLink RL 8 RX2) (by decide +kernel)) (hts (.instantiable RX2 9) (by decide +kernel)) (hts (.initialized RX2) (by decide +kernel)) hK hP hD hS hA rfl (fun j hj => by rcases (show j = 0 ∨ j = 1 ∨ j = 2 ∨ j = 3 ∨ j = 4 ∨ j = 5 ∨ j = 6 ∨ j = 7 ∨ j = 8 by omega) with rfl | rfl | rfl | rfl | rfl | rfl | rfl | rfl | rfl <;> rfl) (Nat.le_of_ble_eq_true rfl) (Nat.le_of_ble_eq_true rfl) dL_law_0 (fun h H hP hD hS => ?_)
  have hP : va_P D vwCl [(h, .inr (2, [.null, .null, .null, .null, .null, .null, .int 0, .int 0, .int 0]))] H := hP
  have hD : va_D (fun q => s.heap.size ≤ q) [(h, .inr (2, [.null, .null, .null, .null, .null, .null, .int 0, .int 0, .int 0]))] := hD
  refine lv_dup hx hb dL_law_3 rfl ?_
  have hPc := hP.sub (ws' := [(h, .inr (2, [.null, .null, .null, .null, .null, .null, .int 0, .int 0, .int 0]))]) [0] rfl
  have hDc := hD.sub (ws' := [(h, .inr (2, [.null, .null, .null, .null, .null, .null, .int 0, .int 0, .int 0]))]) [0] (by decide) rfl
  have hKc := hK.sub (tys' := []) [] rfl
  have hFc := va_free (wc := [(h, .inr (2, [.null, .null, .null, .null, .null, .null, .int 0, .int 0, .int 0]))]) hD hS hA [0] rfl
  refine va_callv (va_runI (As := []) (rest := [.ref h]) hF (c_X2_init l D h H.size) (cwI 0 hts gL_law_X2_init rfl rfl rfl (hts (.initialized RX2) (by decide +kernel)) (hts (.methodLink RL 56 yX2_init) (by decide +kernel)) (hts (.instanceMethod yX2_init) (by decide +kernel)) rfl (by decide +kernel) ⟨Nat.le_of_ble_eq_true rfl, Nat.le_of_ble_eq_true rfl⟩) ⟨fun a U g mk q => by obtain ⟨q0, q1, qP, qK, qD, qN⟩ := q; exact ⟨q0, q1, qP, va_K.moved (u := U) (U := U.calling g mk a) (Vm.Alike.refl U.vm) qK, qD, va_Nw.same rfl rfl qN⟩, fun U hU hW => ⟨rfl, by rw [hU], by rw [hU]; exact hPc, va_K.moved hW.alike hKc, hDc.weaken (fun _ _ _ _ => trivial), va_Nw.warmM hW hnest⟩⟩ rfl rfl hl.1 rfl (lv_room (Nat.le_of_ble_eq_true rfl)) dL_law_4 ⟨Nat.le_of_ble_eq_true rfl, Nat.le_of_ble_eq_true rfl⟩) hS (fun q _ h => hFc q h) hFc (fun u t H1 locs ht hvm hw hB hz1 hk1 hS => ?_)
  obtain ⟨cI, B, C, G, GB, GW, GR, TB, TC, TG, TGB, TGW, TGR, FR, CH⟩ := u
  obtain ⟨hP1, hK1, hD1⟩ := hB
  rw [ht] at hP1
  have hK1 := va_K.moved hvm.symm hK1
  dsimp only at hP1 hK1 hD1
  have hK : va_K D vwCl [(cI, .int)] s := hK1
  obtain ⟨hP, hD⟩ := va_join (wr := []) (w1 := [(h, .inr (2, [.ref B, .ref G, .ref TB, .ref TG, .ref FR, .ref CH, .int (iI ((0 : Nat) : Int)), .int (iI ((0 : Nat) : Int)), .int (iI ((0 : Nat) : Int))])), (B, .inr (0, [.ref C, .int (iI ((0 : Nat) : Int))])), (C, zArr cI 36 (fun _ => 0)), (G, .inr (1, [.ref GB, .ref GW, .ref GR])), (GB, zArr cI 64 (fun _ => 0)), (GW, zArr cI 64 (uZ (fun _ => 0) 0 ((1 : Nat) : Int))), (GR, zArr cI 6 (fun _ => 0)), (TB, .inr (0, [.ref TC, .int (iI ((0 : Nat) : Int))])), (TC, zArr cI 36 (fun _ => 0)), (TG, .inr (1, [.ref TGB, .ref TGW, .ref TGR])), (TGB, zArr cI 64 (fun _ => 0)), (TGW, zArr cI 64 (uZ (fun _ => 0) 0 ((1 : Nat) : Int))), (TGR, zArr cI 6 (fun _ => 0)), (FR, zArr cI 6 (fun _ => 0)), (CH, zArr cI 6 (fun _ => 0))]) hP hD [0] [] rfl rfl (by decide) (by decide) hk1 hFc hP1 hD1
  generalize H1 = H at hP hS ⊢
  have hP : va_P D vwCl [(h, .inr (2, [.ref B, .ref G, .ref TB, .ref TG, .ref FR, .ref CH, .int (iI ((0 : Nat) : Int)), .int (iI ((0 : Nat) : Int)), .int (iI ((0 : Nat) : Int))])), (B, .inr (0, [.ref C, .int (iI ((0 : Nat) : Int))])), (C, zArr cI 36 (fun _ => 0)), (G, .inr (1, [.ref GB, .ref GW, .ref GR])), (GB, zArr cI 64 (fun _ => 0)), (GW, zArr cI 64 (uZ (fun _ => 0) 0 ((1 : Nat) : Int))), (GR, zArr cI 6 (fun _ => 0)), (TB, .inr (0, [.ref TC, .int (iI ((0 : Nat) : Int))])), (TC, zArr cI 36 (fun _ => 0)), (TG, .inr (1, [.ref TGB, .ref TGW, .ref TGR])), (TGB, zArr cI 64 (fun _ => 0)), (TGW, zArr cI 64 (uZ (fun _ => 0) 0 ((1 : Nat) : Int))), (TGR, zArr cI 6 (fun _ => 0)), (FR, zArr cI 6 (fun _ => 0)), (CH, zArr cI 6 (fun _ => 0))] H := hP
  have hD : va_D (fun q => s.heap.size ≤ q) [(h, .inr (2, [.ref B, .ref G, .ref TB, .ref TG, .ref FR, .ref CH, .int (iI ((0 : Nat) : Int)), .int (iI ((0 : Nat) : Int)), .int (iI ((0 : Nat) : Int))])), (B, .inr (0, [.ref C, .int (iI ((0 : Nat) : Int))])), (C, zArr cI 36 (fun _ => 0)), (G, .inr (1, [.ref GB, .ref GW, .ref GR])), (GB, zArr cI 64 (fun _ => 0)), (GW, zArr cI 64 (uZ (fun _ => 0) 0 ((1 : Nat) : Int))), (GR, zArr cI 6 (fun _ => 0)), (TB, .inr (0, [.ref TC, .int (iI ((0 : Nat) : Int))])), (TC, zArr cI 36 (fun _ => 0)), (TG, .inr (1, [.ref TGB, .ref TGW, .ref TGR])), (TGB, zArr cI 64 (fun _ => 0)), (TGW, zArr cI 64 (uZ (fun _ => 0) 0 ((1 : Nat) : Int))), (TGR, zArr cI 6 (fun _ => 0)), (FR, zArr cI 6 (fun _ => 0)), (CH, zArr cI 6 (fun _ => 0))] := hD
  refine lv_astore_n (lv' := [(1, .ref h), (0, .ref b)]) hx hb dL_law_7 rfl hl (by decide) rfl (fun ls hl => ?_)
  refine va_new (D := D) (ci := 3) (fs := [.int 0, .int 0, .int 0, .null, .null, .null, .null, .int 0, .int 0, .int 0, .null, .int 0, .int 0, .int 0, .int 0]) (C := RX3) (T := TX3) (N := 15) hx hb hts inlX3 tyX3 tyX3_ok hown (hts (.classLink RL 57 RX3) (by decide +kernel)) (hts (.instantiable RX3 15) (by decide +kernel)) (hts (.initialized RX3) (by decide +kernel)) hK hP hD hS hA rfl (fun j hj => by rcases (show j = 0 ∨ j = 1 ∨ j = 2 ∨ j = 3 ∨ j = 4 ∨ j = 5 ∨ j = 6 ∨ j = 7 ∨ j = 8 ∨ j = 9 ∨ j = 10 ∨ j = 11 ∨ j = 12 ∨ j = 13 ∨ j = 14 by omega) with rfl | rfl | rfl | rfl | rfl | rfl | rfl | rfl | rfl | rfl | rfl | rfl | rfl | rfl | rfl <;> rfl) (Nat.le_of_ble_eq_true rfl) (Nat.le_of_ble_eq_true rfl) dL_law_8 (fun M H hP hD hS => ?_)
  have hP : va_P D vwCl [(h, .inr (2, [.ref B, .ref G, .ref TB, .ref TG, .ref FR, .ref CH, .int (iI ((0 : Nat) : Int)), .int (iI ((0 : Nat) : Int)), .int (iI ((0 : Nat) : Int))])), (B, .inr (0, [.ref C, .int (iI ((0 : Nat) : Int))])), (C, zArr cI 36 (fun _ => 0)), (G, .inr (1, [.ref GB, .ref GW, .ref GR])), (GB, zArr cI 64 (fun _ => 0)), (GW, zArr cI 64 (uZ (fun _ => 0) 0 ((1 : Nat) : Int))), (GR, zArr cI 6 (fun _ => 0)), (TB, .inr (0, [.ref TC, .int (iI ((0 : Nat) : Int))])), (TC, zArr cI 36 (fun _ => 0)), (TG, .inr (1, [.ref TGB, .ref TGW, .ref TGR])), (TGB, zArr cI 64 (fun _ => 0)), (TGW, zArr cI 64 (uZ (fun _ => 0) 0 ((1 : Nat) : Int))), (TGR, zArr cI 6 (fun _ => 0)), (FR, zArr cI 6 (fun _ => 0)), (CH, zArr cI 6 (fun _ => 0)), (M, .inr (3, [.int 0, .int 0, .int 0, .null, .null, .null, .null, .int 0, .int 0, .int 0, .null, .int 0, .int 0, .int 0, .int 0]))] H := hP
  have hD : va_D (fun q => s.heap.size ≤ q) [(h, .inr (2, [.ref B, .ref G, .ref TB, .ref TG, .ref FR, .ref CH, .int (iI ((0 : Nat) : Int)), .int (iI ((0 : Nat) : Int)), .int (iI ((0 : Nat) : Int))])), (B, .inr (0, [.ref C, .int (iI ((0 : Nat) : Int))])), (C, zArr cI 36 (fun _ => 0)), (G, .inr (1, [.ref GB, .ref GW, .ref GR])), (GB, zArr cI 64 (fun _ => 0)), (GW, zArr cI 64 (uZ (fun _ => 0) 0 ((1 : Nat) : Int))), (GR, zArr cI 6 (fun _ => 0)), (TB, .inr (0, [.ref TC, .int (iI ((0 : Nat) : Int))])), (TC, zArr cI 36 (fun _ => 0)), (TG, .inr (1, [.ref TGB, .ref TGW, .ref TGR])), (TGB, zArr cI 64 (fun _ => 0)), (TGW, zArr cI 64 (uZ (fun _ => 0) 0 ((1 : Nat) : Int))), (TGR, zArr cI 6 (fun _ => 0)), (FR, zArr cI 6 (fun _ => 0)), (CH, zArr cI 6 (fun _ => 0)), (M, .inr (3, [.int 0, .int 0, .int 0, .null, .null, .null, .null, .int 0, .int 0, .int 0, .null, .int 0, .int 0, .int 0, .int 0]))] := hD
  refine lv_dup hx hb dL_law_11 rfl ?_
  have hPc := hP.sub (ws' := [(M, .inr (3, [.int 0, .int 0, .int 0, .null, .null, .null, .null, .int 0, .int 0, .int 0, .null, .int 0, .int 0, .int 0, .int 0]))]) [15] rfl
  have hDc := hD.sub (ws' := [(M, .inr (3, [.int 0, .int 0, .int 0, .null, .null, .null, .null, .int 0, .int 0, .int 0, .null, .int 0, .int 0, .int 0, .int 0]))]) [15] (by decide) rfl
  have hKc := hK.sub (tys' := []) [] rfl
  have hFc := va_free (wc := [(M, .inr (3, [.int 0, .int 0, .int 0, .null, .null, .null, .null, .int 0, .int 0, .int 0, .null, .int 0, .int 0, .int 0, .int 0]))]) hD hS hA [15] rfl
  refine va_callv (va_runI (As := []) (rest := [.ref M]) hF (c_X3_init l D M H.size) (cwI 0 hts gL_law_X3_init rfl rfl rfl (hts (.initialized RX3) (by decide +kernel)) (hts (.methodLink RL 59 yX3_init) (by decide +kernel)) (hts (.instanceMethod yX3_init) (by decide +kernel)) rfl (by decide +kernel) ⟨Nat.le_of_ble_eq_true rfl, Nat.le_of_ble_eq_true rfl⟩) ⟨fun a U g mk q => by obtain ⟨q0, q1, qP, qK, qD⟩ := q; exact ⟨q0, q1, qP, va_K.moved (u := U) (U := U.calling g mk a) (Vm.Alike.refl U.vm) qK, qD⟩, fun U hU hW => ⟨rfl, by rw [hU], by rw [hU]; exact hPc, va_K.moved hW.alike hKc, hDc.weaken (fun _ _ _ _ => trivial)⟩⟩ rfl rfl hl.1 rfl (lv_room (Nat.le_of_ble_eq_true rfl)) dL_law_12 ⟨Nat.le_of_ble_eq_true rfl, Nat.le_of_ble_eq_true rfl⟩) hS (fun q _ h => hFc q h) hFc (fun u t H1 locs ht hvm hw hB hz1 hk1 hS => ?_)
  obtain ⟨cI2, MB, MR, ME, MZ, MT⟩ := u
  obtain ⟨hP1, hK1, hD1⟩ := hB
  rw [ht] at hP1
  have hK1 := va_K.moved hvm.symm hK1
  dsimp only at hP1 hK1 hD1
  have eA : cI2 = cI := zKi hK hK1
  rw [eA] at hP1 hK1 hD1
  obtain ⟨hP, hD⟩ := va_join (wr := [(h, .inr (2, [.ref B, .ref G, .ref TB, .ref TG, .ref FR, .ref CH, .int (iI ((0 : Nat) : Int)), .int (iI ((0 : Nat) : Int)), .int (iI ((0 : Nat) : Int))])), (B, .inr (0, [.ref C, .int (iI ((0 : Nat) : Int))])), (C, zArr cI 36 (fun _ => 0)), (G, .inr (1, [.ref GB, .ref GW, .ref GR])), (GB, zArr cI 64 (fun _ => 0)), (GW, zArr cI 64 (uZ (fun _ => 0) 0 ((1 : Nat) : Int))), (GR, zArr cI 6 (fun _ => 0)), (TB, .inr (0, [.ref TC, .int (iI ((0 : Nat) : Int))])), (TC, zArr cI 36 (fun _ => 0)), (TG, .inr (1, [.ref TGB, .ref TGW, .ref TGR])), (TGB, zArr cI 64 (fun _ => 0)), (TGW, zArr cI 64 (uZ (fun _ => 0) 0 ((1 : Nat) : Int))), (TGR, zArr cI 6 (fun _ => 0)), (FR, zArr cI 6 (fun _ => 0)), (CH, zArr cI 6 (fun _ => 0))]) (w1 := [(M, .inr (3, [.int 0, .int 0, .int 0, .ref MB, .ref MR, .ref ME, .ref MZ, .int 0, .int 0, .int 0, .ref MT, .int (iI (-1)), .int (iI (-1)), .int (iI (-1)), .int 0])), (MB, zArr cI 36 (fun _ => 0)), (MR, zArr cI 6 (fun _ => 0)), (ME, zArr cI 6 (fun _ => 0)), (MZ, zArr cI 6 (fun _ => 0)), (MT, zArr cI 6 (fun _ => 0))]) hP hD [15] [0, 1, 2, 3, 4, 5, 6, 7, 8, 9, 10, 11, 12, 13, 14] rfl rfl (by decide) (by decide) hk1 hFc hP1 hD1
  generalize H1 = H at hP hS ⊢
  have hP : va_P D vwCl [(h, .inr (2, [.ref B, .ref G, .ref TB, .ref TG, .ref FR, .ref CH, .int (iI ((0 : Nat) : Int)), .int (iI ((0 : Nat) : Int)), .int (iI ((0 : Nat) : Int))])), (B, .inr (0, [.ref C, .int (iI ((0 : Nat) : Int))])), (C, zArr cI 36 (fun _ => 0)), (G, .inr (1, [.ref GB, .ref GW, .ref GR])), (GB, zArr cI 64 (fun _ => 0)), (GW, zArr cI 64 (uZ (fun _ => 0) 0 ((1 : Nat) : Int))), (GR, zArr cI 6 (fun _ => 0)), (TB, .inr (0, [.ref TC, .int (iI ((0 : Nat) : Int))])), (TC, zArr cI 36 (fun _ => 0)), (TG, .inr (1, [.ref TGB, .ref TGW, .ref TGR])), (TGB, zArr cI 64 (fun _ => 0)), (TGW, zArr cI 64 (uZ (fun _ => 0) 0 ((1 : Nat) : Int))), (TGR, zArr cI 6 (fun _ => 0)), (FR, zArr cI 6 (fun _ => 0)), (CH, zArr cI 6 (fun _ => 0)), (M, .inr (3, [.int 0, .int 0, .int 0, .ref MB, .ref MR, .ref ME, .ref MZ, .int 0, .int 0, .int 0, .ref MT, .int (iI (-1)), .int (iI (-1)), .int (iI (-1)), .int 0])), (MB, zArr cI 36 (fun _ => 0)), (MR, zArr cI 6 (fun _ => 0)), (ME, zArr cI 6 (fun _ => 0)), (MZ, zArr cI 6 (fun _ => 0)), (MT, zArr cI 6 (fun _ => 0))] H := hP
  have hD : va_D (fun q => s.heap.size ≤ q) [(h, .inr (2, [.ref B, .ref G, .ref TB, .ref TG, .ref FR, .ref CH, .int (iI ((0 : Nat) : Int)), .int (iI ((0 : Nat) : Int)), .int (iI ((0 : Nat) : Int))])), (B, .inr (0, [.ref C, .int (iI ((0 : Nat) : Int))])), (C, zArr cI 36 (fun _ => 0)), (G, .inr (1, [.ref GB, .ref GW, .ref GR])), (GB, zArr cI 64 (fun _ => 0)), (GW, zArr cI 64 (uZ (fun _ => 0) 0 ((1 : Nat) : Int))), (GR, zArr cI 6 (fun _ => 0)), (TB, .inr (0, [.ref TC, .int (iI ((0 : Nat) : Int))])), (TC, zArr cI 36 (fun _ => 0)), (TG, .inr (1, [.ref TGB, .ref TGW, .ref TGR])), (TGB, zArr cI 64 (fun _ => 0)), (TGW, zArr cI 64 (uZ (fun _ => 0) 0 ((1 : Nat) : Int))), (TGR, zArr cI 6 (fun _ => 0)), (FR, zArr cI 6 (fun _ => 0)), (CH, zArr cI 6 (fun _ => 0)), (M, .inr (3, [.int 0, .int 0, .int 0, .ref MB, .ref MR, .ref ME, .ref MZ, .int 0, .int 0, .int 0, .ref MT, .int (iI (-1)), .int (iI (-1)), .int (iI (-1)), .int 0])), (MB, zArr cI 36 (fun _ => 0)), (MR, zArr cI 6 (fun _ => 0)), (ME, zArr cI 6 (fun _ => 0)), (MZ, zArr cI 6 (fun _ => 0)), (MT, zArr cI 6 (fun _ => 0))] := hD
  refine lv_astore_n (lv' := [(2, .ref M), (1, .ref h), (0, .ref b)]) hx hb dL_law_15 rfl hl (by decide) rfl (fun ls hl => ?_)
  refine zr_ic (n := ((1 : Nat) : Int)) hx hb dL_law_16 ?_
  refine va_newa (atype := .long) (ty := .long) (a0 := (1, .inr (.inl (fun _ => 0)))) hx hb (hts (.arrayClass .long) (by decide +kernel)) rfl hK hP hD hS hA (n := iI ((1 : Nat) : Int)) (N' := 1) (fun cA => rfl) (by decide) (by decide) (by decide) (Nat.le_of_ble_eq_true rfl) (Nat.le_of_ble_eq_true rfl) dL_law_17 (fun J cJ H hK hP hD hS => ?_)
  refine lv_astore_n (lv' := [(3, .ref J), (2, .ref M), (1, .ref h), (0, .ref b)]) hx hb dL_law_19 rfl hl (by decide) rfl (fun ls hl => ?_)
  refine zr_ic (n := ((0 : Nat) : Int)) hx hb dL_law_20 ?_
  refine lv_istore (lv' := [(4, .int (iI ((0 : Nat) : Int))), (3, .ref J), (2, .ref M), (1, .ref h), (0, .ref b)]) hx hb dL_law_21 hl (by decide) rfl (fun ls hl => ?_)
  have hP : va_P D vwCl (zXW h B C G GB GW GR TB TC TG TGB TGW TGR FR CH J cI cJ 0 (fun _ => 0) ((0 : Nat) : Int) ((fun _ => 0), (uZ (fun _ => 0) 0 ((1 : Nat) : Int)), (fun _ => 0), (fun _ => 0), ((0 : Nat) : Int), ((0 : Nat) : Int), 0, (fun _ => 0), (fun _ => 0), (uZ (fun _ => 0) 0 ((1 : Nat) : Int)), (fun _ => 0), (fun _ => 0), (fun _ => 0)) ++ zMW M MB MR ME MZ MT cI 0 (fun _ => 0) ((0 : Nat) : Int) (((0 : Nat) : Int), ((0 : Nat) : Int), ((0 : Nat) : Int), ((0 : Nat) : Int), ((0 : Nat) : Int), (fun _ => 0), (fun _ => 0), (fun _ => 0), (fun _ => 0))) H := hP.sub [0, 1, 2, 3, 4, 5, 6, 7, 8, 9, 10, 11, 12, 13, 14, 21, 15, 16, 17, 18, 19, 20] rfl
  have hD : va_D (fun q : Nat => s.heap.size ≤ q) (zXW h B C G GB GW GR TB TC TG TGB TGW TGR FR CH J cI cJ 0 (fun _ => 0) ((0 : Nat) : Int) ((fun _ => 0), (uZ (fun _ => 0) 0 ((1 : Nat) : Int)), (fun _ => 0), (fun _ => 0), ((0 : Nat) : Int), ((0 : Nat) : Int), 0, (fun _ => 0), (fun _ => 0), (uZ (fun _ => 0) 0 ((1 : Nat) : Int)), (fun _ => 0), (fun _ => 0), (fun _ => 0)) ++ zMW M MB MR ME MZ MT cI 0 (fun _ => 0) ((0 : Nat) : Int) (((0 : Nat) : Int), ((0 : Nat) : Int), ((0 : Nat) : Int), ((0 : Nat) : Int), ((0 : Nat) : Int), (fun _ => 0), (fun _ => 0), (fun _ => 0), (fun _ => 0))) := hD.sub [0, 1, 2, 3, 4, 5, 6, 7, 8, 9, 10, 11, 12, 13, 14, 21, 15, 16, 17, 18, 19, 20] (by decide) rfl
  have hXL : zXL (fun q => s.heap.size ≤ q) s := by
    refine ⟨⟨⟨fun E hE => ?_, fun Y hY => ?_⟩, fun q hq => ?_, ?_, ?_⟩, ?_⟩
    · rcases List.mem_cons.mp hE with rfl | hE
      · exact va_Nw.of rfl (htt (.castable zISE zISE) (by decide +kernel))
      rcases List.mem_cons.mp hE with rfl | hE
      · exact va_Nw.of rfl (htt (.castable zOOB zOOB) (by decide +kernel))
      rcases List.mem_singleton.mp hE with rfl
      exact va_Nw.of rfl (htt (.castable zIAE zIAE) (by decide +kernel))
    · exact va_Nw.of rfl (htt (.declares (Bundle.initS Y)) ((show ∀ Y ∈ zDecl, Cond.declares (Bundle.initS Y) ∈ lw_tbl by decide +kernel) Y hY))
    · have h1 := htt (.stringRef RX2 q.1 q.2) ((show ∀ q ∈ zTxt, Cond.stringRef RX2 q.1 q.2 ∈ lw_tbl by decide +kernel) q hq)
      obtain ⟨a, ha⟩ := zStr h1
      exact ⟨a, vk_R.of h1 ha⟩
    · exact vx_Zqof (htt (.laysStatic Bundle.tN "UNASSIGNED_STACK" Bundle.steD) (by decide +kernel)) (htt (.initialized Bundle.tN) (by decide +kernel)) (flat_of_before _ hgv _ (by decide +kernel)) (fun a h1 h2 => Nat.not_le.mpr h1 h2)
    · exact vx_Zqof (htt (.laysStatic Bundle.tN "SUPPRESSED_SENTINEL" Bundle.listD) (by decide +kernel)) (htt (.initialized Bundle.tN) (by decide +kernel)) (flat_of_before _ hgv _ (by decide +kernel)) (fun a h1 h2 => Nat.not_le.mpr h1 h2)
    · exact va_Nc.of (flat_of_before _ hgv (.not (.castable zIAE zOOB)) (by decide +kernel))
  have hset : zStd 0 (fun _ => 0) ((0 : Nat) : Int) ((fun _ => 0), (uZ (fun _ => 0) 0 ((1 : Nat) : Int)), (fun _ => 0), (fun _ => 0), ((0 : Nat) : Int), ((0 : Nat) : Int), 0, (fun _ => 0), (fun _ => 0), (uZ (fun _ => 0) 0 ((1 : Nat) : Int)), (fun _ => 0), (fun _ => 0), (fun _ => 0)) := ⟨⟨by decide, by decide, fun j hj => absurd hj (Nat.not_lt_zero _)⟩, fun j hj => absurd hj (Nat.not_lt_zero _), by decide, by decide⟩
  refine W.base ?_
  exact law_loop hr hlocks ⟨hfl, hF, hX, hbl, hL, hXL⟩ (L / 4 + 1) 0 (by omega) (by omega) s.drawn (Drawn.sameBut.refl s.drawn lw_cs) 0 (fun _ => 0) ((0 : Nat) : Int) ((fun _ => 0), (uZ (fun _ => 0) 0 ((1 : Nat) : Int)), (fun _ => 0), (fun _ => 0), ((0 : Nat) : Int), ((0 : Nat) : Int), 0, (fun _ => 0), (fun _ => 0), (uZ (fun _ => 0) 0 ((1 : Nat) : Int)), (fun _ => 0), (fun _ => 0), (fun _ => 0)) (((0 : Nat) : Int), ((0 : Nat) : Int), ((0 : Nat) : Int), ((0 : Nat) : Int), ((0 : Nat) : Int), (fun _ => 0), (fun _ => 0), (fun _ => 0), (fun _ => 0)) H _ ls ⟨by decide, fun _ => ⟨Int.le_refl 0, (by decide : (0 : Int) ≤ 999)⟩, ⟨by decide, by decide⟩, hset, ⟨by decide, by decide⟩, va_K.moved (u := s) (U := s.setDrawn s.drawn) (Vm.Alike.refl s.vm) hK, hP, hD, hS, lv_sub hl [4, 3, 2, 1, 0] rfl⟩
