/-! p18: the law's Sim: n, come, first, sum, next -/
def qNo (cI : ClassId) (a n : Nat) (f : Nat → Int) : Option (Nat × (Nat → Int)) → va_W
  | none => [(a, zArr cI n f)]
  | some x => [(a, zArr cI n f), (x.1, zArr cI n x.2)]

set_option maxHeartbeats 8000000 in
set_option maxRecDepth 100000 in
/-- X3_n -/
theorem c_X3_n (l : Launch) (D : va_G) (cI cO : ClassId) (S O n : Nat) (R : Nat → Nat) (rc wv yv pv : Int) (vr ve vb : Value)  : qR l yX3_n wsX3_n 0 0 D cI cO [.ref S] [(S, .inr (3, [.ref O, .int (iI (rc)), vr, ve, vb, .int (iI (wv)), .int (iI (yv)), .int (iI (pv))])), (O, qOut cO n R)] (iI (((n : Nat) : Int))) := by
  refine qR_of (cc := cX3_n) (maxL := 1) (rt := .int) (by decide) rfl (Nat.le_of_ble_eq_true rfl) ?_
  intro p e s m args below meth c ls hF hr hlocks hP hK hl
  have hF : zFix p m c cX3_n 1 s args wsX3_n RX3 := hF
  obtain ⟨hx, hb, hml, hown, hts⟩ := id hF
  have hP : va_P D vwCl [(S, .inr (3, [.ref O, .int (iI (rc)), vr, ve, vb, .int (iI (wv)), .int (iI (yv)), .int (iI (pv))])), (O, qOut cO n R)] s.heap := hP
  have hl : lv_has ls 1 [(0, .ref S)] := hl
  refine lv_aload_n hx hb dX3_n_0 rfl (lv_at hl 0 rfl) ?_
  refine va_get (D := D) (ci := 3) (v := .ref O) (C := RX3) (T := TX3) (N := 8) hx hb hts (by decide +kernel) hown hK hP 0 rfl rfl 0 (by decide) (hts (.fieldLink RX3 9 "RentHarmonyLaw$Sim" "bids" "[[I") (by decide +kernel)) (fun _ h9 => h9) rfl dX3_n_1 ?_
  refine zq_olen hx hb hK hP 1 1 rfl rfl dX3_n_4 ?_
  exact zRi_ret hx hb hr hlocks dX3_n_5 rfl
set_option maxHeartbeats 8000000 in
set_option maxRecDepth 100000 in
/-- X3_come -/
theorem c_X3_come (l : Launch) (D : va_G) (cI cO : ClassId) (S O n : Nat) (R : Nat → Nat) (b : Nat → Int) (rc wv yv pv : Int) (vr ve vb : Value) (hn : n ≤ 5) (hb0 : ∀ k, 0 ≤ b k ∧ b k ≤ 999) (sz : Nat) : qV (S := Nat × (Nat → Nat)) l yX3_come wsX3_come 1 20 7 D cI cO [.ref S] ([(S, .inr (3, [.ref O, .int (iI (rc)), vr, ve, vb, .int (iI (wv)), .int (iI (yv)), .int (iI (pv))])), (O, qOut cO n R)] ++ qRw cI n n R (fun i j => b (i * 6 + j))) sz (fun _ => True) (fun u => ([(S, .inr (3, [.ref u.1, .int (iI (rc)), vr, ve, vb, .int (iI (wv)), .int (iI (yv)), .int (iI (pv))])), (u.1, qOut cO (n + 1) u.2)] ++ qRw cI (n + 1) (n + 1) u.2 (fun i j => zGr b n (n + 1) (i * 6 + j)))) := by
  refine qV_of (cc := cX3_come) (maxL := 5) (by decide) rfl (Nat.le_of_ble_eq_true rfl) ?_
  intro p e s m args below meth c ls A hF hr hlocks hP hK hD hS hA hE hl
  have hF : zFix p m c cX3_come 5 s args wsX3_come RX3 := hF
  obtain ⟨hx, hb, hml, hown, hts⟩ := id hF
  have hP : va_P D vwCl ([(S, .inr (3, [.ref O, .int (iI (rc)), vr, ve, vb, .int (iI (wv)), .int (iI (yv)), .int (iI (pv))])), (O, qOut cO n R)] ++ qRw cI n n R (fun i j => b (i * 6 + j))) s.heap := hP
  have hD : va_D A ([(S, .inr (3, [.ref O, .int (iI (rc)), vr, ve, vb, .int (iI (wv)), .int (iI (yv)), .int (iI (pv))])), (O, qOut cO n R)] ++ qRw cI n n R (fun i j => b (i * 6 + j))) := hD
  have hl : lv_has ls 5 [(0, .ref S)] := hl
  refine lv_aload_n hx hb dX3_come_0 rfl (lv_at hl 0 rfl) ?_
  refine zc_riP (As := []) (rest := []) hF (c_X3_n l D cI cO S O n R rc wv yv pv vr ve vb ) (cwV 0 hts gX3_come_X3_n rfl rfl rfl (by decide +kernel) ⟨Nat.le_of_ble_eq_true rfl, Nat.le_of_ble_eq_true rfl⟩) hK (hP.sub (ws' := [(S, .inr (3, [.ref O, .int (iI (rc)), vr, ve, vb, .int (iI (wv)), .int (iI (yv)), .int (iI (pv))])), (O, qOut cO n R)]) [0, 1] rfl) 0 rfl rfl rfl rfl hl.1 rfl (Nat.le_of_ble_eq_true rfl) dX3_come_1 ⟨(show 0 ≤ 7 by omega), (show 8 * (0) ≤ 8 * 7 by omega)⟩ ?_
  refine lv_istore_n (lv' := [(1, .int (iI ((n : Nat) : Int))), (0, .ref S)]) hx hb dX3_come_4 rfl hl (by decide) rfl (fun ls hl => ?_)
  refine lv_iload_n hx hb dX3_come_5 rfl (lv_at hl 0 rfl) ?_
  refine zr_ic (n := ((1 : Nat) : Int)) hx hb dX3_come_6 ?_
  refine zr_addN (x := n) (y := 1) hx hb dX3_come_7 ?_
  refine lv_iload_n hx hb dX3_come_8 rfl (lv_at hl 0 rfl) ?_
  refine zr_ic (n := ((1 : Nat) : Int)) hx hb dX3_come_9 ?_
  refine zr_addN (x := n) (y := 1) hx hb dX3_come_10 ?_
  refine zq_mna hx hb hown (hts (.classLink RX3 19 "[[I") (by decide +kernel)) hE.1 (hts (.arrayClass .int) (by decide +kernel)) hK hP hD hS hA (n + 1) (n + 1) (by omega) (by omega) (by omega) (by omega) (show 0 + 7 ≤ 7 by omega) (show 8 * (0) + 56 ≤ 8 * 7 by omega) dX3_come_11 (fun q1 r2 H hP hD hS => ?_)
  have hP : va_P D vwCl ([(S, .inr (3, [.ref O, .int (iI (rc)), vr, ve, vb, .int (iI (wv)), .int (iI (yv)), .int (iI (pv))])), (O, qOut cO n R), (q1, qOut cO (n + 1) r2)] ++ (qRw cI n n R (fun i j => b (i * 6 + j)) ++ qRw cI (n + 1) (n + 1) r2 (fun _ _ => 0))) _ := hP
  have hD : va_D A ([(S, .inr (3, [.ref O, .int (iI (rc)), vr, ve, vb, .int (iI (wv)), .int (iI (yv)), .int (iI (pv))])), (O, qOut cO n R), (q1, qOut cO (n + 1) r2)] ++ (qRw cI n n R (fun i j => b (i * 6 + j)) ++ qRw cI (n + 1) (n + 1) r2 (fun _ _ => 0))) := hD
  refine lv_astore_n (lv' := [(2, .ref q1), (1, .int (iI ((n : Nat) : Int))), (0, .ref S)]) hx hb dX3_come_15 rfl hl (by decide) rfl (fun ls hl => ?_)
  refine zr_ic (n := ((0 : Nat) : Int)) hx hb dX3_come_16 ?_
  refine lv_istore_n (lv' := [(3, .int (iI ((0 : Nat) : Int))), (2, .ref q1), (1, .int (iI ((n : Nat) : Int))), (0, .ref S)]) hx hb dX3_come_17 rfl hl (by decide) rfl (fun ls hl => ?_)
  have LA : ∀ (k0 : Nat) (i : Nat) (F : Nat → Nat → Int), n - i < k0 → (hi : i ≤ n) → (hF : ∀ a c, a ≤ n → c ≤ n → F a c = if a < i ∧ c < n then b (a * 6 + c) else 0) → ∀ (H : Heap) (locs : List Loc), va_P D vwCl ([(S, .inr (3, [.ref O, .int (iI (rc)), vr, ve, vb, .int (iI (wv)), .int (iI (yv)), .int (iI (pv))])), (O, qOut cO n R), (q1, qOut cO (n + 1) r2)] ++ (qRw cI n n R (fun i j => b (i * 6 + j)) ++ qRw cI (n + 1) (n + 1) r2 F)) H → va_D A ([(S, .inr (3, [.ref O, .int (iI (rc)), vr, ve, vb, .int (iI (wv)), .int (iI (yv)), .int (iI (pv))])), (O, qOut cO n R), (q1, qOut cO (n + 1) r2)] ++ (qRw cI n n R (fun i j => b (i * 6 + j)) ++ qRw cI (n + 1) (n + 1) r2 F)) → va_S A s.heap H locs → ∀ (ls : Array Slot), lv_has ls 5 [(0, .ref S), (1, .int (iI ((n : Nat) : Int))), (2, .ref q1), (3, .int (iI ((i : Nat) : Int)))] → W p l e (qRm 1 20 7) s m args below meth c H locs 7 (8 * 7) (MQ below (va_Qv (S := Nat × (Nat → Nat)) (fun _ => True) (fun u9 t9 => va_P D vwCl ((fun u => ([(S, .inr (3, [.ref u.1, .int (iI (rc)), vr, ve, vb, .int (iI (wv)), .int (iI (yv)), .int (iI (pv))])), (u.1, qOut cO (n + 1) u.2)] ++ qRw cI (n + 1) (n + 1) u.2 (fun i j => zGr b n (n + 1) (i * 6 + j)))) u9) t9.heap ∧ va_D A ((fun u => ([(S, .inr (3, [.ref u.1, .int (iI (rc)), vr, ve, vb, .int (iI (wv)), .int (iI (yv)), .int (iI (pv))])), (u.1, qOut cO (n + 1) u.2)] ++ qRw cI (n + 1) (n + 1) u.2 (fun i j => zGr b n (n + 1) (i * 6 + j)))) u9)) A) args s 7 (8 * 7) A) (F0 m 18 ls []) := by
    intro k0
    induction k0 with
    | zero => intro i F hk; exact absurd hk (Nat.not_lt_zero _)
    | succ k0 ih_LA =>
      intro i F hk hi hF H locs hP hD hS ls hl
      refine lv_iload_n hx hb dX3_come_18 rfl (lv_at hl 3 rfl) ?_
      refine lv_iload_n hx hb dX3_come_19 rfl (lv_at hl 1 rfl) ?_
      refine zr_icmp_ge (tgt := 59) hx hb dX3_come_20 (by decide) (zB_of (by omega) (by omega)) (zB_of (by omega) (by omega)) (fun c3 => ?_) (fun c3 => ?_)
      · refine lv_aload_n hx hb dX3_come_59 rfl (lv_at hl 0 rfl) ?_
        refine lv_aload_n hx hb dX3_come_60 rfl (lv_at hl 2 rfl) ?_
        refine va_put (D := D) (ci := 3) (v := .ref q1) (ty := (.array (.array .int))) (C := RX3) (T := TX3) (N := 8) hx hb hts (by decide +kernel) tyX3 tyX3_ok nmX3 hown hK hP hD hS 0 rfl rfl 0 (by decide) (hts (.fieldLink RX3 9 "RentHarmonyLaw$Sim" "bids" "[[I") (by decide +kernel)) (fun _ h9 => h9) rfl (by decide +kernel) rfl rfl (Nat.le_of_ble_eq_true rfl) dX3_come_61 (fun H locs hP hD hS => ?_)
        have hP : va_P D vwCl ([(S, .inr (3, [.ref q1, .int (iI (rc)), vr, ve, vb, .int (iI (wv)), .int (iI (yv)), .int (iI (pv))])), (O, qOut cO n R), (q1, qOut cO (n + 1) r2)] ++ (qRw cI n n R (fun i j => b (i * 6 + j)) ++ qRw cI (n + 1) (n + 1) r2 F)) _ := hP
        have hD : va_D A ([(S, .inr (3, [.ref q1, .int (iI (rc)), vr, ve, vb, .int (iI (wv)), .int (iI (yv)), .int (iI (pv))])), (O, qOut cO n R), (q1, qOut cO (n + 1) r2)] ++ (qRw cI n n R (fun i j => b (i * 6 + j)) ++ qRw cI (n + 1) (n + 1) r2 F)) := hD
        have hP9 := qRw_congr (G := (fun i j => zGr b n (n + 1) (i * 6 + j))) (qDrop (Xc := [(S, .inr (3, [.ref q1, .int (iI (rc)), vr, ve, vb, .int (iI (wv)), .int (iI (yv)), .int (iI (pv))])), (q1, qOut cO (n + 1) r2)]) hP [0, 2] rfl) (fun a c ha hc => by show F a c = zGr b n (n + 1) (a * 6 + c); rw [hF a c (by omega) (by omega), zGr_at (by omega) (n + 1) a c (by omega) (by omega) (Nat.le_refl _)]; by_cases q : a < i ∧ c < n; rw [if_pos q, if_neg (by omega)]; rw [if_neg q, if_pos (by omega)])
        have hD9 := qRw_congrD (G := (fun i j => zGr b n (n + 1) (i * 6 + j))) (qDropD (Xc := [(S, .inr (3, [.ref q1, .int (iI (rc)), vr, ve, vb, .int (iI (wv)), .int (iI (yv)), .int (iI (pv))])), (q1, qOut cO (n + 1) r2)]) hD [0, 2] rfl (by decide) 3 rfl (by decide))
        exact qV_ret hx hb hr hlocks hS dX3_come_64 (show 7 ≤ 7 by omega) (q1, r2) trivial hP9 hD9
      · refine zr_ic (n := ((0 : Nat) : Int)) hx hb dX3_come_23 ?_
        refine lv_istore (lv' := [(4, .int (iI ((0 : Nat) : Int))), (0, .ref S), (1, .int (iI ((n : Nat) : Int))), (2, .ref q1), (3, .int (iI ((i : Nat) : Int)))]) hx hb dX3_come_24 hl (by decide) rfl (fun ls hl => ?_)
        have LB : ∀ (k0 : Nat) (j : Nat) (F1 : Nat → Nat → Int), n - j < k0 → (hj : j ≤ n) → (hF1 : ∀ a c, a ≤ n → c ≤ n → F1 a c = if (a < i ∧ c < n) ∨ (a = i ∧ c < j) then b (a * 6 + c) else 0) → ∀ (H : Heap) (locs : List Loc), va_P D vwCl ([(S, .inr (3, [.ref O, .int (iI (rc)), vr, ve, vb, .int (iI (wv)), .int (iI (yv)), .int (iI (pv))])), (O, qOut cO n R), (q1, qOut cO (n + 1) r2)] ++ (qRw cI n n R (fun i j => b (i * 6 + j)) ++ qRw cI (n + 1) (n + 1) r2 F1)) H → va_D A ([(S, .inr (3, [.ref O, .int (iI (rc)), vr, ve, vb, .int (iI (wv)), .int (iI (yv)), .int (iI (pv))])), (O, qOut cO n R), (q1, qOut cO (n + 1) r2)] ++ (qRw cI n n R (fun i j => b (i * 6 + j)) ++ qRw cI (n + 1) (n + 1) r2 F1)) → va_S A s.heap H locs → ∀ (ls : Array Slot), lv_has ls 5 [(0, .ref S), (1, .int (iI ((n : Nat) : Int))), (2, .ref q1), (3, .int (iI ((i : Nat) : Int))), (4, .int (iI ((j : Nat) : Int)))] → W p l e (qRm 1 20 7) s m args below meth c H locs 7 (8 * 7) (MQ below (va_Qv (S := Nat × (Nat → Nat)) (fun _ => True) (fun u9 t9 => va_P D vwCl ((fun u => ([(S, .inr (3, [.ref u.1, .int (iI (rc)), vr, ve, vb, .int (iI (wv)), .int (iI (yv)), .int (iI (pv))])), (u.1, qOut cO (n + 1) u.2)] ++ qRw cI (n + 1) (n + 1) u.2 (fun i j => zGr b n (n + 1) (i * 6 + j)))) u9) t9.heap ∧ va_D A ((fun u => ([(S, .inr (3, [.ref u.1, .int (iI (rc)), vr, ve, vb, .int (iI (wv)), .int (iI (yv)), .int (iI (pv))])), (u.1, qOut cO (n + 1) u.2)] ++ qRw cI (n + 1) (n + 1) u.2 (fun i j => zGr b n (n + 1) (i * 6 + j)))) u9)) A) args s 7 (8 * 7) A) (F0 m 26 ls []) := by
          intro k0
          induction k0 with
          | zero => intro j F1 hk; exact absurd hk (Nat.not_lt_zero _)
          | succ k0 ih_LB =>
            intro j F1 hk hj hF1 H locs hP hD hS ls hl
            refine lv_iload hx hb dX3_come_26 (lv_at hl 4 rfl) ?_
            refine lv_iload_n hx hb dX3_come_28 rfl (lv_at hl 1 rfl) ?_
            refine zr_icmp_ge (tgt := 53) hx hb dX3_come_29 (by decide) (zB_of (by omega) (by omega)) (zB_of (by omega) (by omega)) (fun c4 => ?_) (fun c4 => ?_)
            · refine zr_iinc (lv2 := [(3, .int (iI (((i : Nat) : Int) + 1))), (0, .ref S), (1, .int (iI ((n : Nat) : Int))), (2, .ref q1), (4, .int (iI ((j : Nat) : Int)))]) hx hb dX3_come_53 hl (k0 := 3) rfl (by decide) rfl (fun ls hl => ?_)
              have hl : lv_has ls 5 [(3, .int (iI ((i + 1 : Nat) : Int))), (0, .ref S), (1, .int (iI ((n : Nat) : Int))), (2, .ref q1), (4, .int (iI ((j : Nat) : Int)))] := hl
              refine lv_goto (tgt := 18) hx hb dX3_come_56 (by decide) ?_
              exact ih_LA (i + 1) (F1) (by omega) (by omega) (fun a c ha hc => by rw [hF1 a c ha hc]; by_cases q : a < i + 1 ∧ c < n; rw [if_pos q, if_pos (by omega)]; rw [if_neg q, if_neg (by omega)]) _ _ hP hD hS _ (lv_sub hl [1, 2, 3, 0] rfl)
            · refine lv_aload_n hx hb dX3_come_32 rfl (lv_at hl 2 rfl) ?_
              refine lv_iload_n hx hb dX3_come_33 rfl (lv_at hl 3 rfl) ?_
              refine zq_ald hx hb hK hP 2 1 rfl rfl (i) (by omega) (by omega) (by omega) dX3_come_34 ?_
              refine lv_iload hx hb dX3_come_35 (lv_at hl 4 rfl) ?_
              refine lv_aload_n hx hb dX3_come_37 rfl (lv_at hl 0 rfl) ?_
              refine va_get (D := D) (ci := 3) (v := .ref O) (C := RX3) (T := TX3) (N := 8) hx hb hts (by decide +kernel) hown hK hP 0 rfl rfl 0 (by decide) (hts (.fieldLink RX3 9 "RentHarmonyLaw$Sim" "bids" "[[I") (by decide +kernel)) (fun _ h9 => h9) rfl dX3_come_38 ?_
              refine lv_iload_n hx hb dX3_come_41 rfl (lv_at hl 3 rfl) ?_
              refine zq_ald hx hb hK hP 1 1 rfl rfl (i) (by omega) (by omega) (by omega) dX3_come_42 ?_
              refine lv_iload hx hb dX3_come_43 (lv_at hl 4 rfl) ?_
              refine zq_rld (f := (fun i j => b (i * 6 + j)) i) hx hb hK hP 0 (List.mem_append_right _ (List.mem_append_left _ (qRw_mem (by omega)))) rfl (j) (by omega) (by omega) (by omega) dX3_come_45 ?_
              refine zr_topi (show (fun i j => b (i * 6 + j)) i j = (b (i * 6 + j)) from rfl) ?_
              have hb5 := hb0 (i * 6 + j)
              refine zq_rst2 hx hb hK hP hD hS 0 rfl (i) (by omega) (j) (by omega) (by omega) (by omega) dX3_come_46 (fun H locs hP hD hS => ?_)
              have hP : va_P D vwCl ([(S, .inr (3, [.ref O, .int (iI (rc)), vr, ve, vb, .int (iI (wv)), .int (iI (yv)), .int (iI (pv))])), (O, qOut cO n R), (q1, qOut cO (n + 1) r2)] ++ (qRw cI n n R (fun i j => b (i * 6 + j)) ++ qRw cI (n + 1) (n + 1) r2 (u2 F1 i j (b (i * 6 + j))))) _ := hP
              have hD : va_D A ([(S, .inr (3, [.ref O, .int (iI (rc)), vr, ve, vb, .int (iI (wv)), .int (iI (yv)), .int (iI (pv))])), (O, qOut cO n R), (q1, qOut cO (n + 1) r2)] ++ (qRw cI n n R (fun i j => b (i * 6 + j)) ++ qRw cI (n + 1) (n + 1) r2 (u2 F1 i j (b (i * 6 + j))))) := hD
              refine zr_iinc (lv2 := [(4, .int (iI (((j : Nat) : Int) + 1))), (0, .ref S), (1, .int (iI ((n : Nat) : Int))), (2, .ref q1), (3, .int (iI ((i : Nat) : Int)))]) hx hb dX3_come_47 hl (k0 := 4) rfl (by decide) rfl (fun ls hl => ?_)
              have hl : lv_has ls 5 [(4, .int (iI ((j + 1 : Nat) : Int))), (0, .ref S), (1, .int (iI ((n : Nat) : Int))), (2, .ref q1), (3, .int (iI ((i : Nat) : Int)))] := hl
              refine lv_goto (tgt := 26) hx hb dX3_come_50 (by decide) ?_
              exact ih_LB (j + 1) ((u2 F1 i j (b (i * 6 + j)))) (by omega) (by omega) (fun a c ha hc => by by_cases q : a = i ∧ c = j; rw [q.1, q.2, u2_s, if_pos (by omega)]; rw [u2_n _ _ q, hF1 a c ha hc]; by_cases q2 : (a < i ∧ c < n) ∨ (a = i ∧ c < j); rw [if_pos q2, if_pos (by omega)]; rw [if_neg q2, if_neg (by omega)]) _ _ hP hD hS _ (lv_sub hl [1, 2, 3, 4, 0] rfl)
        exact LB (n - (0) + 1) (0) (F) (Nat.lt_succ_self _) (by omega) (fun a c ha hc => by rw [hF a c ha hc]; by_cases q : a < i ∧ c < n; rw [if_pos q, if_pos (by omega)]; rw [if_neg q, if_neg (by omega)]) _ _ hP hD hS _ (lv_sub hl [1, 2, 3, 4, 0] rfl)
  exact LA (n - (0) + 1) (0) ((fun _ _ => 0)) (Nat.lt_succ_self _) (by omega) (fun a c _ _ => by rw [if_neg (by omega)]) _ _ hP hD hS _ (lv_sub hl [3, 2, 1, 0] rfl)
set_option maxHeartbeats 8000000 in
set_option maxRecDepth 100000 in
/-- X3_first -/
theorem c_X3_first (l : Launch) (D : va_G) (cI cO : ClassId) (S O n : Nat) (R : Nat → Nat) (rc wv yv pv : Int) (vr ve vb : Value) (hn : n ≤ 5) (sz : Nat) : qQ (S := Nat × (Nat → Int)) l yX3_first wsX3_first 1 20 1 D cI cO [.ref S] [(S, .inr (3, [.ref O, .int (iI (rc)), vr, ve, vb, .int (iI (wv)), .int (iI (yv)), .int (iI (pv))])), (O, qOut cO n R)] sz (fun r u => r = some u.1 ∧ ∀ k, k < n → u.2 k = (k : Int)) (fun u => [(S, .inr (3, [.ref O, .int (iI (rc)), vr, ve, vb, .int (iI (wv)), .int (iI (yv)), .int (iI (pv))])), (O, qOut cO n R), (u.1, zArr cI n u.2)]) := by
  refine qQ_of (cc := cX3_first) (maxL := 3) (rt := (.array .int)) (by decide) rfl (Nat.le_of_ble_eq_true rfl) ?_
  intro p e s m args below meth c ls A hF hr hlocks hP hK hD hS hA hE hl
  have hF : zFix p m c cX3_first 3 s args wsX3_first RX3 := hF
  obtain ⟨hx, hb, hml, hown, hts⟩ := id hF
  have hP : va_P D vwCl [(S, .inr (3, [.ref O, .int (iI (rc)), vr, ve, vb, .int (iI (wv)), .int (iI (yv)), .int (iI (pv))])), (O, qOut cO n R)] s.heap := hP
  have hD : va_D A [(S, .inr (3, [.ref O, .int (iI (rc)), vr, ve, vb, .int (iI (wv)), .int (iI (yv)), .int (iI (pv))])), (O, qOut cO n R)] := hD
  have hl : lv_has ls 3 [(0, .ref S)] := hl
  refine lv_aload_n hx hb dX3_first_0 rfl (lv_at hl 0 rfl) ?_
  refine zc_riP (As := []) (rest := []) hF (c_X3_n l D cI cO S O n R rc wv yv pv vr ve vb ) (cwV 0 hts gX3_first_X3_n rfl rfl rfl (by decide +kernel) ⟨Nat.le_of_ble_eq_true rfl, Nat.le_of_ble_eq_true rfl⟩) hK (hP.sub (ws' := [(S, .inr (3, [.ref O, .int (iI (rc)), vr, ve, vb, .int (iI (wv)), .int (iI (yv)), .int (iI (pv))])), (O, qOut cO n R)]) [0, 1] rfl) 0 rfl rfl rfl rfl hl.1 rfl (Nat.le_of_ble_eq_true rfl) dX3_first_1 ⟨(show 0 ≤ 1 by omega), (show 8 * (0) ≤ 8 * 1 by omega)⟩ ?_
  have hP : va_P D vwCl ([(S, .inr (3, [.ref O, .int (iI (rc)), vr, ve, vb, .int (iI (wv)), .int (iI (yv)), .int (iI (pv))])), (O, qOut cO n R)] ++ []) _ := hP
  have hD : va_D A ([(S, .inr (3, [.ref O, .int (iI (rc)), vr, ve, vb, .int (iI (wv)), .int (iI (yv)), .int (iI (pv))])), (O, qOut cO n R)] ++ []) := hD
  refine zq_newa hx hb (hts (.arrayClass .int) (by decide +kernel)) hK hP hD hS hA (n) (by omega) (by omega) (show 0 + 1 ≤ 1 by omega) (show 8 * (0) + 8 ≤ 8 * 1 by omega) dX3_first_4 (fun q1 H hP hD hS => ?_)
  have hP : va_P D vwCl [(S, .inr (3, [.ref O, .int (iI (rc)), vr, ve, vb, .int (iI (wv)), .int (iI (yv)), .int (iI (pv))])), (O, qOut cO n R), (q1, zArr cI n (fun _ => 0))] _ := hP
  have hD : va_D A [(S, .inr (3, [.ref O, .int (iI (rc)), vr, ve, vb, .int (iI (wv)), .int (iI (yv)), .int (iI (pv))])), (O, qOut cO n R), (q1, zArr cI n (fun _ => 0))] := hD
  refine lv_astore_n (lv' := [(1, .ref q1), (0, .ref S)]) hx hb dX3_first_6 rfl hl (by decide) rfl (fun ls hl => ?_)
  refine zr_ic (n := ((0 : Nat) : Int)) hx hb dX3_first_7 ?_
  refine lv_istore_n (lv' := [(2, .int (iI ((0 : Nat) : Int))), (1, .ref q1), (0, .ref S)]) hx hb dX3_first_8 rfl hl (by decide) rfl (fun ls hl => ?_)
  have LF : ∀ (k0 : Nat) (i : Nat) (f : Nat → Int), n - i < k0 → (hi : i ≤ n) → (hf : ∀ k, k < i → f k = (k : Int)) → ∀ (H : Heap) (locs : List Loc), va_P D vwCl [(S, .inr (3, [.ref O, .int (iI (rc)), vr, ve, vb, .int (iI (wv)), .int (iI (yv)), .int (iI (pv))])), (O, qOut cO n R), (q1, zArr cI n f)] H → va_D A [(S, .inr (3, [.ref O, .int (iI (rc)), vr, ve, vb, .int (iI (wv)), .int (iI (yv)), .int (iI (pv))])), (O, qOut cO n R), (q1, zArr cI n f)] → va_S A s.heap H locs → ∀ (ls : Array Slot), lv_has ls 3 [(0, .ref S), (1, .ref q1), (2, .int (iI ((i : Nat) : Int)))] → W p l e (qRm 1 20 1) s m args below meth c H locs 1 (8 * 1) (MQ below (va_Qq (S := Nat × (Nat → Int)) (fun r u => r = some u.1 ∧ ∀ k, k < n → u.2 k = (k : Int)) (fun u9 t9 => va_P D vwCl ((fun u => [(S, .inr (3, [.ref O, .int (iI (rc)), vr, ve, vb, .int (iI (wv)), .int (iI (yv)), .int (iI (pv))])), (O, qOut cO n R), (u.1, zArr cI n u.2)]) u9) t9.heap ∧ va_D A ((fun u => [(S, .inr (3, [.ref O, .int (iI (rc)), vr, ve, vb, .int (iI (wv)), .int (iI (yv)), .int (iI (pv))])), (O, qOut cO n R), (u.1, zArr cI n u.2)]) u9)) A) args s 1 (8 * 1) A) (F0 m 9 ls []) := by
    intro k0
    induction k0 with
    | zero => intro i f hk; exact absurd hk (Nat.not_lt_zero _)
    | succ k0 ih_LF =>
      intro i f hk hi hf H locs hP hD hS ls hl
      refine lv_iload_n hx hb dX3_first_9 rfl (lv_at hl 2 rfl) ?_
      refine lv_aload_n hx hb dX3_first_10 rfl (lv_at hl 1 rfl) ?_
      refine zr_alen hx hb hK hP 2 0 rfl rfl dX3_first_11 ?_
      refine zr_icmp_ge (tgt := 25) hx hb dX3_first_12 (by decide) (zB_of (by omega) (by omega)) (zB_of (by omega) (by omega)) (fun c2 => ?_) (fun c2 => ?_)
      · refine lv_aload_n hx hb dX3_first_25 rfl (lv_at hl 1 rfl) ?_
        exact qQ_ret (r := (some q1)) hx hb hr (Or.inr ⟨_, rfl⟩) hlocks hS dX3_first_26 (show 1 ≤ 1 by omega) (q1, f) ⟨rfl, fun k hk => hf k (by omega)⟩ hP hD
      · refine lv_aload_n hx hb dX3_first_15 rfl (lv_at hl 1 rfl) ?_
        refine lv_iload_n hx hb dX3_first_16 rfl (lv_at hl 2 rfl) ?_
        refine lv_iload_n hx hb dX3_first_17 rfl (lv_at hl 2 rfl) ?_
        refine zr_iast hx hb hK hP hD hS 2 0 rfl rfl (i) (by omega) (by omega) (by omega) dX3_first_18 (fun H locs hP hD hS => ?_)
        have hP : va_P D vwCl [(S, .inr (3, [.ref O, .int (iI (rc)), vr, ve, vb, .int (iI (wv)), .int (iI (yv)), .int (iI (pv))])), (O, qOut cO n R), (q1, zArr cI n (uZ f (i) ((i : Nat) : Int)))] _ := hP
        have hD : va_D A [(S, .inr (3, [.ref O, .int (iI (rc)), vr, ve, vb, .int (iI (wv)), .int (iI (yv)), .int (iI (pv))])), (O, qOut cO n R), (q1, zArr cI n (uZ f (i) ((i : Nat) : Int)))] := hD
        refine zr_iinc (lv2 := [(2, .int (iI (((i : Nat) : Int) + 1))), (0, .ref S), (1, .ref q1)]) hx hb dX3_first_19 hl (k0 := 2) rfl (by decide) rfl (fun ls hl => ?_)
        have hl : lv_has ls 3 [(2, .int (iI ((i + 1 : Nat) : Int))), (0, .ref S), (1, .ref q1)] := hl
        refine lv_goto (tgt := 9) hx hb dX3_first_22 (by decide) ?_
        exact ih_LF (i + 1) ((uZ f (i) ((i : Nat) : Int))) (by omega) (by omega) (fun k hk => by by_cases q : k = i; rw [q, uZ_s]; rw [uZ_n _ _ q]; exact hf k (by omega)) _ _ hP hD hS _ (lv_sub hl [1, 2, 0] rfl)
  exact LF (n - (0) + 1) (0) ((fun _ => 0)) (Nat.lt_succ_self _) (by omega) (fun k hk => absurd hk (Nat.not_lt_zero _)) _ _ hP hD hS _ (lv_sub hl [2, 1, 0] rfl)
set_option maxHeartbeats 8000000 in
set_option maxRecDepth 100000 in
/-- X3_sum -/
theorem c_X3_sum (l : Launch) (D : va_G) (cI cO : ClassId) (S O n : Nat) (R : Nat → Nat) (b : Nat → Int) (rc wv yv pv : Int) (vr ve vb : Value) (RW : Nat) (g : Nat → Nat) (hn : n ≤ 5) (hb0 : ∀ k, 0 ≤ b k ∧ b k ≤ 999) (hg : ∀ k, k < n → g k < n) : qR l yX3_sum wsX3_sum 0 0 D cI cO [.ref S, .ref RW] ([(S, .inr (3, [.ref O, .int (iI (rc)), vr, ve, vb, .int (iI (wv)), .int (iI (yv)), .int (iI (pv))])), (O, qOut cO n R), (RW, zArr cI n (fun k => ((g k : Nat) : Int)))] ++ qRw cI n n R (fun i j => b (i * 6 + j))) (iI (zSum (fun k => b (k * 6 + g k)) n)) := by
  refine qR_of (cc := cX3_sum) (maxL := 4) (rt := .int) (by decide) rfl (Nat.le_of_ble_eq_true rfl) ?_
  intro p e s m args below meth c ls hF hr hlocks hP hK hl
  have hF : zFix p m c cX3_sum 4 s args wsX3_sum RX3 := hF
  obtain ⟨hx, hb, hml, hown, hts⟩ := id hF
  have hP : va_P D vwCl ([(S, .inr (3, [.ref O, .int (iI (rc)), vr, ve, vb, .int (iI (wv)), .int (iI (yv)), .int (iI (pv))])), (O, qOut cO n R), (RW, zArr cI n (fun k => ((g k : Nat) : Int)))] ++ qRw cI n n R (fun i j => b (i * 6 + j))) s.heap := hP
  have hl : lv_has ls 4 [(0, .ref S), (1, .ref RW)] := hl
  refine zr_ic (n := ((0 : Nat) : Int)) hx hb dX3_sum_0 ?_
  refine lv_istore_n (lv' := [(2, .int (iI ((0 : Nat) : Int))), (0, .ref S), (1, .ref RW)]) hx hb dX3_sum_1 rfl hl (by decide) rfl (fun ls hl => ?_)
  refine zr_ic (n := ((0 : Nat) : Int)) hx hb dX3_sum_2 ?_
  refine lv_istore_n (lv' := [(3, .int (iI ((0 : Nat) : Int))), (2, .int (iI ((0 : Nat) : Int))), (0, .ref S), (1, .ref RW)]) hx hb dX3_sum_3 rfl hl (by decide) rfl (fun ls hl => ?_)
  have LS : ∀ (k0 : Nat) (i : Nat), n - i < k0 → (hi : i ≤ n) → ∀ (ls : Array Slot), lv_has ls 4 [(0, .ref S), (1, .ref RW), (2, .int (iI (zSum (fun k => b (k * 6 + g k)) i))), (3, .int (iI ((i : Nat) : Int)))] → W p l e (zRm 0 0) s m args below meth c s.heap [] 0 0 (MQ below (vp_Si (fun x => x = (iI (zSum (fun k => b (k * 6 + g k)) n)))) args s 0 0 (fun _ => False)) (F0 m 4 ls []) := by
    intro k0
    induction k0 with
    | zero => intro i hk; exact absurd hk (Nat.not_lt_zero _)
    | succ k0 ih_LS =>
      intro i hk hi ls hl
      refine lv_iload_n hx hb dX3_sum_4 rfl (lv_at hl 3 rfl) ?_
      refine lv_aload_n hx hb dX3_sum_5 rfl (lv_at hl 1 rfl) ?_
      refine zr_alen hx hb hK hP 2 0 rfl rfl dX3_sum_6 ?_
      refine zr_icmp_ge (tgt := 29) hx hb dX3_sum_7 (by decide) (zB_of (by omega) (by omega)) (zB_of (by omega) (by omega)) (fun c1 => ?_) (fun c1 => ?_)
      · refine lv_iload_n hx hb dX3_sum_29 rfl (lv_at hl 2 rfl) ?_
        exact zRi_ret hx hb hr hlocks dX3_sum_30 (by rw [show i = n by omega])
      · refine lv_iload_n hx hb dX3_sum_10 rfl (lv_at hl 2 rfl) ?_
        refine lv_aload_n hx hb dX3_sum_11 rfl (lv_at hl 0 rfl) ?_
        refine va_get (D := D) (ci := 3) (v := .ref O) (C := RX3) (T := TX3) (N := 8) hx hb hts (by decide +kernel) hown hK hP 0 rfl rfl 0 (by decide) (hts (.fieldLink RX3 9 "RentHarmonyLaw$Sim" "bids" "[[I") (by decide +kernel)) (fun _ h9 => h9) rfl dX3_sum_12 ?_
        refine lv_iload_n hx hb dX3_sum_15 rfl (lv_at hl 3 rfl) ?_
        refine zq_ald hx hb hK hP 1 1 rfl rfl (i) (by omega) (by omega) (by omega) dX3_sum_16 ?_
        refine lv_aload_n hx hb dX3_sum_17 rfl (lv_at hl 1 rfl) ?_
        refine lv_iload_n hx hb dX3_sum_18 rfl (lv_at hl 3 rfl) ?_
        refine zr_iald hx hb hK hP 2 0 rfl rfl (i) (by omega) (by omega) (by omega) dX3_sum_19 ?_
        have hgi := hg i (by omega)
        refine zq_rld (f := (fun i j => b (i * 6 + j)) i) hx hb hK hP 0 (List.mem_append_right _ (qRw_mem (by omega))) rfl (g (i)) (by omega) (by omega) (by omega) dX3_sum_20 ?_
        refine zr_topi (show (fun i j => b (i * 6 + j)) i (g (i)) = (b (i * 6 + (g (i)))) from rfl) ?_
        have hb2 := hb0 (i * 6 + (g (i)))
        refine zr_add hx hb dX3_sum_21 ?_
        refine lv_istore_n (lv' := [(2, .int (iI ((zSum (fun k => b (k * 6 + g k)) i) + (b (i * 6 + (g (i))))))), (0, .ref S), (1, .ref RW), (3, .int (iI ((i : Nat) : Int)))]) hx hb dX3_sum_22 rfl hl (by decide) rfl (fun ls hl => ?_)
        refine zr_iinc (lv2 := [(3, .int (iI (((i : Nat) : Int) + 1))), (2, .int (iI ((zSum (fun k => b (k * 6 + g k)) i) + (b (i * 6 + (g (i))))))), (0, .ref S), (1, .ref RW)]) hx hb dX3_sum_23 hl (k0 := 3) rfl (by decide) rfl (fun ls hl => ?_)
        have hl : lv_has ls 4 [(3, .int (iI ((i + 1 : Nat) : Int))), (2, .int (iI ((zSum (fun k => b (k * 6 + g k)) i) + (b (i * 6 + (g (i))))))), (0, .ref S), (1, .ref RW)] := hl
        refine lv_goto (tgt := 4) hx hb dX3_sum_26 (by decide) ?_
        have hl : lv_has ls 4 [(3, .int (iI ((i + 1 : Nat) : Int))), (2, .int (iI (zSum (fun k => b (k * 6 + g k)) (i + 1)))), (0, .ref S), (1, .ref RW)] := by rw [show (zSum (fun k => b (k * 6 + g k)) (i + 1)) = ((zSum (fun k => b (k * 6 + g k)) i) + (b (i * 6 + (g (i))))) from rfl]; exact hl
        exact ih_LS (i + 1) (by omega) (by omega) _ (lv_sub hl [2, 3, 1, 0] rfl)
  have hl : lv_has ls 4 [(3, .int (iI ((0 : Nat) : Int))), (2, .int (iI (zSum (fun k => b (k * 6 + g k)) 0))), (0, .ref S), (1, .ref RW)] := by rw [show (zSum (fun k => b (k * 6 + g k)) 0) = ((0 : Nat) : Int) from rfl]; exact hl
  exact LS (n - (0) + 1) (0) (Nat.lt_succ_self _) (by omega) _ (lv_sub hl [2, 3, 1, 0] rfl)
set_option maxHeartbeats 8000000 in
set_option maxRecDepth 100000 in
/-- X3_next -/
theorem c_X3_next (l : Launch) (D : va_G) (cI cO : ClassId) (RW n : Nat) (f : Nat → Int) (hn : n ≤ 5) (h1 : 1 ≤ n) (hf : ∀ k, k < n → 0 ≤ f k ∧ f k ≤ 5) (sz : Nat) : qQ (S := Option (Nat × (Nat → Int))) l yX3_next wsX3_next 1 30 2 D cI cO [.ref RW] [(RW, zArr cI n f)] sz (fun r u => (u = none ∧ r = none ∧ qAt f (n - 1) = 0) ∨ ∃ (a : Nat) (t : Nat → Int), u = some (a, t) ∧ r = some a ∧ qAt f (n - 1) ≠ 0 ∧ ∀ j, j < n → t j = qNx n f j) (qNo cI RW n f) := by
  refine qQ_of (cc := cX3_next) (maxL := 6) (rt := (.array .int)) (by decide) rfl (Nat.le_of_ble_eq_true rfl) ?_
  intro p e s m args below meth c ls A hF hr hlocks hP hK hD hS hA hE hl
  have hF : zFix p m c cX3_next 6 s args wsX3_next RX3 := hF
  obtain ⟨hx, hb, hml, hown, hts⟩ := id hF
  have hP : va_P D vwCl [(RW, zArr cI n f)] s.heap := hP
  have hD : va_D A [(RW, zArr cI n f)] := hD
  have hl : lv_has ls 6 [(0, .ref RW)] := hl
  refine lv_aload_n hx hb dX3_next_0 rfl (lv_at hl 0 rfl) ?_
  refine zr_alen hx hb hK hP 0 0 rfl rfl dX3_next_1 ?_
  refine zr_ic (n := ((2 : Nat) : Int)) hx hb dX3_next_2 ?_
  refine zr_sub hx hb dX3_next_3 ?_
  refine lv_istore_n (lv' := [(1, .int (iI (((n : Nat) : Int) - ((2 : Nat) : Int)))), (0, .ref RW)]) hx hb dX3_next_4 rfl hl (by decide) rfl (fun ls hl => ?_)
  have L1 : ∀ (k0 : Nat) (mm : Nat), mm < k0 → (hm : mm + 1 ≤ n) → (hq : qAt f mm = qAt f (n - 1)) → ∀ (H : Heap) (locs : List Loc), va_P D vwCl [(RW, zArr cI n f)] H → va_D A [(RW, zArr cI n f)] → va_S A s.heap H locs → ∀ (ls : Array Slot), lv_has ls 6 [(0, .ref RW), (1, .int (iI (((mm : Nat) : Int) - 1)))] → W p l e (qRm 1 30 2) s m args below meth c H locs 0 (8 * 0) (MQ below (va_Qq (S := Option (Nat × (Nat → Int))) (fun r u => (u = none ∧ r = none ∧ qAt f (n - 1) = 0) ∨ ∃ (a : Nat) (t : Nat → Int), u = some (a, t) ∧ r = some a ∧ qAt f (n - 1) ≠ 0 ∧ ∀ j, j < n → t j = qNx n f j) (fun u9 t9 => va_P D vwCl ((qNo cI RW n f) u9) t9.heap ∧ va_D A ((qNo cI RW n f) u9)) A) args s 2 (8 * 2) A) (F0 m 5 ls []) := by
    intro k0
    induction k0 with
    | zero => intro mm hk; exact absurd hk (Nat.not_lt_zero _)
    | succ k0 ih_L1 =>
      intro mm hk hm hq H locs hP hD hS ls hl
      refine lv_iload_n hx hb dX3_next_5 rfl (lv_at hl 1 rfl) ?_
      refine zr_if_lt (tgt := 26) hx hb dX3_next_6 (by decide) (zB_of (by omega) (by omega)) (fun c1 => ?_) (fun c1 => ?_)
      · refine lv_iload_n hx hb dX3_next_26 rfl (lv_at hl 1 rfl) ?_
        refine zr_if_ge (tgt := 32) hx hb dX3_next_27 (by decide) (zB_of (by omega) (by omega)) (fun c2 => ?_) (fun c2 => ?_)
        · exact absurd c2 (by omega)
        · refine lv_null hx hb dX3_next_30 ?_
          exact qQ_ret (r := none) hx hb hr (Or.inr ⟨_, rfl⟩) hlocks hS dX3_next_31 (show 0 ≤ 2 by omega) none (Or.inl ⟨rfl, rfl, by rw [← hq, show mm = 0 by omega]; rfl⟩) hP hD
      · obtain ⟨m1, rfl⟩ : ∃ m1, mm = m1 + 1 := ⟨mm - 1, by omega⟩
        have hl : lv_has ls 6 [(0, .ref RW), (1, .int (iI (((m1 + 1 : Nat) : Int) - 1)))] := lv_sub hl [0, 1] rfl
        have hl : lv_has ls 6 [(0, .ref RW), (1, .int (iI ((m1 : Nat) : Int)))] := by rw [show ((m1 : Nat) : Int) = (((m1 + 1 : Nat) : Int) - 1) from by omega]; exact hl
        refine lv_aload_n hx hb dX3_next_9 rfl (lv_at hl 0 rfl) ?_
        refine lv_iload_n hx hb dX3_next_10 rfl (lv_at hl 1 rfl) ?_
        refine zr_iald hx hb hK hP 0 0 rfl rfl (m1) (by omega) (by omega) (by omega) dX3_next_11 ?_
        have hv3 := hf (m1) (by omega)
        refine lv_aload_n hx hb dX3_next_12 rfl (lv_at hl 0 rfl) ?_
        refine lv_iload_n hx hb dX3_next_13 rfl (lv_at hl 1 rfl) ?_
        refine zr_ic (n := ((1 : Nat) : Int)) hx hb dX3_next_14 ?_
        refine zr_addN (x := m1) (y := 1) hx hb dX3_next_15 ?_
        refine zr_iald hx hb hK hP 0 0 rfl rfl (m1 + 1) (by omega) (by omega) (by omega) dX3_next_16 ?_
        have hv4 := hf (m1 + 1) (by omega)
        refine zr_icmp_le (tgt := 26) hx hb dX3_next_17 (by decide) (zB_of (by omega) (by omega)) (zB_of (by omega) (by omega)) (fun c5 => ?_) (fun c5 => ?_)
        · have hAt : qAt f (n - 1) = m1 + 1 := by rw [← hq]; exact if_neg (by omega)
          have hle : f m1 ≤ f (m1 + 1) := c5
          refine lv_iload_n hx hb dX3_next_26 rfl (lv_at hl 1 rfl) ?_
          refine zr_if_ge (tgt := 32) hx hb dX3_next_27 (by decide) (zB_of (by omega) (by omega)) (fun c6 => ?_) (fun c6 => ?_)
          · refine lv_aload_n hx hb dX3_next_32 rfl (lv_at hl 0 rfl) ?_
            refine va_clone (cA := cI) (x := (n, .inl (fun k => iI (f k)))) (ty := .int) hx hb (hml.trans hl.1.symm) hown (hts (.methodLink RX3 20 ⟨"[I", "clone", "()Ljava/lang/Object;"⟩) (by decide +kernel)) (hts (.sameMethod "[I" "java/lang/Object" "clone" "()Ljava/lang/Object;") (by decide +kernel)) (hts (.native ⟨"java/lang/Object", "clone", "()Ljava/lang/Object;"⟩) (by decide +kernel)) (hts (.instanceMethod ⟨"java/lang/Object", "clone", "()Ljava/lang/Object;"⟩) (by decide +kernel)) (hts (.selects "[I" ⟨"[I", "clone", "()Ljava/lang/Object;"⟩ ⟨"java/lang/Object", "clone", "()Ljava/lang/Object;"⟩) (by decide +kernel)) hE.2 hK hP hD hS hA 0 0 rfl rfl (qKn hK 0 rfl) (va_fit (fun i _ => rfl)) (Nat.le_of_ble_eq_true rfl) (Nat.le_of_ble_eq_true rfl) (Nat.le_of_ble_eq_true rfl) (show 8 * (0) + n ≤ 8 * 2 by omega) dX3_next_33 (fun q7 H _ hP hD hS => ?_)
            refine W.widen (k := 1) (n := 8 * (1)) (show 0 + 1 ≤ 1 by omega) (show 8 * (0) + n ≤ 8 * (1) by omega) ?_
            have hP : va_P D vwCl [(RW, zArr cI n f), (q7, zArr cI n f)] _ := hP
            have hD : va_D A [(RW, zArr cI n f), (q7, zArr cI n f)] := hD
            refine va_castA hx hb hown (hts (.classLink RX3 7 "[I") (by decide +kernel)) hP 1 rfl (qKn hK 0 rfl) dX3_next_36 ?_
            refine lv_astore_n (lv' := [(2, .ref q7), (0, .ref RW), (1, .int (iI ((m1 : Nat) : Int)))]) hx hb dX3_next_39 rfl hl (by decide) rfl (fun ls hl => ?_)
            refine lv_aload_n hx hb dX3_next_40 rfl (lv_at hl 1 rfl) ?_
            refine zr_alen hx hb hK hP 0 0 rfl rfl dX3_next_41 ?_
            refine zr_ic (n := ((1 : Nat) : Int)) hx hb dX3_next_42 ?_
            refine zr_sub hx hb dX3_next_43 ?_
            refine lv_istore_n (lv' := [(3, .int (iI (((n : Nat) : Int) - ((1 : Nat) : Int)))), (2, .ref q7), (0, .ref RW), (1, .int (iI ((m1 : Nat) : Int)))]) hx hb dX3_next_44 rfl hl (by decide) rfl (fun ls hl => ?_)
            have L2 : ∀ (k0 : Nat) (y : Nat), y < k0 → (hy : y < n) → (hy1 : m1 < y) → (hq2 : qBy f m1 y = qBy f m1 (n - 1)) → ∀ (H : Heap) (locs : List Loc), va_P D vwCl [(RW, zArr cI n f), (q7, zArr cI n f)] H → va_D A [(RW, zArr cI n f), (q7, zArr cI n f)] → va_S A s.heap H locs → ∀ (ls : Array Slot), lv_has ls 6 [(0, .ref RW), (1, .int (iI ((m1 : Nat) : Int))), (2, .ref q7), (3, .int (iI ((y : Nat) : Int)))] → W p l e (qRm 1 30 2) s m args below meth c H locs 1 (8 * 1) (MQ below (va_Qq (S := Option (Nat × (Nat → Int))) (fun r u => (u = none ∧ r = none ∧ qAt f (n - 1) = 0) ∨ ∃ (a : Nat) (t : Nat → Int), u = some (a, t) ∧ r = some a ∧ qAt f (n - 1) ≠ 0 ∧ ∀ j, j < n → t j = qNx n f j) (fun u9 t9 => va_P D vwCl ((qNo cI RW n f) u9) t9.heap ∧ va_D A ((qNo cI RW n f) u9)) A) args s 2 (8 * 2) A) (F0 m 45 ls []) := by
              intro k0
              induction k0 with
              | zero => intro y hk; exact absurd hk (Nat.not_lt_zero _)
              | succ k0 ih_L2 =>
                intro y hk hy hy1 hq2 H locs hP hD hS ls hl
                refine lv_aload_n hx hb dX3_next_45 rfl (lv_at hl 0 rfl) ?_
                refine lv_iload_n hx hb dX3_next_46 rfl (lv_at hl 3 rfl) ?_
                refine zr_iald hx hb hK hP 0 0 rfl rfl (y) (by omega) (by omega) (by omega) dX3_next_47 ?_
                have hv8 := hf (y) (by omega)
                refine lv_aload_n hx hb dX3_next_48 rfl (lv_at hl 0 rfl) ?_
                refine lv_iload_n hx hb dX3_next_49 rfl (lv_at hl 1 rfl) ?_
                refine zr_iald hx hb hK hP 0 0 rfl rfl (m1) (by omega) (by omega) (by omega) dX3_next_50 ?_
                have hv9 := hf (m1) (by omega)
                refine zr_icmp_ge (tgt := 60) hx hb dX3_next_51 (by decide) (zB_of (by omega) (by omega)) (zB_of (by omega) (by omega)) (fun c10 => ?_) (fun c10 => ?_)
                · have hB : qBy f m1 (n - 1) = y := by rw [← hq2]; obtain ⟨y1, rfl⟩ : ∃ y1, y = y1 + 1 := ⟨y - 1, by omega⟩; exact if_neg (by omega)
                  refine lv_aload_n hx hb dX3_next_60 rfl (lv_at hl 2 rfl) ?_
                  refine lv_iload_n hx hb dX3_next_61 rfl (lv_at hl 1 rfl) ?_
                  refine lv_aload_n hx hb dX3_next_62 rfl (lv_at hl 0 rfl) ?_
                  refine lv_iload_n hx hb dX3_next_63 rfl (lv_at hl 3 rfl) ?_
                  refine zr_iald hx hb hK hP 0 0 rfl rfl (y) (by omega) (by omega) (by omega) dX3_next_64 ?_
                  refine zr_iast hx hb hK hP hD hS 1 0 rfl rfl (m1) (by omega) (by omega) (by omega) dX3_next_65 (fun H locs hP hD hS => ?_)
                  have hP : va_P D vwCl [(RW, zArr cI n f), (q7, zArr cI n (uZ f (m1) (f (y))))] _ := hP
                  have hD : va_D A [(RW, zArr cI n f), (q7, zArr cI n (uZ f (m1) (f (y))))] := hD
                  refine lv_aload_n hx hb dX3_next_66 rfl (lv_at hl 2 rfl) ?_
                  refine lv_iload_n hx hb dX3_next_67 rfl (lv_at hl 3 rfl) ?_
                  refine lv_aload_n hx hb dX3_next_68 rfl (lv_at hl 0 rfl) ?_
                  refine lv_iload_n hx hb dX3_next_69 rfl (lv_at hl 1 rfl) ?_
                  refine zr_iald hx hb hK hP 0 0 rfl rfl (m1) (by omega) (by omega) (by omega) dX3_next_70 ?_
                  refine zr_iast hx hb hK hP hD hS 1 0 rfl rfl (y) (by omega) (by omega) (by omega) dX3_next_71 (fun H locs hP hD hS => ?_)
                  have hP : va_P D vwCl [(RW, zArr cI n f), (q7, zArr cI n (uZ (uZ f (m1) (f (y))) (y) (f (m1))))] _ := hP
                  have hD : va_D A [(RW, zArr cI n f), (q7, zArr cI n (uZ (uZ f (m1) (f (y))) (y) (f (m1))))] := hD
                  refine lv_aload_n hx hb dX3_next_72 rfl (lv_at hl 2 rfl) ?_
                  refine va_clone (cA := cI) (x := (n, .inl (fun k => iI ((uZ (uZ f (m1) (f (y))) (y) (f (m1))) k)))) (ty := .int) hx hb (hml.trans hl.1.symm) hown (hts (.methodLink RX3 20 ⟨"[I", "clone", "()Ljava/lang/Object;"⟩) (by decide +kernel)) (hts (.sameMethod "[I" "java/lang/Object" "clone" "()Ljava/lang/Object;") (by decide +kernel)) (hts (.native ⟨"java/lang/Object", "clone", "()Ljava/lang/Object;"⟩) (by decide +kernel)) (hts (.instanceMethod ⟨"java/lang/Object", "clone", "()Ljava/lang/Object;"⟩) (by decide +kernel)) (hts (.selects "[I" ⟨"[I", "clone", "()Ljava/lang/Object;"⟩ ⟨"java/lang/Object", "clone", "()Ljava/lang/Object;"⟩) (by decide +kernel)) hE.2 hK hP hD hS hA 1 0 rfl rfl (qKn hK 0 rfl) (va_fit (fun i _ => rfl)) (Nat.le_of_ble_eq_true rfl) (Nat.le_of_ble_eq_true rfl) (Nat.le_of_ble_eq_true rfl) (show 8 * (1) + n ≤ 8 * 2 by omega) dX3_next_73 (fun q11 H _ hP hD hS => ?_)
                  refine W.widen (k := 2) (n := 8 * (2)) (show 1 + 1 ≤ 2 by omega) (show 8 * (1) + n ≤ 8 * (2) by omega) ?_
                  have hP : va_P D vwCl [(RW, zArr cI n f), (q7, zArr cI n (uZ (uZ f (m1) (f (y))) (y) (f (m1)))), (q11, zArr cI n (uZ (uZ f (m1) (f (y))) (y) (f (m1))))] _ := hP
                  have hD : va_D A [(RW, zArr cI n f), (q7, zArr cI n (uZ (uZ f (m1) (f (y))) (y) (f (m1)))), (q11, zArr cI n (uZ (uZ f (m1) (f (y))) (y) (f (m1))))] := hD
                  refine va_castA hx hb hown (hts (.classLink RX3 7 "[I") (by decide +kernel)) hP 2 rfl (qKn hK 0 rfl) dX3_next_76 ?_
                  refine lv_astore (lv' := [(4, .ref q11), (0, .ref RW), (1, .int (iI ((m1 : Nat) : Int))), (2, .ref q7), (3, .int (iI ((y : Nat) : Int)))]) hx hb dX3_next_79 hl (by decide) rfl (fun ls hl => ?_)
                  refine lv_iload_n hx hb dX3_next_81 rfl (lv_at hl 2 rfl) ?_
                  refine zr_ic (n := ((1 : Nat) : Int)) hx hb dX3_next_82 ?_
                  refine zr_addN (x := m1) (y := 1) hx hb dX3_next_83 ?_
                  refine lv_istore (lv' := [(5, .int (iI ((m1 + 1 : Nat) : Int))), (4, .ref q11), (0, .ref RW), (1, .int (iI ((m1 : Nat) : Int))), (2, .ref q7), (3, .int (iI ((y : Nat) : Int)))]) hx hb dX3_next_84 hl (by decide) rfl (fun ls hl => ?_)
                  have L3 : ∀ (k0 : Nat) (k : Nat) (t : Nat → Int), n - k < k0 → (hk1 : m1 + 1 ≤ k) → (hk2 : k ≤ n) → (ht : ∀ j, j < n → t j = if m1 < j ∧ j < k then (uZ (uZ f (m1) (f (y))) (y) (f (m1))) (n + m1 - j) else (uZ (uZ f (m1) (f (y))) (y) (f (m1))) j) → ∀ (H : Heap) (locs : List Loc), va_P D vwCl [(RW, zArr cI n f), (q7, zArr cI n (uZ (uZ f (m1) (f (y))) (y) (f (m1)))), (q11, zArr cI n t)] H → va_D A [(RW, zArr cI n f), (q7, zArr cI n (uZ (uZ f (m1) (f (y))) (y) (f (m1)))), (q11, zArr cI n t)] → va_S A s.heap H locs → ∀ (ls : Array Slot), lv_has ls 6 [(0, .ref RW), (1, .int (iI ((m1 : Nat) : Int))), (2, .ref q7), (4, .ref q11), (5, .int (iI ((k : Nat) : Int)))] → W p l e (qRm 1 30 2) s m args below meth c H locs 2 (8 * 2) (MQ below (va_Qq (S := Option (Nat × (Nat → Int))) (fun r u => (u = none ∧ r = none ∧ qAt f (n - 1) = 0) ∨ ∃ (a : Nat) (t : Nat → Int), u = some (a, t) ∧ r = some a ∧ qAt f (n - 1) ≠ 0 ∧ ∀ j, j < n → t j = qNx n f j) (fun u9 t9 => va_P D vwCl ((qNo cI RW n f) u9) t9.heap ∧ va_D A ((qNo cI RW n f) u9)) A) args s 2 (8 * 2) A) (F0 m 86 ls []) := by
                    intro k0
                    induction k0 with
                    | zero => intro k t hk; exact absurd hk (Nat.not_lt_zero _)
                    | succ k0 ih_L3 =>
                      intro k t hk hk1 hk2 ht H locs hP hD hS ls hl
                      refine lv_iload hx hb dX3_next_86 (lv_at hl 4 rfl) ?_
                      refine lv_aload_n hx hb dX3_next_88 rfl (lv_at hl 0 rfl) ?_
                      refine zr_alen hx hb hK hP 0 0 rfl rfl dX3_next_89 ?_
                      refine zr_icmp_ge (tgt := 113) hx hb dX3_next_90 (by decide) (zB_of (by omega) (by omega)) (zB_of (by omega) (by omega)) (fun c12 => ?_) (fun c12 => ?_)
                      · refine lv_aload hx hb dX3_next_113 (lv_at hl 3 rfl) ?_
                        have hP9 := hP.sub (ws' := [(RW, zArr cI n f), (q11, zArr cI n t)]) [0, 2] rfl
                        have hD9 := hD.sub (ws' := [(RW, zArr cI n f), (q11, zArr cI n t)]) [0, 2] (by decide) rfl
                        exact qQ_ret (r := (some q11)) hx hb hr (Or.inr ⟨_, rfl⟩) hlocks hS dX3_next_115 (show 2 ≤ 2 by omega) (some (q11, t)) (Or.inr ⟨q11, t, rfl, rfl, by omega, fun j hj => by unfold qNx; rw [hAt, Nat.add_sub_cancel, hB, ht j hj, show k = n by omega]; rfl⟩) hP9 hD9
                      · refine lv_aload hx hb dX3_next_93 (lv_at hl 3 rfl) ?_
                        refine lv_iload hx hb dX3_next_95 (lv_at hl 4 rfl) ?_
                        refine lv_aload_n hx hb dX3_next_97 rfl (lv_at hl 2 rfl) ?_
                        refine lv_aload_n hx hb dX3_next_98 rfl (lv_at hl 0 rfl) ?_
                        refine zr_alen hx hb hK hP 0 0 rfl rfl dX3_next_99 ?_
                        refine lv_iload_n hx hb dX3_next_100 rfl (lv_at hl 1 rfl) ?_
                        refine zr_addN (x := n) (y := m1) hx hb dX3_next_101 ?_
                        refine lv_iload hx hb dX3_next_102 (lv_at hl 4 rfl) ?_
                        refine zr_sub hx hb dX3_next_104 ?_
                        refine zr_iald hx hb hK hP 1 0 rfl rfl ((n + m1) - (k)) (by omega) (by omega) (by omega) dX3_next_105 ?_
                        refine zr_iast hx hb hK hP hD hS 2 0 rfl rfl (k) (by omega) (by omega) (by omega) dX3_next_106 (fun H locs hP hD hS => ?_)
                        have hP : va_P D vwCl [(RW, zArr cI n f), (q7, zArr cI n (uZ (uZ f (m1) (f (y))) (y) (f (m1)))), (q11, zArr cI n (uZ t (k) ((uZ (uZ f (m1) (f (y))) (y) (f (m1))) ((n + m1) - (k)))))] _ := hP
                        have hD : va_D A [(RW, zArr cI n f), (q7, zArr cI n (uZ (uZ f (m1) (f (y))) (y) (f (m1)))), (q11, zArr cI n (uZ t (k) ((uZ (uZ f (m1) (f (y))) (y) (f (m1))) ((n + m1) - (k)))))] := hD
                        refine zr_iinc (lv2 := [(5, .int (iI (((k : Nat) : Int) + 1))), (0, .ref RW), (1, .int (iI ((m1 : Nat) : Int))), (2, .ref q7), (4, .ref q11)]) hx hb dX3_next_107 hl (k0 := 4) rfl (by decide) rfl (fun ls hl => ?_)
                        have hl : lv_has ls 6 [(5, .int (iI ((k + 1 : Nat) : Int))), (0, .ref RW), (1, .int (iI ((m1 : Nat) : Int))), (2, .ref q7), (4, .ref q11)] := hl
                        refine lv_goto (tgt := 86) hx hb dX3_next_110 (by decide) ?_
                        exact ih_L3 (k + 1) ((uZ t (k) ((uZ (uZ f (m1) (f (y))) (y) (f (m1))) ((n + m1) - (k))))) (by omega) (by omega) (by omega) (fun j hj => by by_cases q : j = k; rw [q, uZ_s, if_pos (by omega)]; rw [uZ_n _ _ q, ht j hj]; by_cases q2 : m1 < j ∧ j < k; rw [if_pos q2, if_pos (by omega)]; rw [if_neg q2, if_neg (by omega)]) _ _ hP hD hS _ (lv_sub hl [1, 2, 3, 4, 0] rfl)
                  exact L3 (n - (m1 + 1) + 1) (m1 + 1) ((uZ (uZ f (m1) (f (y))) (y) (f (m1)))) (Nat.lt_succ_self _) (by omega) (by omega) (fun j hj => by rw [if_neg (by omega)]) _ _ hP hD hS _ (lv_sub hl [2, 3, 4, 1, 0] rfl)
                · have hne : y ≠ m1 + 1 := fun e9 => by rw [e9] at c10; omega
                  obtain ⟨y1, rfl⟩ : ∃ y1, y = y1 + 1 := ⟨y - 1, by omega⟩
                  refine zr_iinc (lv2 := [(3, .int (iI (((y1 + 1 : Nat) : Int) + (-1)))), (0, .ref RW), (1, .int (iI ((m1 : Nat) : Int))), (2, .ref q7)]) hx hb dX3_next_54 hl (k0 := 3) rfl (by decide) rfl (fun ls hl => ?_)
                  refine lv_goto (tgt := 45) hx hb dX3_next_57 (by decide) ?_
                  have hl : lv_has ls 6 [(3, .int (iI ((y1 : Nat) : Int))), (0, .ref RW), (1, .int (iI ((m1 : Nat) : Int))), (2, .ref q7)] := by rw [show ((y1 : Nat) : Int) = (((y1 + 1 : Nat) : Int) + (-1)) from by omega]; exact hl
                  exact ih_L2 (y1) (by omega) (by omega) (by omega) (by rw [← hq2]; exact (if_pos c10).symm) _ _ hP hD hS _ (lv_sub hl [1, 2, 3, 0] rfl)
            have hl : lv_has ls 6 [(3, .int (iI ((n - 1 : Nat) : Int))), (2, .ref q7), (0, .ref RW), (1, .int (iI ((m1 : Nat) : Int)))] := by rw [show ((n - 1 : Nat) : Int) = (((n : Nat) : Int) - ((1 : Nat) : Int)) from by omega]; exact hl
            exact L2 ((n - 1) + 1) (n - 1) (Nat.lt_succ_self _) (by omega) (by omega) rfl _ _ hP hD hS _ (lv_sub hl [2, 3, 1, 0] rfl)
          · exact absurd c6 (by omega)
        · refine zr_iinc (lv2 := [(1, .int (iI (((m1 : Nat) : Int) + (-1)))), (0, .ref RW)]) hx hb dX3_next_20 hl (k0 := 1) rfl (by decide) rfl (fun ls hl => ?_)
          refine lv_goto (tgt := 5) hx hb dX3_next_23 (by decide) ?_
          have hl : lv_has ls 6 [(1, .int (iI (((m1 : Nat) : Int) - 1))), (0, .ref RW)] := by rw [show (((m1 : Nat) : Int) - 1) = (((m1 : Nat) : Int) + (-1)) from by omega]; exact hl
          exact ih_L1 (m1) (by omega) (by omega) (by rw [← hq]; exact (if_pos c5).symm) _ _ hP hD hS _ (lv_sub hl [1, 0] rfl)
  have hl : lv_has ls 6 [(1, .int (iI (((n - 1 : Nat) : Int) - 1))), (0, .ref RW)] := by rw [show (((n - 1 : Nat) : Int) - 1) = (((n : Nat) : Int) - ((2 : Nat) : Int)) from by omega]; exact hl
  exact L1 ((n - 1) + 1) (n - 1) (Nat.lt_succ_self _) (by omega) rfl _ _ hP hD hS _ (lv_sub hl [1, 0] rfl)
