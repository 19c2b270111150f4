/-! p18: Sim: leave, settle -/
theorem qSh1 {n : Nat} {z : Int} (h : z < 0) : ((0 : Nat) : Int) = zShare n z := by
  unfold zShare
  rw [if_neg (by omega)]
  rfl
theorem qSh2 {n : Nat} {z : Int} (h : 0 ≤ z) (hn : 1 ≤ n) : z / (n : Int) = zShare n z := by
  unfold zShare
  by_cases h0 : z = 0
  · rw [if_neg (by omega), h0, Int.zero_ediv]
  · rw [if_pos (by omega)]
theorem qCb {n m : Nat} {b E : Nat → Int} {g : Nat → Nat} {D : Nat → Nat → Int} (hb0 : ∀ k, 0 ≤ b k ∧ b k ≤ 999) (hE : ∀ a, a < n → 0 ≤ E a ∧ E a ≤ 5994) (h : qCl n (zWt b g) E m D) : ∀ a c, a < n → c < n → -999 ≤ D a c ∧ D a c ≤ 5994 := by
  intro a c ha hc
  have h1 := h.1 a c ha hc
  have h2 := hE a ha
  have h3 := hE c hc
  have h4 := hb0 (a * 6 + g c)
  have h5 := hb0 (c * 6 + g c)
  have h6 : zWt b g a c = b (a * 6 + g c) - b (c * 6 + g c) := rfl
  omega

set_option maxHeartbeats 8000000 in
set_option maxRecDepth 100000 in
/-- X3_leave -/
theorem c_X3_leave (l : Launch) (D : va_G) (cI cO : ClassId) (S O n : Nat) (R : Nat → Nat) (b : Nat → Int) (rc wv yv pv : Int) (vr ve vb : Value) (x : Nat) (hn : n ≤ 5) (hb0 : ∀ k, 0 ≤ b k ∧ b k ≤ 999) (h1 : 1 ≤ n) (hx0 : x < n) (sz : Nat) : qI (S := Nat × (Nat → Nat) × Nat) l yX3_leave wsX3_leave 3 77 248 D cI cO [.ref S, .int (iI ((x : Nat) : Int))] ([(S, .inr (3, [.ref O, .int (iI (rc)), vr, ve, vb, .int (iI (wv)), .int (iI (yv)), .int (iI (pv))])), (O, qOut cO n R)] ++ qRw cI n n R (fun i j => b (i * 6 + j))) sz (fun r _ => r = iI ((zRo n b x : Nat) : Int)) (fun u => ([(S, .inr (3, [.ref u.1, .int (iI (rc)), .ref u.2.2, ve, vb, .int (iI (zWo n b)), .int (iI (zWy n b)), .int (iI (pv))])), (u.1, qOut cO (n - 1) u.2.1)] ++ qRw cI (n - 1) (n - 1) u.2.1 (fun i j => (zSh x (zRo n b x) (n - 1) b (n - 1)) (i * 6 + j)))) := by
  refine qI_of (cc := cX3_leave) (maxL := 7) (rt := .int) (by decide) rfl (Nat.le_of_ble_eq_true rfl) ?_
  intro p e s m args below meth c ls A hF hr hlocks hP hK hD hS hA hE hl
  have hF : zFix p m c cX3_leave 7 s args wsX3_leave RX3 := hF
  obtain ⟨hx, hb, hml, hown, hts⟩ := id hF
  have hP : va_P D vwCl ([(S, .inr (3, [.ref O, .int (iI (rc)), vr, ve, vb, .int (iI (wv)), .int (iI (yv)), .int (iI (pv))])), (O, qOut cO n R)] ++ qRw cI n n R (fun i j => b (i * 6 + j))) s.heap := hP
  have hD : va_D A ([(S, .inr (3, [.ref O, .int (iI (rc)), vr, ve, vb, .int (iI (wv)), .int (iI (yv)), .int (iI (pv))])), (O, qOut cO n R)] ++ qRw cI n n R (fun i j => b (i * 6 + j))) := hD
  have hl : lv_has ls 7 [(0, .ref S), (1, .int (iI ((x : Nat) : Int)))] := hl
  refine lv_aload_n hx hb dX3_leave_0 rfl (lv_at hl 0 rfl) ?_
  refine zc_qq (As := []) (rest := []) hF (c_X3_give l D cI cO S O n R b rc wv yv pv vr ve vb (by omega) (by assumption) (by omega) _) (cwV 0 hts gX3_leave_X3_give rfl rfl rfl (by decide +kernel) ⟨Nat.le_of_ble_eq_true rfl, Nat.le_of_ble_eq_true rfl⟩) hK hE hS (qCut_all (Xc := [(S, .inr (3, [.ref O, .int (iI (rc)), vr, ve, vb, .int (iI (wv)), .int (iI (yv)), .int (iI (pv))])), (O, qOut cO n R)]) (Xr := []) hP hD hS hA [0, 1] [] rfl rfl (by decide) (by decide) (by decide) 2 rfl (by decide) (by decide)) 0 rfl rfl rfl rfl hl.1 rfl (Nat.le_of_ble_eq_true rfl) dX3_leave_1 ⟨(show 0 + 241 ≤ 248 by omega), (show 8 * (0) + 8 * 241 ≤ 8 * 248 by omega)⟩ (fun r2 u1 H locs hw hP hD hS => ?_)
  subst hw
  have hP : va_P D vwCl ([(S, .inr (3, [.ref O, .int (iI (rc)), .ref u1, ve, vb, .int (iI (zWo n b)), .int (iI (zWy n b)), .int (iI (pv))])), (O, qOut cO n R), (u1, zArr cI n (fun k => (((zRo n b) k : Nat) : Int)))] ++ qRw cI n n R (fun i j => b (i * 6 + j))) _ := hP
  have hD : va_D A ([(S, .inr (3, [.ref O, .int (iI (rc)), .ref u1, ve, vb, .int (iI (zWo n b)), .int (iI (zWy n b)), .int (iI (pv))])), (O, qOut cO n R), (u1, zArr cI n (fun k => (((zRo n b) k : Nat) : Int)))] ++ qRw cI n n R (fun i j => b (i * 6 + j))) := hD
  refine lv_pop hx hb dX3_leave_4 rfl ?_
  refine lv_aload_n hx hb dX3_leave_5 rfl (lv_at hl 0 rfl) ?_
  refine zc_riP (As := []) (rest := []) hF (c_X3_n l D cI cO S O n R rc (zWo n b) (zWy n b) pv (.ref u1) ve vb ) (cwV 0 hts gX3_leave_X3_n rfl rfl rfl (by decide +kernel) ⟨Nat.le_of_ble_eq_true rfl, Nat.le_of_ble_eq_true rfl⟩) hK (hP.sub (ws' := [(S, .inr (3, [.ref O, .int (iI (rc)), .ref u1, ve, vb, .int (iI (zWo n b)), .int (iI (zWy n b)), .int (iI (pv))])), (O, qOut cO n R)]) [0, 1] rfl) 0 rfl rfl rfl rfl hl.1 rfl (Nat.le_of_ble_eq_true rfl) dX3_leave_6 ⟨(show 241 ≤ 248 by omega), (show 8 * (241) ≤ 8 * 248 by omega)⟩ ?_
  refine lv_istore_n (lv' := [(2, .int (iI ((n : Nat) : Int))), (0, .ref S), (1, .int (iI ((x : Nat) : Int)))]) hx hb dX3_leave_9 rfl hl (by decide) rfl (fun ls hl => ?_)
  refine lv_aload_n hx hb dX3_leave_10 rfl (lv_at hl 1 rfl) ?_
  refine va_get (D := D) (ci := 3) (v := .ref u1) (C := RX3) (T := TX3) (N := 8) hx hb hts (by decide +kernel) hown hK hP 0 rfl rfl 2 (by decide) (hts (.fieldLink RX3 39 "RentHarmonyLaw$Sim" "rooms" "[I") (by decide +kernel)) (fun _ h9 => h9) rfl dX3_leave_11 ?_
  refine lv_iload_n hx hb dX3_leave_14 rfl (lv_at hl 2 rfl) ?_
  refine zr_iald hx hb hK hP 2 0 rfl rfl (x) (by omega) (by omega) (by omega) dX3_leave_15 ?_
  have hy := zRo_lt (b := b) (by omega : n ≤ 6) x hx0
  refine lv_istore_n (lv' := [(3, .int (iI (((zRo n b) (x) : Nat) : Int))), (2, .int (iI ((n : Nat) : Int))), (0, .ref S), (1, .int (iI ((x : Nat) : Int)))]) hx hb dX3_leave_16 rfl hl (by decide) rfl (fun ls hl => ?_)
  refine lv_iload_n hx hb dX3_leave_17 rfl (lv_at hl 1 rfl) ?_
  refine zr_ic (n := ((1 : Nat) : Int)) hx hb dX3_leave_18 ?_
  refine zr_sub hx hb dX3_leave_19 ?_
  refine zr_topi (show (((n : Nat) : Int) - ((1 : Nat) : Int)) = ((n - 1 : Nat) : Int) from by omega) ?_
  refine lv_iload_n hx hb dX3_leave_20 rfl (lv_at hl 1 rfl) ?_
  refine zr_ic (n := ((1 : Nat) : Int)) hx hb dX3_leave_21 ?_
  refine zr_sub hx hb dX3_leave_22 ?_
  refine zr_topi (show (((n : Nat) : Int) - ((1 : Nat) : Int)) = ((n - 1 : Nat) : Int) from by omega) ?_
  refine zq_mna hx hb hown (hts (.classLink RX3 19 "[[I") (by decide +kernel)) hE.1 (hts (.arrayClass .int) (by decide +kernel)) hK hP hD hS hA (n - 1) (n - 1) (by omega) (by omega) (by omega) (by omega) (show 241 + 7 ≤ 248 by omega) (show 8 * (241) + 56 ≤ 8 * 248 by omega) dX3_leave_23 (fun q3 r4 H hP hD hS => ?_)
  have hP : va_P D vwCl ([(S, .inr (3, [.ref O, .int (iI (rc)), .ref u1, ve, vb, .int (iI (zWo n b)), .int (iI (zWy n b)), .int (iI (pv))])), (O, qOut cO n R), (u1, zArr cI n (fun k => (((zRo n b) k : Nat) : Int))), (q3, qOut cO (n - 1) r4)] ++ (qRw cI n n R (fun i j => b (i * 6 + j)) ++ qRw cI (n - 1) (n - 1) r4 (fun _ _ => 0))) _ := hP
  have hD : va_D A ([(S, .inr (3, [.ref O, .int (iI (rc)), .ref u1, ve, vb, .int (iI (zWo n b)), .int (iI (zWy n b)), .int (iI (pv))])), (O, qOut cO n R), (u1, zArr cI n (fun k => (((zRo n b) k : Nat) : Int))), (q3, qOut cO (n - 1) r4)] ++ (qRw cI n n R (fun i j => b (i * 6 + j)) ++ qRw cI (n - 1) (n - 1) r4 (fun _ _ => 0))) := hD
  refine lv_astore (lv' := [(4, .ref q3), (3, .int (iI (((zRo n b) (x) : Nat) : Int))), (2, .int (iI ((n : Nat) : Int))), (0, .ref S), (1, .int (iI ((x : Nat) : Int)))]) hx hb dX3_leave_27 hl (by decide) rfl (fun ls hl => ?_)
  refine zr_ic (n := ((0 : Nat) : Int)) hx hb dX3_leave_29 ?_
  refine lv_istore (lv' := [(5, .int (iI ((0 : Nat) : Int))), (4, .ref q3), (3, .int (iI (((zRo n b) (x) : Nat) : Int))), (2, .int (iI ((n : Nat) : Int))), (0, .ref S), (1, .int (iI ((x : Nat) : Int)))]) hx hb dX3_leave_30 hl (by decide) rfl (fun ls hl => ?_)
  have LLi : ∀ (k0 : Nat) (i : Nat) (F : Nat → Nat → Int), n - i < k0 → (hi : i ≤ n) → (hF : qLv n x (zRo n b x) b i 0 F) → ∀ (H : Heap) (locs : List Loc), va_P D vwCl ([(S, .inr (3, [.ref O, .int (iI (rc)), .ref u1, ve, vb, .int (iI (zWo n b)), .int (iI (zWy n b)), .int (iI (pv))])), (O, qOut cO n R), (u1, zArr cI n (fun k => (((zRo n b) k : Nat) : Int))), (q3, qOut cO (n - 1) r4)] ++ (qRw cI n n R (fun i j => b (i * 6 + j)) ++ qRw cI (n - 1) (n - 1) r4 F)) H → va_D A ([(S, .inr (3, [.ref O, .int (iI (rc)), .ref u1, ve, vb, .int (iI (zWo n b)), .int (iI (zWy n b)), .int (iI (pv))])), (O, qOut cO n R), (u1, zArr cI n (fun k => (((zRo n b) k : Nat) : Int))), (q3, qOut cO (n - 1) r4)] ++ (qRw cI n n R (fun i j => b (i * 6 + j)) ++ qRw cI (n - 1) (n - 1) r4 F)) → va_S A s.heap H locs → ∀ (ls : Array Slot), lv_has ls 7 [(0, .ref S), (1, .int (iI ((x : Nat) : Int))), (2, .int (iI ((n : Nat) : Int))), (3, .int (iI (((zRo n b) (x) : Nat) : Int))), (4, .ref q3), (5, .int (iI ((i : Nat) : Int)))] → W p l e (qRm 3 77 248) s m args below meth c H locs 248 (8 * 248) (MQ below (va_Qi (S := Nat × (Nat → Nat) × Nat) (fun r _ => r = iI ((zRo n b x : Nat) : Int)) (fun u9 t9 => va_P D vwCl ((fun u => ([(S, .inr (3, [.ref u.1, .int (iI (rc)), .ref u.2.2, ve, vb, .int (iI (zWo n b)), .int (iI (zWy n b)), .int (iI (pv))])), (u.1, qOut cO (n - 1) u.2.1)] ++ qRw cI (n - 1) (n - 1) u.2.1 (fun i j => (zSh x (zRo n b x) (n - 1) b (n - 1)) (i * 6 + j)))) u9) t9.heap ∧ va_D A ((fun u => ([(S, .inr (3, [.ref u.1, .int (iI (rc)), .ref u.2.2, ve, vb, .int (iI (zWo n b)), .int (iI (zWy n b)), .int (iI (pv))])), (u.1, qOut cO (n - 1) u.2.1)] ++ qRw cI (n - 1) (n - 1) u.2.1 (fun i j => (zSh x (zRo n b x) (n - 1) b (n - 1)) (i * 6 + j)))) u9)) A) args s 248 (8 * 248) A) (F0 m 32 ls []) := by
    intro k0
    induction k0 with
    | zero => intro i F hk; exact absurd hk (Nat.not_lt_zero _)
    | succ k0 ih_LLi =>
      intro i F hk hi hF H locs hP hD hS ls hl
      refine lv_iload hx hb dX3_leave_32 (lv_at hl 5 rfl) ?_
      refine lv_iload_n hx hb dX3_leave_34 rfl (lv_at hl 2 rfl) ?_
      refine zr_icmp_ge (tgt := 118) hx hb dX3_leave_35 (by decide) (zB_of (by omega) (by omega)) (zB_of (by omega) (by omega)) (fun c5 => ?_) (fun c5 => ?_)
      · refine lv_aload_n hx hb dX3_leave_118 rfl (lv_at hl 0 rfl) ?_
        refine lv_aload hx hb dX3_leave_119 (lv_at hl 4 rfl) ?_
        refine va_put (D := D) (ci := 3) (v := .ref q3) (ty := (.array (.array .int))) (C := RX3) (T := TX3) (N := 8) hx hb hts (by decide +kernel) tyX3 tyX3_ok nmX3 hown hK hP hD hS 0 rfl rfl 0 (by decide) (hts (.fieldLink RX3 9 "RentHarmonyLaw$Sim" "bids" "[[I") (by decide +kernel)) (fun _ h9 => h9) rfl (by decide +kernel) rfl rfl (Nat.le_of_ble_eq_true rfl) dX3_leave_121 (fun H locs hP hD hS => ?_)
        have hP : va_P D vwCl ([(S, .inr (3, [.ref q3, .int (iI (rc)), .ref u1, ve, vb, .int (iI (zWo n b)), .int (iI (zWy n b)), .int (iI (pv))])), (O, qOut cO n R), (u1, zArr cI n (fun k => (((zRo n b) k : Nat) : Int))), (q3, qOut cO (n - 1) r4)] ++ (qRw cI n n R (fun i j => b (i * 6 + j)) ++ qRw cI (n - 1) (n - 1) r4 F)) _ := hP
        have hD : va_D A ([(S, .inr (3, [.ref q3, .int (iI (rc)), .ref u1, ve, vb, .int (iI (zWo n b)), .int (iI (zWy n b)), .int (iI (pv))])), (O, qOut cO n R), (u1, zArr cI n (fun k => (((zRo n b) k : Nat) : Int))), (q3, qOut cO (n - 1) r4)] ++ (qRw cI n n R (fun i j => b (i * 6 + j)) ++ qRw cI (n - 1) (n - 1) r4 F)) := hD
        refine lv_iload_n hx hb dX3_leave_124 rfl (lv_at hl 3 rfl) ?_
        have hP9 := qRw_congr (G := (fun i j => (zSh x (zRo n b x) (n - 1) b (n - 1)) (i * 6 + j))) (qDrop (Xc := [(S, .inr (3, [.ref q3, .int (iI (rc)), .ref u1, ve, vb, .int (iI (zWo n b)), .int (iI (zWy n b)), .int (iI (pv))])), (q3, qOut cO (n - 1) r4)]) hP [0, 3] rfl) (qLv_end (by omega) (by omega) hF)
        have hD9 := qRw_congrD (G := (fun i j => (zSh x (zRo n b x) (n - 1) b (n - 1)) (i * 6 + j))) (qDropD (Xc := [(S, .inr (3, [.ref q3, .int (iI (rc)), .ref u1, ve, vb, .int (iI (zWo n b)), .int (iI (zWy n b)), .int (iI (pv))])), (q3, qOut cO (n - 1) r4)]) hD [0, 3] rfl (by decide) 4 rfl (by decide))
        exact qI_ret hx hb hr hlocks hS dX3_leave_125 (show 248 ≤ 248 by omega) (q3, r4, u1) rfl hP9 hD9
      · refine zr_ic (n := ((0 : Nat) : Int)) hx hb dX3_leave_38 ?_
        refine lv_istore (lv' := [(6, .int (iI ((0 : Nat) : Int))), (0, .ref S), (1, .int (iI ((x : Nat) : Int))), (2, .int (iI ((n : Nat) : Int))), (3, .int (iI (((zRo n b) (x) : Nat) : Int))), (4, .ref q3), (5, .int (iI ((i : Nat) : Int)))]) hx hb dX3_leave_39 hl (by decide) rfl (fun ls hl => ?_)
        have LLj : ∀ (k0 : Nat) (j : Nat) (F1 : Nat → Nat → Int), n - j < k0 → (hj : j ≤ n) → (hF1 : qLv n x (zRo n b x) b i j F1) → ∀ (H : Heap) (locs : List Loc), va_P D vwCl ([(S, .inr (3, [.ref O, .int (iI (rc)), .ref u1, ve, vb, .int (iI (zWo n b)), .int (iI (zWy n b)), .int (iI (pv))])), (O, qOut cO n R), (u1, zArr cI n (fun k => (((zRo n b) k : Nat) : Int))), (q3, qOut cO (n - 1) r4)] ++ (qRw cI n n R (fun i j => b (i * 6 + j)) ++ qRw cI (n - 1) (n - 1) r4 F1)) H → va_D A ([(S, .inr (3, [.ref O, .int (iI (rc)), .ref u1, ve, vb, .int (iI (zWo n b)), .int (iI (zWy n b)), .int (iI (pv))])), (O, qOut cO n R), (u1, zArr cI n (fun k => (((zRo n b) k : Nat) : Int))), (q3, qOut cO (n - 1) r4)] ++ (qRw cI n n R (fun i j => b (i * 6 + j)) ++ qRw cI (n - 1) (n - 1) r4 F1)) → va_S A s.heap H locs → ∀ (ls : Array Slot), lv_has ls 7 [(0, .ref S), (1, .int (iI ((x : Nat) : Int))), (2, .int (iI ((n : Nat) : Int))), (3, .int (iI (((zRo n b) (x) : Nat) : Int))), (4, .ref q3), (5, .int (iI ((i : Nat) : Int))), (6, .int (iI ((j : Nat) : Int)))] → W p l e (qRm 3 77 248) s m args below meth c H locs 248 (8 * 248) (MQ below (va_Qi (S := Nat × (Nat → Nat) × Nat) (fun r _ => r = iI ((zRo n b x : Nat) : Int)) (fun u9 t9 => va_P D vwCl ((fun u => ([(S, .inr (3, [.ref u.1, .int (iI (rc)), .ref u.2.2, ve, vb, .int (iI (zWo n b)), .int (iI (zWy n b)), .int (iI (pv))])), (u.1, qOut cO (n - 1) u.2.1)] ++ qRw cI (n - 1) (n - 1) u.2.1 (fun i j => (zSh x (zRo n b x) (n - 1) b (n - 1)) (i * 6 + j)))) u9) t9.heap ∧ va_D A ((fun u => ([(S, .inr (3, [.ref u.1, .int (iI (rc)), .ref u.2.2, ve, vb, .int (iI (zWo n b)), .int (iI (zWy n b)), .int (iI (pv))])), (u.1, qOut cO (n - 1) u.2.1)] ++ qRw cI (n - 1) (n - 1) u.2.1 (fun i j => (zSh x (zRo n b x) (n - 1) b (n - 1)) (i * 6 + j)))) u9)) A) args s 248 (8 * 248) A) (F0 m 41 ls []) := by
          intro k0
          induction k0 with
          | zero => intro j F1 hk; exact absurd hk (Nat.not_lt_zero _)
          | succ k0 ih_LLj =>
            intro j F1 hk hj hF1 H locs hP hD hS ls hl
            refine lv_iload hx hb dX3_leave_41 (lv_at hl 6 rfl) ?_
            refine lv_iload_n hx hb dX3_leave_43 rfl (lv_at hl 2 rfl) ?_
            refine zr_icmp_ge (tgt := 112) hx hb dX3_leave_44 (by decide) (zB_of (by omega) (by omega)) (zB_of (by omega) (by omega)) (fun c6 => ?_) (fun c6 => ?_)
            · refine zr_iinc (lv2 := [(5, .int (iI (((i : Nat) : Int) + 1))), (0, .ref S), (1, .int (iI ((x : Nat) : Int))), (2, .int (iI ((n : Nat) : Int))), (3, .int (iI (((zRo n b) (x) : Nat) : Int))), (4, .ref q3), (6, .int (iI ((j : Nat) : Int)))]) hx hb dX3_leave_112 hl (k0 := 5) rfl (by decide) rfl (fun ls hl => ?_)
              have hl : lv_has ls 7 [(5, .int (iI ((i + 1 : Nat) : Int))), (0, .ref S), (1, .int (iI ((x : Nat) : Int))), (2, .int (iI ((n : Nat) : Int))), (3, .int (iI (((zRo n b) (x) : Nat) : Int))), (4, .ref q3), (6, .int (iI ((j : Nat) : Int)))] := hl
              refine lv_goto (tgt := 32) hx hb dX3_leave_115 (by decide) ?_
              exact ih_LLi (i + 1) (F1) (by omega) (by omega) (qLv_row (by omega) hF1) _ _ hP hD hS _ (lv_sub hl [1, 2, 3, 4, 5, 0] rfl)
            · refine lv_iload hx hb dX3_leave_47 (lv_at hl 5 rfl) ?_
              refine lv_iload_n hx hb dX3_leave_49 rfl (lv_at hl 1 rfl) ?_
              refine zr_icmp_eq (tgt := 106) hx hb dX3_leave_50 (by decide) (zB_of (by omega) (by omega)) (zB_of (by omega) (by omega)) (fun c7 => ?_) (fun c7 => ?_)
              · refine zr_iinc (lv2 := [(6, .int (iI (((j : Nat) : Int) + 1))), (0, .ref S), (1, .int (iI ((x : Nat) : Int))), (2, .int (iI ((n : Nat) : Int))), (3, .int (iI (((zRo n b) (x) : Nat) : Int))), (4, .ref q3), (5, .int (iI ((i : Nat) : Int)))]) hx hb dX3_leave_106 hl (k0 := 6) rfl (by decide) rfl (fun ls hl => ?_)
                have hl : lv_has ls 7 [(6, .int (iI ((j + 1 : Nat) : Int))), (0, .ref S), (1, .int (iI ((x : Nat) : Int))), (2, .int (iI ((n : Nat) : Int))), (3, .int (iI (((zRo n b) (x) : Nat) : Int))), (4, .ref q3), (5, .int (iI ((i : Nat) : Int)))] := hl
                refine lv_goto (tgt := 41) hx hb dX3_leave_109 (by decide) ?_
                exact ih_LLj (j + 1) (F1) (by omega) (by omega) (qLv_skip hF1 (Or.inl (by omega))) _ _ hP hD hS _ (lv_sub hl [1, 2, 3, 4, 5, 6, 0] rfl)
              · refine lv_iload hx hb dX3_leave_53 (lv_at hl 6 rfl) ?_
                refine lv_iload_n hx hb dX3_leave_55 rfl (lv_at hl 3 rfl) ?_
                refine zr_icmp_ne (tgt := 62) hx hb dX3_leave_56 (by decide) (zB_of (by omega) (by omega)) (zB_of (by omega) (by omega)) (fun c8 => ?_) (fun c8 => ?_)
                · refine lv_aload hx hb dX3_leave_62 (lv_at hl 4 rfl) ?_
                  refine lv_iload hx hb dX3_leave_64 (lv_at hl 5 rfl) ?_
                  refine lv_iload_n hx hb dX3_leave_66 rfl (lv_at hl 1 rfl) ?_
                  refine zr_icmp_le (tgt := 77) hx hb dX3_leave_67 (by decide) (zB_of (by omega) (by omega)) (zB_of (by omega) (by omega)) (fun c9 => ?_) (fun c9 => ?_)
                  · refine lv_iload hx hb dX3_leave_77 (lv_at hl 5 rfl) ?_
                    refine zq_ald hx hb hK hP 3 1 rfl rfl (i) (by omega) (by omega) (by omega) dX3_leave_79 ?_
                    refine lv_iload hx hb dX3_leave_80 (lv_at hl 6 rfl) ?_
                    refine lv_iload_n hx hb dX3_leave_82 rfl (lv_at hl 3 rfl) ?_
                    refine zr_icmp_le (tgt := 93) hx hb dX3_leave_83 (by decide) (zB_of (by omega) (by omega)) (zB_of (by omega) (by omega)) (fun c10 => ?_) (fun c10 => ?_)
                    · refine lv_iload hx hb dX3_leave_93 (lv_at hl 6 rfl) ?_
                      refine lv_aload_n hx hb dX3_leave_95 rfl (lv_at hl 0 rfl) ?_
                      refine va_get (D := D) (ci := 3) (v := .ref O) (C := RX3) (T := TX3) (N := 8) hx hb hts (by decide +kernel) hown hK hP 0 rfl rfl 0 (by decide) (hts (.fieldLink RX3 9 "RentHarmonyLaw$Sim" "bids" "[[I") (by decide +kernel)) (fun _ h9 => h9) rfl dX3_leave_96 ?_
                      refine lv_iload hx hb dX3_leave_99 (lv_at hl 5 rfl) ?_
                      refine zq_ald hx hb hK hP 1 1 rfl rfl (i) (by omega) (by omega) (by omega) dX3_leave_101 ?_
                      refine lv_iload hx hb dX3_leave_102 (lv_at hl 6 rfl) ?_
                      refine zq_rld (f := (fun i j => b (i * 6 + j)) i) hx hb hK hP 0 (List.mem_append_right _ (List.mem_append_left _ (qRw_mem (by omega)))) rfl (j) (by omega) (by omega) (by omega) dX3_leave_104 ?_
                      refine zr_topi (show (fun i j => b (i * 6 + j)) i j = (b (i * 6 + j)) from rfl) ?_
                      have hb11 := hb0 (i * 6 + j)
                      refine zq_rst2 hx hb hK hP hD hS 0 rfl (i) (by omega) (j) (by omega) (by omega) (by omega) dX3_leave_105 (fun H locs hP hD hS => ?_)
                      have hP : va_P D vwCl ([(S, .inr (3, [.ref O, .int (iI (rc)), .ref u1, ve, vb, .int (iI (zWo n b)), .int (iI (zWy n b)), .int (iI (pv))])), (O, qOut cO n R), (u1, zArr cI n (fun k => (((zRo n b) k : Nat) : Int))), (q3, qOut cO (n - 1) r4)] ++ (qRw cI n n R (fun i j => b (i * 6 + j)) ++ qRw cI (n - 1) (n - 1) r4 (u2 F1 i j (b (i * 6 + j))))) _ := hP
                      have hD : va_D A ([(S, .inr (3, [.ref O, .int (iI (rc)), .ref u1, ve, vb, .int (iI (zWo n b)), .int (iI (zWy n b)), .int (iI (pv))])), (O, qOut cO n R), (u1, zArr cI n (fun k => (((zRo n b) k : Nat) : Int))), (q3, qOut cO (n - 1) r4)] ++ (qRw cI n n R (fun i j => b (i * 6 + j)) ++ qRw cI (n - 1) (n - 1) r4 (u2 F1 i j (b (i * 6 + j))))) := hD
                      refine zr_iinc (lv2 := [(6, .int (iI (((j : Nat) : Int) + 1))), (0, .ref S), (1, .int (iI ((x : Nat) : Int))), (2, .int (iI ((n : Nat) : Int))), (3, .int (iI (((zRo n b) (x) : Nat) : Int))), (4, .ref q3), (5, .int (iI ((i : Nat) : Int)))]) hx hb dX3_leave_106 hl (k0 := 6) rfl (by decide) rfl (fun ls hl => ?_)
                      have hl : lv_has ls 7 [(6, .int (iI ((j + 1 : Nat) : Int))), (0, .ref S), (1, .int (iI ((x : Nat) : Int))), (2, .int (iI ((n : Nat) : Int))), (3, .int (iI (((zRo n b) (x) : Nat) : Int))), (4, .ref q3), (5, .int (iI ((i : Nat) : Int)))] := hl
                      refine lv_goto (tgt := 41) hx hb dX3_leave_109 (by decide) ?_
                      exact ih_LLj (j + 1) ((u2 F1 i j (b (i * 6 + j)))) (by omega) (by omega) (qLv_put hF1 (qSk_lo (by omega)) (qSk_lo (by omega))) _ _ hP hD hS _ (lv_sub hl [1, 2, 3, 4, 5, 6, 0] rfl)
                    · refine lv_iload hx hb dX3_leave_86 (lv_at hl 6 rfl) ?_
                      refine zr_ic (n := ((1 : Nat) : Int)) hx hb dX3_leave_88 ?_
                      refine zr_sub hx hb dX3_leave_89 ?_
                      refine lv_goto (tgt := 95) hx hb dX3_leave_90 (by decide) ?_
                      refine lv_aload_n hx hb dX3_leave_95 rfl (lv_at hl 0 rfl) ?_
                      refine va_get (D := D) (ci := 3) (v := .ref O) (C := RX3) (T := TX3) (N := 8) hx hb hts (by decide +kernel) hown hK hP 0 rfl rfl 0 (by decide) (hts (.fieldLink RX3 9 "RentHarmonyLaw$Sim" "bids" "[[I") (by decide +kernel)) (fun _ h9 => h9) rfl dX3_leave_96 ?_
                      refine lv_iload hx hb dX3_leave_99 (lv_at hl 5 rfl) ?_
                      refine zq_ald hx hb hK hP 1 1 rfl rfl (i) (by omega) (by omega) (by omega) dX3_leave_101 ?_
                      refine lv_iload hx hb dX3_leave_102 (lv_at hl 6 rfl) ?_
                      refine zq_rld (f := (fun i j => b (i * 6 + j)) i) hx hb hK hP 0 (List.mem_append_right _ (List.mem_append_left _ (qRw_mem (by omega)))) rfl (j) (by omega) (by omega) (by omega) dX3_leave_104 ?_
                      refine zr_topi (show (fun i j => b (i * 6 + j)) i j = (b (i * 6 + j)) from rfl) ?_
                      have hb12 := hb0 (i * 6 + j)
                      refine zq_rst2 hx hb hK hP hD hS 0 rfl (i) (by omega) ((j) - (1)) (by omega) (by omega) (by omega) dX3_leave_105 (fun H locs hP hD hS => ?_)
                      have hP : va_P D vwCl ([(S, .inr (3, [.ref O, .int (iI (rc)), .ref u1, ve, vb, .int (iI (zWo n b)), .int (iI (zWy n b)), .int (iI (pv))])), (O, qOut cO n R), (u1, zArr cI n (fun k => (((zRo n b) k : Nat) : Int))), (q3, qOut cO (n - 1) r4)] ++ (qRw cI n n R (fun i j => b (i * 6 + j)) ++ qRw cI (n - 1) (n - 1) r4 (u2 F1 i ((j) - (1)) (b (i * 6 + j))))) _ := hP
                      have hD : va_D A ([(S, .inr (3, [.ref O, .int (iI (rc)), .ref u1, ve, vb, .int (iI (zWo n b)), .int (iI (zWy n b)), .int (iI (pv))])), (O, qOut cO n R), (u1, zArr cI n (fun k => (((zRo n b) k : Nat) : Int))), (q3, qOut cO (n - 1) r4)] ++ (qRw cI n n R (fun i j => b (i * 6 + j)) ++ qRw cI (n - 1) (n - 1) r4 (u2 F1 i ((j) - (1)) (b (i * 6 + j))))) := hD
                      refine zr_iinc (lv2 := [(6, .int (iI (((j : Nat) : Int) + 1))), (0, .ref S), (1, .int (iI ((x : Nat) : Int))), (2, .int (iI ((n : Nat) : Int))), (3, .int (iI (((zRo n b) (x) : Nat) : Int))), (4, .ref q3), (5, .int (iI ((i : Nat) : Int)))]) hx hb dX3_leave_106 hl (k0 := 6) rfl (by decide) rfl (fun ls hl => ?_)
                      have hl : lv_has ls 7 [(6, .int (iI ((j + 1 : Nat) : Int))), (0, .ref S), (1, .int (iI ((x : Nat) : Int))), (2, .int (iI ((n : Nat) : Int))), (3, .int (iI (((zRo n b) (x) : Nat) : Int))), (4, .ref q3), (5, .int (iI ((i : Nat) : Int)))] := hl
                      refine lv_goto (tgt := 41) hx hb dX3_leave_109 (by decide) ?_
                      exact ih_LLj (j + 1) ((u2 F1 i ((j) - (1)) (b (i * 6 + j)))) (by omega) (by omega) (qLv_put hF1 (qSk_lo (by omega)) (qSk_hi (by omega))) _ _ hP hD hS _ (lv_sub hl [1, 2, 3, 4, 5, 6, 0] rfl)
                  · refine lv_iload hx hb dX3_leave_70 (lv_at hl 5 rfl) ?_
                    refine zr_ic (n := ((1 : Nat) : Int)) hx hb dX3_leave_72 ?_
                    refine zr_sub hx hb dX3_leave_73 ?_
                    refine lv_goto (tgt := 79) hx hb dX3_leave_74 (by decide) ?_
                    refine zq_ald hx hb hK hP 3 1 rfl rfl ((i) - (1)) (by omega) (by omega) (by omega) dX3_leave_79 ?_
                    refine lv_iload hx hb dX3_leave_80 (lv_at hl 6 rfl) ?_
                    refine lv_iload_n hx hb dX3_leave_82 rfl (lv_at hl 3 rfl) ?_
                    refine zr_icmp_le (tgt := 93) hx hb dX3_leave_83 (by decide) (zB_of (by omega) (by omega)) (zB_of (by omega) (by omega)) (fun c13 => ?_) (fun c13 => ?_)
                    · refine lv_iload hx hb dX3_leave_93 (lv_at hl 6 rfl) ?_
                      refine lv_aload_n hx hb dX3_leave_95 rfl (lv_at hl 0 rfl) ?_
                      refine va_get (D := D) (ci := 3) (v := .ref O) (C := RX3) (T := TX3) (N := 8) hx hb hts (by decide +kernel) hown hK hP 0 rfl rfl 0 (by decide) (hts (.fieldLink RX3 9 "RentHarmonyLaw$Sim" "bids" "[[I") (by decide +kernel)) (fun _ h9 => h9) rfl dX3_leave_96 ?_
                      refine lv_iload hx hb dX3_leave_99 (lv_at hl 5 rfl) ?_
                      refine zq_ald hx hb hK hP 1 1 rfl rfl (i) (by omega) (by omega) (by omega) dX3_leave_101 ?_
                      refine lv_iload hx hb dX3_leave_102 (lv_at hl 6 rfl) ?_
                      refine zq_rld (f := (fun i j => b (i * 6 + j)) i) hx hb hK hP 0 (List.mem_append_right _ (List.mem_append_left _ (qRw_mem (by omega)))) rfl (j) (by omega) (by omega) (by omega) dX3_leave_104 ?_
                      refine zr_topi (show (fun i j => b (i * 6 + j)) i j = (b (i * 6 + j)) from rfl) ?_
                      have hb14 := hb0 (i * 6 + j)
                      refine zq_rst2 hx hb hK hP hD hS 0 rfl ((i) - (1)) (by omega) (j) (by omega) (by omega) (by omega) dX3_leave_105 (fun H locs hP hD hS => ?_)
                      have hP : va_P D vwCl ([(S, .inr (3, [.ref O, .int (iI (rc)), .ref u1, ve, vb, .int (iI (zWo n b)), .int (iI (zWy n b)), .int (iI (pv))])), (O, qOut cO n R), (u1, zArr cI n (fun k => (((zRo n b) k : Nat) : Int))), (q3, qOut cO (n - 1) r4)] ++ (qRw cI n n R (fun i j => b (i * 6 + j)) ++ qRw cI (n - 1) (n - 1) r4 (u2 F1 ((i) - (1)) j (b (i * 6 + j))))) _ := hP
                      have hD : va_D A ([(S, .inr (3, [.ref O, .int (iI (rc)), .ref u1, ve, vb, .int (iI (zWo n b)), .int (iI (zWy n b)), .int (iI (pv))])), (O, qOut cO n R), (u1, zArr cI n (fun k => (((zRo n b) k : Nat) : Int))), (q3, qOut cO (n - 1) r4)] ++ (qRw cI n n R (fun i j => b (i * 6 + j)) ++ qRw cI (n - 1) (n - 1) r4 (u2 F1 ((i) - (1)) j (b (i * 6 + j))))) := hD
                      refine zr_iinc (lv2 := [(6, .int (iI (((j : Nat) : Int) + 1))), (0, .ref S), (1, .int (iI ((x : Nat) : Int))), (2, .int (iI ((n : Nat) : Int))), (3, .int (iI (((zRo n b) (x) : Nat) : Int))), (4, .ref q3), (5, .int (iI ((i : Nat) : Int)))]) hx hb dX3_leave_106 hl (k0 := 6) rfl (by decide) rfl (fun ls hl => ?_)
                      have hl : lv_has ls 7 [(6, .int (iI ((j + 1 : Nat) : Int))), (0, .ref S), (1, .int (iI ((x : Nat) : Int))), (2, .int (iI ((n : Nat) : Int))), (3, .int (iI (((zRo n b) (x) : Nat) : Int))), (4, .ref q3), (5, .int (iI ((i : Nat) : Int)))] := hl
                      refine lv_goto (tgt := 41) hx hb dX3_leave_109 (by decide) ?_
                      exact ih_LLj (j + 1) ((u2 F1 ((i) - (1)) j (b (i * 6 + j)))) (by omega) (by omega) (qLv_put hF1 (qSk_hi (by omega)) (qSk_lo (by omega))) _ _ hP hD hS _ (lv_sub hl [1, 2, 3, 4, 5, 6, 0] rfl)
                    · refine lv_iload hx hb dX3_leave_86 (lv_at hl 6 rfl) ?_
                      refine zr_ic (n := ((1 : Nat) : Int)) hx hb dX3_leave_88 ?_
                      refine zr_sub hx hb dX3_leave_89 ?_
                      refine lv_goto (tgt := 95) hx hb dX3_leave_90 (by decide) ?_
                      refine lv_aload_n hx hb dX3_leave_95 rfl (lv_at hl 0 rfl) ?_
                      refine va_get (D := D) (ci := 3) (v := .ref O) (C := RX3) (T := TX3) (N := 8) hx hb hts (by decide +kernel) hown hK hP 0 rfl rfl 0 (by decide) (hts (.fieldLink RX3 9 "RentHarmonyLaw$Sim" "bids" "[[I") (by decide +kernel)) (fun _ h9 => h9) rfl dX3_leave_96 ?_
                      refine lv_iload hx hb dX3_leave_99 (lv_at hl 5 rfl) ?_
                      refine zq_ald hx hb hK hP 1 1 rfl rfl (i) (by omega) (by omega) (by omega) dX3_leave_101 ?_
                      refine lv_iload hx hb dX3_leave_102 (lv_at hl 6 rfl) ?_
                      refine zq_rld (f := (fun i j => b (i * 6 + j)) i) hx hb hK hP 0 (List.mem_append_right _ (List.mem_append_left _ (qRw_mem (by omega)))) rfl (j) (by omega) (by omega) (by omega) dX3_leave_104 ?_
                      refine zr_topi (show (fun i j => b (i * 6 + j)) i j = (b (i * 6 + j)) from rfl) ?_
                      have hb15 := hb0 (i * 6 + j)
                      refine zq_rst2 hx hb hK hP hD hS 0 rfl ((i) - (1)) (by omega) ((j) - (1)) (by omega) (by omega) (by omega) dX3_leave_105 (fun H locs hP hD hS => ?_)
                      have hP : va_P D vwCl ([(S, .inr (3, [.ref O, .int (iI (rc)), .ref u1, ve, vb, .int (iI (zWo n b)), .int (iI (zWy n b)), .int (iI (pv))])), (O, qOut cO n R), (u1, zArr cI n (fun k => (((zRo n b) k : Nat) : Int))), (q3, qOut cO (n - 1) r4)] ++ (qRw cI n n R (fun i j => b (i * 6 + j)) ++ qRw cI (n - 1) (n - 1) r4 (u2 F1 ((i) - (1)) ((j) - (1)) (b (i * 6 + j))))) _ := hP
                      have hD : va_D A ([(S, .inr (3, [.ref O, .int (iI (rc)), .ref u1, ve, vb, .int (iI (zWo n b)), .int (iI (zWy n b)), .int (iI (pv))])), (O, qOut cO n R), (u1, zArr cI n (fun k => (((zRo n b) k : Nat) : Int))), (q3, qOut cO (n - 1) r4)] ++ (qRw cI n n R (fun i j => b (i * 6 + j)) ++ qRw cI (n - 1) (n - 1) r4 (u2 F1 ((i) - (1)) ((j) - (1)) (b (i * 6 + j))))) := hD
                      refine zr_iinc (lv2 := [(6, .int (iI (((j : Nat) : Int) + 1))), (0, .ref S), (1, .int (iI ((x : Nat) : Int))), (2, .int (iI ((n : Nat) : Int))), (3, .int (iI (((zRo n b) (x) : Nat) : Int))), (4, .ref q3), (5, .int (iI ((i : Nat) : Int)))]) hx hb dX3_leave_106 hl (k0 := 6) rfl (by decide) rfl (fun ls hl => ?_)
                      have hl : lv_has ls 7 [(6, .int (iI ((j + 1 : Nat) : Int))), (0, .ref S), (1, .int (iI ((x : Nat) : Int))), (2, .int (iI ((n : Nat) : Int))), (3, .int (iI (((zRo n b) (x) : Nat) : Int))), (4, .ref q3), (5, .int (iI ((i : Nat) : Int)))] := hl
                      refine lv_goto (tgt := 41) hx hb dX3_leave_109 (by decide) ?_
                      exact ih_LLj (j + 1) ((u2 F1 ((i) - (1)) ((j) - (1)) (b (i * 6 + j)))) (by omega) (by omega) (qLv_put hF1 (qSk_hi (by omega)) (qSk_hi (by omega))) _ _ hP hD hS _ (lv_sub hl [1, 2, 3, 4, 5, 6, 0] rfl)
                · refine lv_goto (tgt := 106) hx hb dX3_leave_59 (by decide) ?_
                  refine zr_iinc (lv2 := [(6, .int (iI (((j : Nat) : Int) + 1))), (0, .ref S), (1, .int (iI ((x : Nat) : Int))), (2, .int (iI ((n : Nat) : Int))), (3, .int (iI (((zRo n b) (x) : Nat) : Int))), (4, .ref q3), (5, .int (iI ((i : Nat) : Int)))]) hx hb dX3_leave_106 hl (k0 := 6) rfl (by decide) rfl (fun ls hl => ?_)
                  have hl : lv_has ls 7 [(6, .int (iI ((j + 1 : Nat) : Int))), (0, .ref S), (1, .int (iI ((x : Nat) : Int))), (2, .int (iI ((n : Nat) : Int))), (3, .int (iI (((zRo n b) (x) : Nat) : Int))), (4, .ref q3), (5, .int (iI ((i : Nat) : Int)))] := hl
                  refine lv_goto (tgt := 41) hx hb dX3_leave_109 (by decide) ?_
                  exact ih_LLj (j + 1) (F1) (by omega) (by omega) (qLv_skip hF1 (Or.inr (by omega))) _ _ hP hD hS _ (lv_sub hl [1, 2, 3, 4, 5, 6, 0] rfl)
        exact LLj (n - (0) + 1) (0) (F) (Nat.lt_succ_self _) (by omega) hF _ _ hP hD hS _ (lv_sub hl [1, 2, 3, 4, 5, 6, 0] rfl)
  exact LLi (n - (0) + 1) (0) ((fun _ _ => 0)) (Nat.lt_succ_self _) (by omega) qLv_0 _ _ hP hD hS _ (lv_sub hl [4, 5, 3, 2, 1, 0] rfl)
set_option maxHeartbeats 8000000 in
set_option maxRecDepth 100000 in
/-- X3_settle -/
theorem c_X3_settle (l : Launch) (D : va_G) (cI cO : ClassId) (S O n : Nat) (R : Nat → Nat) (b : Nat → Int) (rc wv yv pv : Int) (vr ve vb : Value) (E : Nat → Int) (hn : n ≤ 5) (hb0 : ∀ k, 0 ≤ b k ∧ b k ≤ 999) (h1 : 1 ≤ n) (hrc : 0 ≤ rc ∧ rc ≤ 5999) (hEB : zIsB n (zWt b (zRo n b)) E) (sz : Nat) : qQ (S := Nat × Nat × Nat × (Nat → Int) × (Nat → Int)) l yX3_settle wsX3_settle 3 77 250 D cI cO [.ref S] ([(S, .inr (3, [.ref O, .int (iI (rc)), vr, ve, vb, .int (iI (wv)), .int (iI (yv)), .int (iI (pv))])), (O, qOut cO n R)] ++ qRw cI n n R (fun i j => b (i * 6 + j))) sz (fun r u => r = some S ∧ (∀ k, k < n → u.2.2.2.1 k = E k) ∧ ∀ k, k < n → u.2.2.2.2 k = E k + zSh0 n b rc E) (fun u => ([(S, .inr (3, [.ref O, .int (iI (rc)), .ref u.1, .ref u.2.1, .ref u.2.2.1, .int (iI (zWo n b)), .int (iI (zWy n b)), .int (iI (zPo0 n b rc E))])), (O, qOut cO n R), (u.1, zArr cI n (fun k => (((zRo n b) k : Nat) : Int))), (u.2.1, zArr cI n u.2.2.2.1), (u.2.2.1, zArr cI n u.2.2.2.2)] ++ qRw cI n n R (fun i j => b (i * 6 + j)))) := by
  refine qQ_of (cc := cX3_settle) (maxL := 6) (rt := (.object "RentHarmonyLaw$Sim")) (by decide) rfl (Nat.le_of_ble_eq_true rfl) ?_
  intro p e s m args below meth c ls A hF hr hlocks hP hK hD hS hA hE hl
  have hF : zFix p m c cX3_settle 6 s args wsX3_settle RX3 := hF
  obtain ⟨hx, hb, hml, hown, hts⟩ := id hF
  have hP : va_P D vwCl ([(S, .inr (3, [.ref O, .int (iI (rc)), vr, ve, vb, .int (iI (wv)), .int (iI (yv)), .int (iI (pv))])), (O, qOut cO n R)] ++ qRw cI n n R (fun i j => b (i * 6 + j))) s.heap := hP
  have hD : va_D A ([(S, .inr (3, [.ref O, .int (iI (rc)), vr, ve, vb, .int (iI (wv)), .int (iI (yv)), .int (iI (pv))])), (O, qOut cO n R)] ++ qRw cI n n R (fun i j => b (i * 6 + j))) := hD
  have hl : lv_has ls 6 [(0, .ref S)] := hl
  have hro := zRo_lt (b := b) (by omega : n ≤ 6)
  have hE2 := zU_le (by omega : n ≤ 6) hb0 hEB
  have hfix : ∀ a c9, a < n → c9 < n → zWt b (zRo n b) a c9 + E c9 ≤ E a := fun a c9 ha hc => zIsB_fix (zWt_noC (by omega)) hEB ha hc
  refine lv_aload_n hx hb dX3_settle_0 rfl (lv_at hl 0 rfl) ?_
  refine zc_qq (As := []) (rest := []) hF (c_X3_give l D cI cO S O n R b rc wv yv pv vr ve vb (by omega) (by assumption) (by omega) _) (cwV 0 hts gX3_settle_X3_give rfl rfl rfl (by decide +kernel) ⟨Nat.le_of_ble_eq_true rfl, Nat.le_of_ble_eq_true rfl⟩) hK hE hS (qCut_all (Xc := [(S, .inr (3, [.ref O, .int (iI (rc)), vr, ve, vb, .int (iI (wv)), .int (iI (yv)), .int (iI (pv))])), (O, qOut cO n R)]) (Xr := []) hP hD hS hA [0, 1] [] rfl rfl (by decide) (by decide) (by decide) 2 rfl (by decide) (by decide)) 0 rfl rfl rfl rfl hl.1 rfl (Nat.le_of_ble_eq_true rfl) dX3_settle_1 ⟨(show 0 + 241 ≤ 250 by omega), (show 8 * (0) + 8 * 241 ≤ 8 * 250 by omega)⟩ (fun r2 u1 H locs hw hP hD hS => ?_)
  subst hw
  have hP : va_P D vwCl ([(S, .inr (3, [.ref O, .int (iI (rc)), .ref u1, ve, vb, .int (iI (zWo n b)), .int (iI (zWy n b)), .int (iI (pv))])), (O, qOut cO n R), (u1, zArr cI n (fun k => (((zRo n b) k : Nat) : Int)))] ++ qRw cI n n R (fun i j => b (i * 6 + j))) _ := hP
  have hD : va_D A ([(S, .inr (3, [.ref O, .int (iI (rc)), .ref u1, ve, vb, .int (iI (zWo n b)), .int (iI (zWy n b)), .int (iI (pv))])), (O, qOut cO n R), (u1, zArr cI n (fun k => (((zRo n b) k : Nat) : Int)))] ++ qRw cI n n R (fun i j => b (i * 6 + j))) := hD
  refine lv_pop hx hb dX3_settle_4 rfl ?_
  refine lv_aload_n hx hb dX3_settle_5 rfl (lv_at hl 0 rfl) ?_
  refine zc_riP (As := []) (rest := []) hF (c_X3_n l D cI cO S O n R rc (zWo n b) (zWy n b) pv (.ref u1) ve vb ) (cwV 0 hts gX3_settle_X3_n rfl rfl rfl (by decide +kernel) ⟨Nat.le_of_ble_eq_true rfl, Nat.le_of_ble_eq_true rfl⟩) hK (hP.sub (ws' := [(S, .inr (3, [.ref O, .int (iI (rc)), .ref u1, ve, vb, .int (iI (zWo n b)), .int (iI (zWy n b)), .int (iI (pv))])), (O, qOut cO n R)]) [0, 1] rfl) 0 rfl rfl rfl rfl hl.1 rfl (Nat.le_of_ble_eq_true rfl) dX3_settle_6 ⟨(show 241 ≤ 250 by omega), (show 8 * (241) ≤ 8 * 250 by omega)⟩ ?_
  refine lv_istore_n (lv' := [(1, .int (iI ((n : Nat) : Int))), (0, .ref S)]) hx hb dX3_settle_9 rfl hl (by decide) rfl (fun ls hl => ?_)
  refine lv_iload_n hx hb dX3_settle_10 rfl (lv_at hl 0 rfl) ?_
  refine lv_iload_n hx hb dX3_settle_11 rfl (lv_at hl 0 rfl) ?_
  refine zq_mna hx hb hown (hts (.classLink RX3 19 "[[I") (by decide +kernel)) hE.1 (hts (.arrayClass .int) (by decide +kernel)) hK hP hD hS hA (n) (n) (by omega) (by omega) (by omega) (by omega) (show 241 + 7 ≤ 250 by omega) (show 8 * (241) + 56 ≤ 8 * 250 by omega) dX3_settle_12 (fun q3 r4 H hP hD hS => ?_)
  have hP : va_P D vwCl ([(S, .inr (3, [.ref O, .int (iI (rc)), .ref u1, ve, vb, .int (iI (zWo n b)), .int (iI (zWy n b)), .int (iI (pv))])), (O, qOut cO n R), (u1, zArr cI n (fun k => (((zRo n b) k : Nat) : Int))), (q3, qOut cO n r4)] ++ (qRw cI n n R (fun i j => b (i * 6 + j)) ++ qRw cI n n r4 (fun _ _ => 0))) _ := hP
  have hD : va_D A ([(S, .inr (3, [.ref O, .int (iI (rc)), .ref u1, ve, vb, .int (iI (zWo n b)), .int (iI (zWy n b)), .int (iI (pv))])), (O, qOut cO n R), (u1, zArr cI n (fun k => (((zRo n b) k : Nat) : Int))), (q3, qOut cO n r4)] ++ (qRw cI n n R (fun i j => b (i * 6 + j)) ++ qRw cI n n r4 (fun _ _ => 0))) := hD
  refine lv_astore_n (lv' := [(2, .ref q3), (1, .int (iI ((n : Nat) : Int))), (0, .ref S)]) hx hb dX3_settle_16 rfl hl (by decide) rfl (fun ls hl => ?_)
  refine zr_ic (n := ((0 : Nat) : Int)) hx hb dX3_settle_17 ?_
  refine lv_istore_n (lv' := [(3, .int (iI ((0 : Nat) : Int))), (2, .ref q3), (1, .int (iI ((n : Nat) : Int))), (0, .ref S)]) hx hb dX3_settle_18 rfl hl (by decide) rfl (fun ls hl => ?_)
  have SFi : ∀ (k0 : Nat) (i : Nat) (F : Nat → Nat → Int), n - i < k0 → (hi : i ≤ n) → (hF : ∀ a c9, a < n → c9 < n → a < i → F a c9 = zWt b (zRo n b) a c9) → ∀ (H : Heap) (locs : List Loc), va_P D vwCl ([(S, .inr (3, [.ref O, .int (iI (rc)), .ref u1, ve, vb, .int (iI (zWo n b)), .int (iI (zWy n b)), .int (iI (pv))])), (O, qOut cO n R), (u1, zArr cI n (fun k => (((zRo n b) k : Nat) : Int))), (q3, qOut cO n r4)] ++ (qRw cI n n R (fun i j => b (i * 6 + j)) ++ qRw cI n n r4 F)) H → va_D A ([(S, .inr (3, [.ref O, .int (iI (rc)), .ref u1, ve, vb, .int (iI (zWo n b)), .int (iI (zWy n b)), .int (iI (pv))])), (O, qOut cO n R), (u1, zArr cI n (fun k => (((zRo n b) k : Nat) : Int))), (q3, qOut cO n r4)] ++ (qRw cI n n R (fun i j => b (i * 6 + j)) ++ qRw cI n n r4 F)) → va_S A s.heap H locs → ∀ (ls : Array Slot), lv_has ls 6 [(0, .ref S), (1, .int (iI ((n : Nat) : Int))), (2, .ref q3), (3, .int (iI ((i : Nat) : Int)))] → W p l e (qRm 3 77 250) s m args below meth c H locs 248 (8 * 248) (MQ below (va_Qq (S := Nat × Nat × Nat × (Nat → Int) × (Nat → Int)) (fun r u => r = some S ∧ (∀ k, k < n → u.2.2.2.1 k = E k) ∧ ∀ k, k < n → u.2.2.2.2 k = E k + zSh0 n b rc E) (fun u9 t9 => va_P D vwCl ((fun u => ([(S, .inr (3, [.ref O, .int (iI (rc)), .ref u.1, .ref u.2.1, .ref u.2.2.1, .int (iI (zWo n b)), .int (iI (zWy n b)), .int (iI (zPo0 n b rc E))])), (O, qOut cO n R), (u.1, zArr cI n (fun k => (((zRo n b) k : Nat) : Int))), (u.2.1, zArr cI n u.2.2.2.1), (u.2.2.1, zArr cI n u.2.2.2.2)] ++ qRw cI n n R (fun i j => b (i * 6 + j)))) u9) t9.heap ∧ va_D A ((fun u => ([(S, .inr (3, [.ref O, .int (iI (rc)), .ref u.1, .ref u.2.1, .ref u.2.2.1, .int (iI (zWo n b)), .int (iI (zWy n b)), .int (iI (zPo0 n b rc E))])), (O, qOut cO n R), (u.1, zArr cI n (fun k => (((zRo n b) k : Nat) : Int))), (u.2.1, zArr cI n u.2.2.2.1), (u.2.2.1, zArr cI n u.2.2.2.2)] ++ qRw cI n n R (fun i j => b (i * 6 + j)))) u9)) A) args s 250 (8 * 250) A) (F0 m 19 ls []) := by
    intro k0
    induction k0 with
    | zero => intro i F hk; exact absurd hk (Nat.not_lt_zero _)
    | succ k0 ih_SFi =>
      intro i F hk hi hF H locs hP hD hS ls hl
      refine lv_iload_n hx hb dX3_settle_19 rfl (lv_at hl 3 rfl) ?_
      refine lv_iload_n hx hb dX3_settle_20 rfl (lv_at hl 1 rfl) ?_
      refine zr_icmp_ge (tgt := 81) hx hb dX3_settle_21 (by decide) (zB_of (by omega) (by omega)) (zB_of (by omega) (by omega)) (fun c5 => ?_) (fun c5 => ?_)
      · refine zr_ic (n := ((0 : Nat) : Int)) hx hb dX3_settle_81 ?_
        refine lv_istore_n (lv' := [(3, .int (iI ((0 : Nat) : Int))), (0, .ref S), (1, .int (iI ((n : Nat) : Int))), (2, .ref q3)]) hx hb dX3_settle_82 rfl hl (by decide) rfl (fun ls hl => ?_)
        have MM : ∀ (k0 : Nat) (mm : Nat) (Dm : Nat → Nat → Int), n - mm < k0 → (hm : mm ≤ n) → (hC : qCl n (zWt b (zRo n b)) E mm Dm) → ∀ (H : Heap) (locs : List Loc), va_P D vwCl ([(S, .inr (3, [.ref O, .int (iI (rc)), .ref u1, ve, vb, .int (iI (zWo n b)), .int (iI (zWy n b)), .int (iI (pv))])), (O, qOut cO n R), (u1, zArr cI n (fun k => (((zRo n b) k : Nat) : Int))), (q3, qOut cO n r4)] ++ (qRw cI n n R (fun i j => b (i * 6 + j)) ++ qRw cI n n r4 Dm)) H → va_D A ([(S, .inr (3, [.ref O, .int (iI (rc)), .ref u1, ve, vb, .int (iI (zWo n b)), .int (iI (zWy n b)), .int (iI (pv))])), (O, qOut cO n R), (u1, zArr cI n (fun k => (((zRo n b) k : Nat) : Int))), (q3, qOut cO n r4)] ++ (qRw cI n n R (fun i j => b (i * 6 + j)) ++ qRw cI n n r4 Dm)) → va_S A s.heap H locs → ∀ (ls : Array Slot), lv_has ls 6 [(0, .ref S), (1, .int (iI ((n : Nat) : Int))), (2, .ref q3), (3, .int (iI ((mm : Nat) : Int)))] → W p l e (qRm 3 77 250) s m args below meth c H locs 248 (8 * 248) (MQ below (va_Qq (S := Nat × Nat × Nat × (Nat → Int) × (Nat → Int)) (fun r u => r = some S ∧ (∀ k, k < n → u.2.2.2.1 k = E k) ∧ ∀ k, k < n → u.2.2.2.2 k = E k + zSh0 n b rc E) (fun u9 t9 => va_P D vwCl ((fun u => ([(S, .inr (3, [.ref O, .int (iI (rc)), .ref u.1, .ref u.2.1, .ref u.2.2.1, .int (iI (zWo n b)), .int (iI (zWy n b)), .int (iI (zPo0 n b rc E))])), (O, qOut cO n R), (u.1, zArr cI n (fun k => (((zRo n b) k : Nat) : Int))), (u.2.1, zArr cI n u.2.2.2.1), (u.2.2.1, zArr cI n u.2.2.2.2)] ++ qRw cI n n R (fun i j => b (i * 6 + j)))) u9) t9.heap ∧ va_D A ((fun u => ([(S, .inr (3, [.ref O, .int (iI (rc)), .ref u.1, .ref u.2.1, .ref u.2.2.1, .int (iI (zWo n b)), .int (iI (zWy n b)), .int (iI (zPo0 n b rc E))])), (O, qOut cO n R), (u.1, zArr cI n (fun k => (((zRo n b) k : Nat) : Int))), (u.2.1, zArr cI n u.2.2.2.1), (u.2.2.1, zArr cI n u.2.2.2.2)] ++ qRw cI n n R (fun i j => b (i * 6 + j)))) u9)) A) args s 250 (8 * 250) A) (F0 m 83 ls []) := by
          intro k0
          induction k0 with
          | zero => intro mm Dm hk; exact absurd hk (Nat.not_lt_zero _)
          | succ k0 ih_MM =>
            intro mm Dm hk hm hC H locs hP hD hS ls hl
            refine lv_iload_n hx hb dX3_settle_83 rfl (lv_at hl 3 rfl) ?_
            refine lv_iload_n hx hb dX3_settle_84 rfl (lv_at hl 1 rfl) ?_
            refine zr_icmp_ge (tgt := 154) hx hb dX3_settle_85 (by decide) (zB_of (by omega) (by omega)) (zB_of (by omega) (by omega)) (fun c6 => ?_) (fun c6 => ?_)
            · have hC9 : qCl n (zWt b (zRo n b)) E n Dm := by rw [show mm = n by omega] at hC; exact hC
              have hEe : ∀ k, k < n → zMx (Dm k) n = E k := fun k hk => zIsB_un (qCl_end (e := fun k => zMx (Dm k) n) hEB hC9 (fun a _ => rfl)) hEB hk
              have hCb9 := qCb hb0 hE2 hC9
              refine lv_aload_n hx hb dX3_settle_154 rfl (lv_at hl 0 rfl) ?_
              refine lv_iload_n hx hb dX3_settle_155 rfl (lv_at hl 1 rfl) ?_
              refine zq_newa hx hb (hts (.arrayClass .int) (by decide +kernel)) hK hP hD hS hA (n) (by omega) (by omega) (show 248 + 1 ≤ 250 by omega) (show 8 * (248) + 8 ≤ 8 * 250 by omega) dX3_settle_156 (fun q7 H hP hD hS => ?_)
              have hP : va_P D vwCl ([(S, .inr (3, [.ref O, .int (iI (rc)), .ref u1, ve, vb, .int (iI (zWo n b)), .int (iI (zWy n b)), .int (iI (pv))])), (O, qOut cO n R), (u1, zArr cI n (fun k => (((zRo n b) k : Nat) : Int))), (q3, qOut cO n r4), (q7, zArr cI n (fun _ => 0))] ++ (qRw cI n n R (fun i j => b (i * 6 + j)) ++ qRw cI n n r4 Dm)) _ := hP
              have hD : va_D A ([(S, .inr (3, [.ref O, .int (iI (rc)), .ref u1, ve, vb, .int (iI (zWo n b)), .int (iI (zWy n b)), .int (iI (pv))])), (O, qOut cO n R), (u1, zArr cI n (fun k => (((zRo n b) k : Nat) : Int))), (q3, qOut cO n r4), (q7, zArr cI n (fun _ => 0))] ++ (qRw cI n n R (fun i j => b (i * 6 + j)) ++ qRw cI n n r4 Dm)) := hD
              refine va_put (D := D) (ci := 3) (v := .ref q7) (ty := (.array .int)) (C := RX3) (T := TX3) (N := 8) hx hb hts (by decide +kernel) tyX3 tyX3_ok nmX3 hown hK hP hD hS 0 rfl rfl 3 (by decide) (hts (.fieldLink RX3 56 "RentHarmonyLaw$Sim" "early" "[I") (by decide +kernel)) (fun _ h9 => h9) rfl (by decide +kernel) rfl rfl (Nat.le_of_ble_eq_true rfl) dX3_settle_158 (fun H locs hP hD hS => ?_)
              have hP : va_P D vwCl ([(S, .inr (3, [.ref O, .int (iI (rc)), .ref u1, .ref q7, vb, .int (iI (zWo n b)), .int (iI (zWy n b)), .int (iI (pv))])), (O, qOut cO n R), (u1, zArr cI n (fun k => (((zRo n b) k : Nat) : Int))), (q3, qOut cO n r4), (q7, zArr cI n (fun _ => 0))] ++ (qRw cI n n R (fun i j => b (i * 6 + j)) ++ qRw cI n n r4 Dm)) _ := hP
              have hD : va_D A ([(S, .inr (3, [.ref O, .int (iI (rc)), .ref u1, .ref q7, vb, .int (iI (zWo n b)), .int (iI (zWy n b)), .int (iI (pv))])), (O, qOut cO n R), (u1, zArr cI n (fun k => (((zRo n b) k : Nat) : Int))), (q3, qOut cO n r4), (q7, zArr cI n (fun _ => 0))] ++ (qRw cI n n R (fun i j => b (i * 6 + j)) ++ qRw cI n n r4 Dm)) := hD
              refine lv_aload_n hx hb dX3_settle_161 rfl (lv_at hl 0 rfl) ?_
              refine lv_iload_n hx hb dX3_settle_162 rfl (lv_at hl 1 rfl) ?_
              refine zq_newa hx hb (hts (.arrayClass .int) (by decide +kernel)) hK hP hD hS hA (n) (by omega) (by omega) (show 249 + 1 ≤ 250 by omega) (show 8 * (249) + 8 ≤ 8 * 250 by omega) dX3_settle_163 (fun q8 H hP hD hS => ?_)
              have hP : va_P D vwCl ([(S, .inr (3, [.ref O, .int (iI (rc)), .ref u1, .ref q7, vb, .int (iI (zWo n b)), .int (iI (zWy n b)), .int (iI (pv))])), (O, qOut cO n R), (u1, zArr cI n (fun k => (((zRo n b) k : Nat) : Int))), (q3, qOut cO n r4), (q7, zArr cI n (fun _ => 0)), (q8, zArr cI n (fun _ => 0))] ++ (qRw cI n n R (fun i j => b (i * 6 + j)) ++ qRw cI n n r4 Dm)) _ := hP
              have hD : va_D A ([(S, .inr (3, [.ref O, .int (iI (rc)), .ref u1, .ref q7, vb, .int (iI (zWo n b)), .int (iI (zWy n b)), .int (iI (pv))])), (O, qOut cO n R), (u1, zArr cI n (fun k => (((zRo n b) k : Nat) : Int))), (q3, qOut cO n r4), (q7, zArr cI n (fun _ => 0)), (q8, zArr cI n (fun _ => 0))] ++ (qRw cI n n R (fun i j => b (i * 6 + j)) ++ qRw cI n n r4 Dm)) := hD
              refine va_put (D := D) (ci := 3) (v := .ref q8) (ty := (.array .int)) (C := RX3) (T := TX3) (N := 8) hx hb hts (by decide +kernel) tyX3 tyX3_ok nmX3 hown hK hP hD hS 0 rfl rfl 4 (by decide) (hts (.fieldLink RX3 59 "RentHarmonyLaw$Sim" "rebates" "[I") (by decide +kernel)) (fun _ h9 => h9) rfl (by decide +kernel) rfl rfl (Nat.le_of_ble_eq_true rfl) dX3_settle_165 (fun H locs hP hD hS => ?_)
              have hP : va_P D vwCl ([(S, .inr (3, [.ref O, .int (iI (rc)), .ref u1, .ref q7, .ref q8, .int (iI (zWo n b)), .int (iI (zWy n b)), .int (iI (pv))])), (O, qOut cO n R), (u1, zArr cI n (fun k => (((zRo n b) k : Nat) : Int))), (q3, qOut cO n r4), (q7, zArr cI n (fun _ => 0)), (q8, zArr cI n (fun _ => 0))] ++ (qRw cI n n R (fun i j => b (i * 6 + j)) ++ qRw cI n n r4 Dm)) _ := hP
              have hD : va_D A ([(S, .inr (3, [.ref O, .int (iI (rc)), .ref u1, .ref q7, .ref q8, .int (iI (zWo n b)), .int (iI (zWy n b)), .int (iI (pv))])), (O, qOut cO n R), (u1, zArr cI n (fun k => (((zRo n b) k : Nat) : Int))), (q3, qOut cO n r4), (q7, zArr cI n (fun _ => 0)), (q8, zArr cI n (fun _ => 0))] ++ (qRw cI n n R (fun i j => b (i * 6 + j)) ++ qRw cI n n r4 Dm)) := hD
              refine lv_aload_n hx hb dX3_settle_168 rfl (lv_at hl 0 rfl) ?_
              refine lv_aload_n hx hb dX3_settle_169 rfl (lv_at hl 0 rfl) ?_
              refine va_get (D := D) (ci := 3) (v := .int (iI (zWo n b))) (C := RX3) (T := TX3) (N := 8) hx hb hts (by decide +kernel) hown hK hP 0 rfl rfl 5 (by decide) (hts (.fieldLink RX3 24 "RentHarmonyLaw$Sim" "worth" "I") (by decide +kernel)) (fun _ h9 => h9) rfl dX3_settle_170 ?_
              refine lv_aload_n hx hb dX3_settle_173 rfl (lv_at hl 0 rfl) ?_
              refine va_get (D := D) (ci := 3) (v := .int (iI (rc))) (C := RX3) (T := TX3) (N := 8) hx hb hts (by decide +kernel) hown hK hP 0 rfl rfl 1 (by decide) (hts (.fieldLink RX3 62 "RentHarmonyLaw$Sim" "rent" "I") (by decide +kernel)) (fun _ h9 => h9) rfl dX3_settle_174 ?_
              refine zr_sub hx hb dX3_settle_177 ?_
              refine va_put (D := D) (ci := 3) (v := .int (iI ((zWo n b) - rc))) (ty := .int) (C := RX3) (T := TX3) (N := 8) hx hb hts (by decide +kernel) tyX3 tyX3_ok nmX3 hown hK hP hD hS 0 rfl rfl 7 (by decide) (hts (.fieldLink RX3 65 "RentHarmonyLaw$Sim" "pot" "I") (by decide +kernel)) (fun _ h9 => h9) rfl (by decide +kernel) rfl rfl (Nat.le_of_ble_eq_true rfl) dX3_settle_178 (fun H locs hP hD hS => ?_)
              have hP : va_P D vwCl ([(S, .inr (3, [.ref O, .int (iI (rc)), .ref u1, .ref q7, .ref q8, .int (iI (zWo n b)), .int (iI (zWy n b)), .int (iI ((zWo n b) - rc))])), (O, qOut cO n R), (u1, zArr cI n (fun k => (((zRo n b) k : Nat) : Int))), (q3, qOut cO n r4), (q7, zArr cI n (fun _ => 0)), (q8, zArr cI n (fun _ => 0))] ++ (qRw cI n n R (fun i j => b (i * 6 + j)) ++ qRw cI n n r4 Dm)) _ := hP
              have hD : va_D A ([(S, .inr (3, [.ref O, .int (iI (rc)), .ref u1, .ref q7, .ref q8, .int (iI (zWo n b)), .int (iI (zWy n b)), .int (iI ((zWo n b) - rc))])), (O, qOut cO n R), (u1, zArr cI n (fun k => (((zRo n b) k : Nat) : Int))), (q3, qOut cO n r4), (q7, zArr cI n (fun _ => 0)), (q8, zArr cI n (fun _ => 0))] ++ (qRw cI n n R (fun i j => b (i * 6 + j)) ++ qRw cI n n r4 Dm)) := hD
              refine zr_ic (n := ((0 : Nat) : Int)) hx hb dX3_settle_181 ?_
              refine lv_istore_n (lv' := [(3, .int (iI ((0 : Nat) : Int))), (0, .ref S), (1, .int (iI ((n : Nat) : Int))), (2, .ref q3)]) hx hb dX3_settle_182 rfl hl (by decide) rfl (fun ls hl => ?_)
              have EA : ∀ (k0 : Nat) (a : Nat) (ev : Nat → Int), n - a < k0 → (ha : a ≤ n) → (he : ∀ k, k < n → ev k = if k < a then E k else 0) → ∀ (H : Heap) (locs : List Loc), va_P D vwCl ([(S, .inr (3, [.ref O, .int (iI (rc)), .ref u1, .ref q7, .ref q8, .int (iI (zWo n b)), .int (iI (zWy n b)), .int (iI (zWo n b - rc - zSum E a))])), (O, qOut cO n R), (u1, zArr cI n (fun k => (((zRo n b) k : Nat) : Int))), (q3, qOut cO n r4), (q7, zArr cI n ev), (q8, zArr cI n (fun _ => 0))] ++ (qRw cI n n R (fun i j => b (i * 6 + j)) ++ qRw cI n n r4 Dm)) H → va_D A ([(S, .inr (3, [.ref O, .int (iI (rc)), .ref u1, .ref q7, .ref q8, .int (iI (zWo n b)), .int (iI (zWy n b)), .int (iI (zWo n b - rc - zSum E a))])), (O, qOut cO n R), (u1, zArr cI n (fun k => (((zRo n b) k : Nat) : Int))), (q3, qOut cO n r4), (q7, zArr cI n ev), (q8, zArr cI n (fun _ => 0))] ++ (qRw cI n n R (fun i j => b (i * 6 + j)) ++ qRw cI n n r4 Dm)) → va_S A s.heap H locs → ∀ (ls : Array Slot), lv_has ls 6 [(0, .ref S), (1, .int (iI ((n : Nat) : Int))), (2, .ref q3), (3, .int (iI ((a : Nat) : Int)))] → W p l e (qRm 3 77 250) s m args below meth c H locs 250 (8 * 250) (MQ below (va_Qq (S := Nat × Nat × Nat × (Nat → Int) × (Nat → Int)) (fun r u => r = some S ∧ (∀ k, k < n → u.2.2.2.1 k = E k) ∧ ∀ k, k < n → u.2.2.2.2 k = E k + zSh0 n b rc E) (fun u9 t9 => va_P D vwCl ((fun u => ([(S, .inr (3, [.ref O, .int (iI (rc)), .ref u.1, .ref u.2.1, .ref u.2.2.1, .int (iI (zWo n b)), .int (iI (zWy n b)), .int (iI (zPo0 n b rc E))])), (O, qOut cO n R), (u.1, zArr cI n (fun k => (((zRo n b) k : Nat) : Int))), (u.2.1, zArr cI n u.2.2.2.1), (u.2.2.1, zArr cI n u.2.2.2.2)] ++ qRw cI n n R (fun i j => b (i * 6 + j)))) u9) t9.heap ∧ va_D A ((fun u => ([(S, .inr (3, [.ref O, .int (iI (rc)), .ref u.1, .ref u.2.1, .ref u.2.2.1, .int (iI (zWo n b)), .int (iI (zWy n b)), .int (iI (zPo0 n b rc E))])), (O, qOut cO n R), (u.1, zArr cI n (fun k => (((zRo n b) k : Nat) : Int))), (u.2.1, zArr cI n u.2.2.2.1), (u.2.2.1, zArr cI n u.2.2.2.2)] ++ qRw cI n n R (fun i j => b (i * 6 + j)))) u9)) A) args s 250 (8 * 250) A) (F0 m 183 ls []) := by
                intro k0
                induction k0 with
                | zero => intro a ev hk; exact absurd hk (Nat.not_lt_zero _)
                | succ k0 ih_EA =>
                  intro a ev hk ha he H locs hP hD hS ls hl
                  refine lv_iload_n hx hb dX3_settle_183 rfl (lv_at hl 3 rfl) ?_
                  refine lv_iload_n hx hb dX3_settle_184 rfl (lv_at hl 1 rfl) ?_
                  refine zr_icmp_ge (tgt := 245) hx hb dX3_settle_185 (by decide) (zB_of (by omega) (by omega)) (zB_of (by omega) (by omega)) (fun c9 => ?_) (fun c9 => ?_)
                  · have hpt : (zWo n b - rc - zSum E a) = (zLeft (zWo n b) rc E n) := by rw [show a = n by omega]; rfl
                    rw [hpt] at hP hD
                    have hP : va_P D vwCl ([(S, .inr (3, [.ref O, .int (iI (rc)), .ref u1, .ref q7, .ref q8, .int (iI (zWo n b)), .int (iI (zWy n b)), .int (iI (zLeft (zWo n b) rc E n))])), (O, qOut cO n R), (u1, zArr cI n (fun k => (((zRo n b) k : Nat) : Int))), (q3, qOut cO n r4), (q7, zArr cI n ev), (q8, zArr cI n (fun _ => 0))] ++ (qRw cI n n R (fun i j => b (i * 6 + j)) ++ qRw cI n n r4 Dm)) _ := hP
                    have hD : va_D A ([(S, .inr (3, [.ref O, .int (iI (rc)), .ref u1, .ref q7, .ref q8, .int (iI (zWo n b)), .int (iI (zWy n b)), .int (iI (zLeft (zWo n b) rc E n))])), (O, qOut cO n R), (u1, zArr cI n (fun k => (((zRo n b) k : Nat) : Int))), (q3, qOut cO n r4), (q7, zArr cI n ev), (q8, zArr cI n (fun _ => 0))] ++ (qRw cI n n R (fun i j => b (i * 6 + j)) ++ qRw cI n n r4 Dm)) := hD
                    have hev : ∀ k, k < n → ev k = E k := fun k hk => by rw [he k hk, if_pos (by omega)]
                    have hsE := zSum_b (f := E) (M := 5994) n hE2
                    have hlf : zLeft (zWo n b) rc E n = zWo n b - rc - zSum E n := rfl
                    have hwo := zWo_b (n := n) (by omega) hb0
                    refine lv_iload_n hx hb dX3_settle_245 rfl (lv_at hl 1 rfl) ?_
                    refine zr_if_eq (tgt := 256) hx hb dX3_settle_246 (by decide) (zB_of (by omega) (by omega)) (fun c10 => ?_) (fun c10 => ?_)
                    · exact absurd c10 (by omega)
                    · have JJ : ∀ (H : Heap) (locs : List Loc), va_P D vwCl ([(S, .inr (3, [.ref O, .int (iI (rc)), .ref u1, .ref q7, .ref q8, .int (iI (zWo n b)), .int (iI (zWy n b)), .int (iI (zLeft (zWo n b) rc E n))])), (O, qOut cO n R), (u1, zArr cI n (fun k => (((zRo n b) k : Nat) : Int))), (q3, qOut cO n r4), (q7, zArr cI n ev), (q8, zArr cI n (fun _ => 0))] ++ (qRw cI n n R (fun i j => b (i * 6 + j)) ++ qRw cI n n r4 Dm)) H → va_D A ([(S, .inr (3, [.ref O, .int (iI (rc)), .ref u1, .ref q7, .ref q8, .int (iI (zWo n b)), .int (iI (zWy n b)), .int (iI (zLeft (zWo n b) rc E n))])), (O, qOut cO n R), (u1, zArr cI n (fun k => (((zRo n b) k : Nat) : Int))), (q3, qOut cO n r4), (q7, zArr cI n ev), (q8, zArr cI n (fun _ => 0))] ++ (qRw cI n n R (fun i j => b (i * 6 + j)) ++ qRw cI n n r4 Dm)) → va_S A s.heap H locs → ∀ (ls : Array Slot), lv_has ls 6 [(0, .ref S), (1, .int (iI ((n : Nat) : Int))), (2, .ref q3)] → W p l e (qRm 3 77 250) s m args below meth c H locs 250 (8 * 250) (MQ below (va_Qq (S := Nat × Nat × Nat × (Nat → Int) × (Nat → Int)) (fun r u => r = some S ∧ (∀ k, k < n → u.2.2.2.1 k = E k) ∧ ∀ k, k < n → u.2.2.2.2 k = E k + zSh0 n b rc E) (fun u9 t9 => va_P D vwCl ((fun u => ([(S, .inr (3, [.ref O, .int (iI (rc)), .ref u.1, .ref u.2.1, .ref u.2.2.1, .int (iI (zWo n b)), .int (iI (zWy n b)), .int (iI (zPo0 n b rc E))])), (O, qOut cO n R), (u.1, zArr cI n (fun k => (((zRo n b) k : Nat) : Int))), (u.2.1, zArr cI n u.2.2.2.1), (u.2.2.1, zArr cI n u.2.2.2.2)] ++ qRw cI n n R (fun i j => b (i * 6 + j)))) u9) t9.heap ∧ va_D A ((fun u => ([(S, .inr (3, [.ref O, .int (iI (rc)), .ref u.1, .ref u.2.1, .ref u.2.2.1, .int (iI (zWo n b)), .int (iI (zWy n b)), .int (iI (zPo0 n b rc E))])), (O, qOut cO n R), (u.1, zArr cI n (fun k => (((zRo n b) k : Nat) : Int))), (u.2.1, zArr cI n u.2.2.2.1), (u.2.2.1, zArr cI n u.2.2.2.2)] ++ qRw cI n n R (fun i j => b (i * 6 + j)))) u9)) A) args s 250 (8 * 250) A) (F0 m 266 ls [.int (iI (zShare n (zLeft (zWo n b) rc E n)))]) := by
                        intro   H locs hP hD hS ls hl
                        refine lv_istore_n (lv' := [(3, .int (iI (zShare n (zLeft (zWo n b) rc E n)))), (0, .ref S), (1, .int (iI ((n : Nat) : Int))), (2, .ref q3)]) hx hb dX3_settle_266 rfl hl (by decide) rfl (fun ls hl => ?_)
                        refine zr_ic (n := ((0 : Nat) : Int)) hx hb dX3_settle_267 ?_
                        refine lv_istore (lv' := [(4, .int (iI ((0 : Nat) : Int))), (3, .int (iI (zShare n (zLeft (zWo n b) rc E n)))), (0, .ref S), (1, .int (iI ((n : Nat) : Int))), (2, .ref q3)]) hx hb dX3_settle_268 hl (by decide) rfl (fun ls hl => ?_)
                        have RK : ∀ (k0 : Nat) (k9 : Nat) (rbv : Nat → Int), n - k9 < k0 → (hk9 : k9 ≤ n) → (hrb : ∀ j, j < k9 → rbv j = E j + zShare n (zLeft (zWo n b) rc E n)) → ∀ (H : Heap) (locs : List Loc), va_P D vwCl ([(S, .inr (3, [.ref O, .int (iI (rc)), .ref u1, .ref q7, .ref q8, .int (iI (zWo n b)), .int (iI (zWy n b)), .int (iI (zLeft (zWo n b) rc E n - zShare n (zLeft (zWo n b) rc E n) * ((k9 : Nat) : Int)))])), (O, qOut cO n R), (u1, zArr cI n (fun k => (((zRo n b) k : Nat) : Int))), (q3, qOut cO n r4), (q7, zArr cI n ev), (q8, zArr cI n rbv)] ++ (qRw cI n n R (fun i j => b (i * 6 + j)) ++ qRw cI n n r4 Dm)) H → va_D A ([(S, .inr (3, [.ref O, .int (iI (rc)), .ref u1, .ref q7, .ref q8, .int (iI (zWo n b)), .int (iI (zWy n b)), .int (iI (zLeft (zWo n b) rc E n - zShare n (zLeft (zWo n b) rc E n) * ((k9 : Nat) : Int)))])), (O, qOut cO n R), (u1, zArr cI n (fun k => (((zRo n b) k : Nat) : Int))), (q3, qOut cO n r4), (q7, zArr cI n ev), (q8, zArr cI n rbv)] ++ (qRw cI n n R (fun i j => b (i * 6 + j)) ++ qRw cI n n r4 Dm)) → va_S A s.heap H locs → ∀ (ls : Array Slot), lv_has ls 6 [(0, .ref S), (1, .int (iI ((n : Nat) : Int))), (2, .ref q3), (3, .int (iI (zShare n (zLeft (zWo n b) rc E n)))), (4, .int (iI ((k9 : Nat) : Int)))] → W p l e (qRm 3 77 250) s m args below meth c H locs 250 (8 * 250) (MQ below (va_Qq (S := Nat × Nat × Nat × (Nat → Int) × (Nat → Int)) (fun r u => r = some S ∧ (∀ k, k < n → u.2.2.2.1 k = E k) ∧ ∀ k, k < n → u.2.2.2.2 k = E k + zSh0 n b rc E) (fun u9 t9 => va_P D vwCl ((fun u => ([(S, .inr (3, [.ref O, .int (iI (rc)), .ref u.1, .ref u.2.1, .ref u.2.2.1, .int (iI (zWo n b)), .int (iI (zWy n b)), .int (iI (zPo0 n b rc E))])), (O, qOut cO n R), (u.1, zArr cI n (fun k => (((zRo n b) k : Nat) : Int))), (u.2.1, zArr cI n u.2.2.2.1), (u.2.2.1, zArr cI n u.2.2.2.2)] ++ qRw cI n n R (fun i j => b (i * 6 + j)))) u9) t9.heap ∧ va_D A ((fun u => ([(S, .inr (3, [.ref O, .int (iI (rc)), .ref u.1, .ref u.2.1, .ref u.2.2.1, .int (iI (zWo n b)), .int (iI (zWy n b)), .int (iI (zPo0 n b rc E))])), (O, qOut cO n R), (u.1, zArr cI n (fun k => (((zRo n b) k : Nat) : Int))), (u.2.1, zArr cI n u.2.2.2.1), (u.2.2.1, zArr cI n u.2.2.2.2)] ++ qRw cI n n R (fun i j => b (i * 6 + j)))) u9)) A) args s 250 (8 * 250) A) (F0 m 270 ls []) := by
                          intro k0
                          induction k0 with
                          | zero => intro k9 rbv hk; exact absurd hk (Nat.not_lt_zero _)
                          | succ k0 ih_RK =>
                            intro k9 rbv hk hk9 hrb H locs hP hD hS ls hl
                            refine lv_iload hx hb dX3_settle_270 (lv_at hl 4 rfl) ?_
                            refine lv_iload_n hx hb dX3_settle_272 rfl (lv_at hl 1 rfl) ?_
                            refine zr_icmp_ge (tgt := 308) hx hb dX3_settle_273 (by decide) (zB_of (by omega) (by omega)) (zB_of (by omega) (by omega)) (fun c11 => ?_) (fun c11 => ?_)
                            · refine lv_aload_n hx hb dX3_settle_308 rfl (lv_at hl 0 rfl) ?_
                              have hpt : (zLeft (zWo n b) rc E n - zShare n (zLeft (zWo n b) rc E n) * ((k9 : Nat) : Int)) = (zPo0 n b rc E) := by rw [show k9 = n by omega]; rfl
                              rw [hpt] at hP hD
                              have hP : va_P D vwCl ([(S, .inr (3, [.ref O, .int (iI (rc)), .ref u1, .ref q7, .ref q8, .int (iI (zWo n b)), .int (iI (zWy n b)), .int (iI (zPo0 n b rc E))])), (O, qOut cO n R), (u1, zArr cI n (fun k => (((zRo n b) k : Nat) : Int))), (q3, qOut cO n r4), (q7, zArr cI n ev), (q8, zArr cI n rbv)] ++ (qRw cI n n R (fun i j => b (i * 6 + j)) ++ qRw cI n n r4 Dm)) _ := hP
                              have hD : va_D A ([(S, .inr (3, [.ref O, .int (iI (rc)), .ref u1, .ref q7, .ref q8, .int (iI (zWo n b)), .int (iI (zWy n b)), .int (iI (zPo0 n b rc E))])), (O, qOut cO n R), (u1, zArr cI n (fun k => (((zRo n b) k : Nat) : Int))), (q3, qOut cO n r4), (q7, zArr cI n ev), (q8, zArr cI n rbv)] ++ (qRw cI n n R (fun i j => b (i * 6 + j)) ++ qRw cI n n r4 Dm)) := hD
                              have hP9 := qDrop2 (Xc := [(S, .inr (3, [.ref O, .int (iI (rc)), .ref u1, .ref q7, .ref q8, .int (iI (zWo n b)), .int (iI (zWy n b)), .int (iI (zPo0 n b rc E))])), (O, qOut cO n R), (u1, zArr cI n (fun k => (((zRo n b) k : Nat) : Int))), (q7, zArr cI n ev), (q8, zArr cI n rbv)]) hP [0, 1, 2, 4, 5] rfl
                              have hD9 := qDropD2 (Xc := [(S, .inr (3, [.ref O, .int (iI (rc)), .ref u1, .ref q7, .ref q8, .int (iI (zWo n b)), .int (iI (zWy n b)), .int (iI (zPo0 n b rc E))])), (O, qOut cO n R), (u1, zArr cI n (fun k => (((zRo n b) k : Nat) : Int))), (q7, zArr cI n ev), (q8, zArr cI n rbv)]) hD [0, 1, 2, 4, 5] rfl (by decide) 6 rfl (by decide)
                              exact qQ_ret (r := (some S)) hx hb hr (Or.inl ⟨_, rfl⟩) hlocks hS dX3_settle_309 (show 250 ≤ 250 by omega) (u1, q7, q8, ev, rbv) ⟨rfl, hev, fun k hk => hrb k (by omega)⟩ hP9 hD9
                            · refine lv_aload_n hx hb dX3_settle_276 rfl (lv_at hl 0 rfl) ?_
                              refine va_get (D := D) (ci := 3) (v := .ref q8) (C := RX3) (T := TX3) (N := 8) hx hb hts (by decide +kernel) hown hK hP 0 rfl rfl 4 (by decide) (hts (.fieldLink RX3 59 "RentHarmonyLaw$Sim" "rebates" "[I") (by decide +kernel)) (fun _ h9 => h9) rfl dX3_settle_277 ?_
                              refine lv_iload hx hb dX3_settle_280 (lv_at hl 4 rfl) ?_
                              refine lv_aload_n hx hb dX3_settle_282 rfl (lv_at hl 0 rfl) ?_
                              refine va_get (D := D) (ci := 3) (v := .ref q7) (C := RX3) (T := TX3) (N := 8) hx hb hts (by decide +kernel) hown hK hP 0 rfl rfl 3 (by decide) (hts (.fieldLink RX3 56 "RentHarmonyLaw$Sim" "early" "[I") (by decide +kernel)) (fun _ h9 => h9) rfl dX3_settle_283 ?_
                              refine lv_iload hx hb dX3_settle_286 (lv_at hl 4 rfl) ?_
                              refine zr_iald hx hb hK hP 4 0 rfl rfl (k9) (by omega) (by omega) (by omega) dX3_settle_288 ?_
                              refine lv_iload_n hx hb dX3_settle_289 rfl (lv_at hl 3 rfl) ?_
                              refine zr_add hx hb dX3_settle_290 ?_
                              refine zr_iast hx hb hK hP hD hS 5 0 rfl rfl (k9) (by omega) (by omega) (by omega) dX3_settle_291 (fun H locs hP hD hS => ?_)
                              have hP : va_P D vwCl ([(S, .inr (3, [.ref O, .int (iI (rc)), .ref u1, .ref q7, .ref q8, .int (iI (zWo n b)), .int (iI (zWy n b)), .int (iI (zLeft (zWo n b) rc E n - zShare n (zLeft (zWo n b) rc E n) * ((k9 : Nat) : Int)))])), (O, qOut cO n R), (u1, zArr cI n (fun k => (((zRo n b) k : Nat) : Int))), (q3, qOut cO n r4), (q7, zArr cI n ev), (q8, zArr cI n (uZ rbv (k9) ((ev (k9)) + (zShare n (zLeft (zWo n b) rc E n)))))] ++ (qRw cI n n R (fun i j => b (i * 6 + j)) ++ qRw cI n n r4 Dm)) _ := hP
                              have hD : va_D A ([(S, .inr (3, [.ref O, .int (iI (rc)), .ref u1, .ref q7, .ref q8, .int (iI (zWo n b)), .int (iI (zWy n b)), .int (iI (zLeft (zWo n b) rc E n - zShare n (zLeft (zWo n b) rc E n) * ((k9 : Nat) : Int)))])), (O, qOut cO n R), (u1, zArr cI n (fun k => (((zRo n b) k : Nat) : Int))), (q3, qOut cO n r4), (q7, zArr cI n ev), (q8, zArr cI n (uZ rbv (k9) ((ev (k9)) + (zShare n (zLeft (zWo n b) rc E n)))))] ++ (qRw cI n n R (fun i j => b (i * 6 + j)) ++ qRw cI n n r4 Dm)) := hD
                              refine lv_aload_n hx hb dX3_settle_292 rfl (lv_at hl 0 rfl) ?_
                              refine lv_dup hx hb dX3_settle_293 rfl ?_
                              refine va_get (D := D) (ci := 3) (v := .int (iI (zLeft (zWo n b) rc E n - zShare n (zLeft (zWo n b) rc E n) * ((k9 : Nat) : Int)))) (C := RX3) (T := TX3) (N := 8) hx hb hts (by decide +kernel) hown hK hP 0 rfl rfl 7 (by decide) (hts (.fieldLink RX3 65 "RentHarmonyLaw$Sim" "pot" "I") (by decide +kernel)) (fun _ h9 => h9) rfl dX3_settle_294 ?_
                              refine lv_iload_n hx hb dX3_settle_297 rfl (lv_at hl 3 rfl) ?_
                              refine zr_sub hx hb dX3_settle_298 ?_
                              refine va_put (D := D) (ci := 3) (v := .int (iI ((zLeft (zWo n b) rc E n - zShare n (zLeft (zWo n b) rc E n) * ((k9 : Nat) : Int)) - (zShare n (zLeft (zWo n b) rc E n))))) (ty := .int) (C := RX3) (T := TX3) (N := 8) hx hb hts (by decide +kernel) tyX3 tyX3_ok nmX3 hown hK hP hD hS 0 rfl rfl 7 (by decide) (hts (.fieldLink RX3 65 "RentHarmonyLaw$Sim" "pot" "I") (by decide +kernel)) (fun _ h9 => h9) rfl (by decide +kernel) rfl rfl (Nat.le_of_ble_eq_true rfl) dX3_settle_299 (fun H locs hP hD hS => ?_)
                              have hP : va_P D vwCl ([(S, .inr (3, [.ref O, .int (iI (rc)), .ref u1, .ref q7, .ref q8, .int (iI (zWo n b)), .int (iI (zWy n b)), .int (iI ((zLeft (zWo n b) rc E n - zShare n (zLeft (zWo n b) rc E n) * ((k9 : Nat) : Int)) - (zShare n (zLeft (zWo n b) rc E n))))])), (O, qOut cO n R), (u1, zArr cI n (fun k => (((zRo n b) k : Nat) : Int))), (q3, qOut cO n r4), (q7, zArr cI n ev), (q8, zArr cI n (uZ rbv (k9) ((ev (k9)) + (zShare n (zLeft (zWo n b) rc E n)))))] ++ (qRw cI n n R (fun i j => b (i * 6 + j)) ++ qRw cI n n r4 Dm)) _ := hP
                              have hD : va_D A ([(S, .inr (3, [.ref O, .int (iI (rc)), .ref u1, .ref q7, .ref q8, .int (iI (zWo n b)), .int (iI (zWy n b)), .int (iI ((zLeft (zWo n b) rc E n - zShare n (zLeft (zWo n b) rc E n) * ((k9 : Nat) : Int)) - (zShare n (zLeft (zWo n b) rc E n))))])), (O, qOut cO n R), (u1, zArr cI n (fun k => (((zRo n b) k : Nat) : Int))), (q3, qOut cO n r4), (q7, zArr cI n ev), (q8, zArr cI n (uZ rbv (k9) ((ev (k9)) + (zShare n (zLeft (zWo n b) rc E n)))))] ++ (qRw cI n n R (fun i j => b (i * 6 + j)) ++ qRw cI n n r4 Dm)) := hD
                              refine zr_iinc (lv2 := [(4, .int (iI (((k9 : Nat) : Int) + 1))), (0, .ref S), (1, .int (iI ((n : Nat) : Int))), (2, .ref q3), (3, .int (iI (zShare n (zLeft (zWo n b) rc E n))))]) hx hb dX3_settle_302 hl (k0 := 4) rfl (by decide) rfl (fun ls hl => ?_)
                              have hl : lv_has ls 6 [(4, .int (iI ((k9 + 1 : Nat) : Int))), (0, .ref S), (1, .int (iI ((n : Nat) : Int))), (2, .ref q3), (3, .int (iI (zShare n (zLeft (zWo n b) rc E n))))] := hl
                              refine lv_goto (tgt := 270) hx hb dX3_settle_305 (by decide) ?_
                              have hpt : ((zLeft (zWo n b) rc E n - zShare n (zLeft (zWo n b) rc E n) * ((k9 : Nat) : Int)) - (zShare n (zLeft (zWo n b) rc E n))) = (zLeft (zWo n b) rc E n - zShare n (zLeft (zWo n b) rc E n) * ((k9 + 1 : Nat) : Int)) := by rw [show (((k9 + 1 : Nat) : Int)) = (k9 : Int) + 1 from rfl, Int.mul_add, Int.mul_one]; omega
                              rw [hpt] at hP hD
                              have hP : va_P D vwCl ([(S, .inr (3, [.ref O, .int (iI (rc)), .ref u1, .ref q7, .ref q8, .int (iI (zWo n b)), .int (iI (zWy n b)), .int (iI (zLeft (zWo n b) rc E n - zShare n (zLeft (zWo n b) rc E n) * ((k9 + 1 : Nat) : Int)))])), (O, qOut cO n R), (u1, zArr cI n (fun k => (((zRo n b) k : Nat) : Int))), (q3, qOut cO n r4), (q7, zArr cI n ev), (q8, zArr cI n (uZ rbv (k9) ((ev (k9)) + (zShare n (zLeft (zWo n b) rc E n)))))] ++ (qRw cI n n R (fun i j => b (i * 6 + j)) ++ qRw cI n n r4 Dm)) _ := hP
                              have hD : va_D A ([(S, .inr (3, [.ref O, .int (iI (rc)), .ref u1, .ref q7, .ref q8, .int (iI (zWo n b)), .int (iI (zWy n b)), .int (iI (zLeft (zWo n b) rc E n - zShare n (zLeft (zWo n b) rc E n) * ((k9 + 1 : Nat) : Int)))])), (O, qOut cO n R), (u1, zArr cI n (fun k => (((zRo n b) k : Nat) : Int))), (q3, qOut cO n r4), (q7, zArr cI n ev), (q8, zArr cI n (uZ rbv (k9) ((ev (k9)) + (zShare n (zLeft (zWo n b) rc E n)))))] ++ (qRw cI n n R (fun i j => b (i * 6 + j)) ++ qRw cI n n r4 Dm)) := hD
                              exact ih_RK (k9 + 1) ((uZ rbv (k9) ((ev (k9)) + (zShare n (zLeft (zWo n b) rc E n))))) (by omega) (by omega) (fun j hj => by by_cases q : j = k9; rw [q, uZ_s, hev k9 (by omega)]; rw [uZ_n _ _ q]; exact hrb j (by omega)) _ _ hP hD hS _ (lv_sub hl [1, 2, 3, 4, 0] rfl)
                        have hpt : (zLeft (zWo n b) rc E n) = (zLeft (zWo n b) rc E n - zShare n (zLeft (zWo n b) rc E n) * ((0 : Nat) : Int)) := by rw [show zShare n (zLeft (zWo n b) rc E n) * ((0 : Nat) : Int) = 0 from Int.mul_zero _]; omega
                        rw [hpt] at hP hD
                        have hP : va_P D vwCl ([(S, .inr (3, [.ref O, .int (iI (rc)), .ref u1, .ref q7, .ref q8, .int (iI (zWo n b)), .int (iI (zWy n b)), .int (iI (zLeft (zWo n b) rc E n - zShare n (zLeft (zWo n b) rc E n) * ((0 : Nat) : Int)))])), (O, qOut cO n R), (u1, zArr cI n (fun k => (((zRo n b) k : Nat) : Int))), (q3, qOut cO n r4), (q7, zArr cI n ev), (q8, zArr cI n (fun _ => 0))] ++ (qRw cI n n R (fun i j => b (i * 6 + j)) ++ qRw cI n n r4 Dm)) _ := hP
                        have hD : va_D A ([(S, .inr (3, [.ref O, .int (iI (rc)), .ref u1, .ref q7, .ref q8, .int (iI (zWo n b)), .int (iI (zWy n b)), .int (iI (zLeft (zWo n b) rc E n - zShare n (zLeft (zWo n b) rc E n) * ((0 : Nat) : Int)))])), (O, qOut cO n R), (u1, zArr cI n (fun k => (((zRo n b) k : Nat) : Int))), (q3, qOut cO n r4), (q7, zArr cI n ev), (q8, zArr cI n (fun _ => 0))] ++ (qRw cI n n R (fun i j => b (i * 6 + j)) ++ qRw cI n n r4 Dm)) := hD
                        exact RK (n - (0) + 1) (0) ((fun _ => 0)) (Nat.lt_succ_self _) (by omega) (fun j hj => absurd hj (Nat.not_lt_zero _)) _ _ hP hD hS _ (lv_sub hl [2, 3, 4, 1, 0] rfl)
                      refine lv_aload_n hx hb dX3_settle_249 rfl (lv_at hl 0 rfl) ?_
                      refine va_get (D := D) (ci := 3) (v := .int (iI (zLeft (zWo n b) rc E n))) (C := RX3) (T := TX3) (N := 8) hx hb hts (by decide +kernel) hown hK hP 0 rfl rfl 7 (by decide) (hts (.fieldLink RX3 65 "RentHarmonyLaw$Sim" "pot" "I") (by decide +kernel)) (fun _ h9 => h9) rfl dX3_settle_250 ?_
                      refine zr_if_ge (tgt := 260) hx hb dX3_settle_253 (by decide) (zB_of (by omega) (by omega)) (fun c12 => ?_) (fun c12 => ?_)
                      · refine lv_aload_n hx hb dX3_settle_260 rfl (lv_at hl 0 rfl) ?_
                        refine va_get (D := D) (ci := 3) (v := .int (iI (zLeft (zWo n b) rc E n))) (C := RX3) (T := TX3) (N := 8) hx hb hts (by decide +kernel) hown hK hP 0 rfl rfl 7 (by decide) (hts (.fieldLink RX3 65 "RentHarmonyLaw$Sim" "pot" "I") (by decide +kernel)) (fun _ h9 => h9) rfl dX3_settle_261 ?_
                        refine lv_iload_n hx hb dX3_settle_264 rfl (lv_at hl 1 rfl) ?_
                        refine zr_div hx hb dX3_settle_265 (zB_of (by omega) (by omega)) (zB_of (by omega) (by omega)) (by omega) (by omega) ?_
                        refine zr_topi (show ((zLeft (zWo n b) rc E n) / ((n : Nat) : Int)) = (zShare n (zLeft (zWo n b) rc E n)) from qSh2 (by omega) (by omega)) ?_
                        exact JJ   _ _ hP hD hS _ (lv_sub hl [0, 1, 2] rfl)
                      · refine zr_ic (n := ((0 : Nat) : Int)) hx hb dX3_settle_256 ?_
                        refine lv_goto (tgt := 266) hx hb dX3_settle_257 (by decide) ?_
                        refine zr_topi (show ((0 : Nat) : Int) = (zShare n (zLeft (zWo n b) rc E n)) from qSh1 (by omega)) ?_
                        exact JJ   _ _ hP hD hS _ (lv_sub hl [0, 1, 2] rfl)
                  · refine zr_ic (n := ((0 : Nat) : Int)) hx hb dX3_settle_188 ?_
                    refine lv_istore (lv' := [(4, .int (iI ((0 : Nat) : Int))), (0, .ref S), (1, .int (iI ((n : Nat) : Int))), (2, .ref q3), (3, .int (iI ((a : Nat) : Int)))]) hx hb dX3_settle_189 hl (by decide) rfl (fun ls hl => ?_)
                    have EC : ∀ (k0 : Nat) (c9 : Nat) (ev2 : Nat → Int), n - c9 < k0 → (hc9 : c9 ≤ n) → (he2 : ∀ k, k < n → ev2 k = if k < a then E k else if k = a then zMx (Dm a) c9 else 0) → ∀ (H : Heap) (locs : List Loc), va_P D vwCl ([(S, .inr (3, [.ref O, .int (iI (rc)), .ref u1, .ref q7, .ref q8, .int (iI (zWo n b)), .int (iI (zWy n b)), .int (iI (zWo n b - rc - zSum E a))])), (O, qOut cO n R), (u1, zArr cI n (fun k => (((zRo n b) k : Nat) : Int))), (q3, qOut cO n r4), (q7, zArr cI n ev2), (q8, zArr cI n (fun _ => 0))] ++ (qRw cI n n R (fun i j => b (i * 6 + j)) ++ qRw cI n n r4 Dm)) H → va_D A ([(S, .inr (3, [.ref O, .int (iI (rc)), .ref u1, .ref q7, .ref q8, .int (iI (zWo n b)), .int (iI (zWy n b)), .int (iI (zWo n b - rc - zSum E a))])), (O, qOut cO n R), (u1, zArr cI n (fun k => (((zRo n b) k : Nat) : Int))), (q3, qOut cO n r4), (q7, zArr cI n ev2), (q8, zArr cI n (fun _ => 0))] ++ (qRw cI n n R (fun i j => b (i * 6 + j)) ++ qRw cI n n r4 Dm)) → va_S A s.heap H locs → ∀ (ls : Array Slot), lv_has ls 6 [(0, .ref S), (1, .int (iI ((n : Nat) : Int))), (2, .ref q3), (3, .int (iI ((a : Nat) : Int))), (4, .int (iI ((c9 : Nat) : Int)))] → W p l e (qRm 3 77 250) s m args below meth c H locs 250 (8 * 250) (MQ below (va_Qq (S := Nat × Nat × Nat × (Nat → Int) × (Nat → Int)) (fun r u => r = some S ∧ (∀ k, k < n → u.2.2.2.1 k = E k) ∧ ∀ k, k < n → u.2.2.2.2 k = E k + zSh0 n b rc E) (fun u9 t9 => va_P D vwCl ((fun u => ([(S, .inr (3, [.ref O, .int (iI (rc)), .ref u.1, .ref u.2.1, .ref u.2.2.1, .int (iI (zWo n b)), .int (iI (zWy n b)), .int (iI (zPo0 n b rc E))])), (O, qOut cO n R), (u.1, zArr cI n (fun k => (((zRo n b) k : Nat) : Int))), (u.2.1, zArr cI n u.2.2.2.1), (u.2.2.1, zArr cI n u.2.2.2.2)] ++ qRw cI n n R (fun i j => b (i * 6 + j)))) u9) t9.heap ∧ va_D A ((fun u => ([(S, .inr (3, [.ref O, .int (iI (rc)), .ref u.1, .ref u.2.1, .ref u.2.2.1, .int (iI (zWo n b)), .int (iI (zWy n b)), .int (iI (zPo0 n b rc E))])), (O, qOut cO n R), (u.1, zArr cI n (fun k => (((zRo n b) k : Nat) : Int))), (u.2.1, zArr cI n u.2.2.2.1), (u.2.2.1, zArr cI n u.2.2.2.2)] ++ qRw cI n n R (fun i j => b (i * 6 + j)))) u9)) A) args s 250 (8 * 250) A) (F0 m 191 ls []) := by
                      intro k0
                      induction k0 with
                      | zero => intro c9 ev2 hk; exact absurd hk (Nat.not_lt_zero _)
                      | succ k0 ih_EC =>
                        intro c9 ev2 hk hc9 he2 H locs hP hD hS ls hl
                        refine lv_iload hx hb dX3_settle_191 (lv_at hl 4 rfl) ?_
                        refine lv_iload_n hx hb dX3_settle_193 rfl (lv_at hl 1 rfl) ?_
                        refine zr_icmp_ge (tgt := 224) hx hb dX3_settle_194 (by decide) (zB_of (by omega) (by omega)) (zB_of (by omega) (by omega)) (fun c13 => ?_) (fun c13 => ?_)
                        · refine lv_aload_n hx hb dX3_settle_224 rfl (lv_at hl 0 rfl) ?_
                          refine lv_dup hx hb dX3_settle_225 rfl ?_
                          refine va_get (D := D) (ci := 3) (v := .int (iI (zWo n b - rc - zSum E a))) (C := RX3) (T := TX3) (N := 8) hx hb hts (by decide +kernel) hown hK hP 0 rfl rfl 7 (by decide) (hts (.fieldLink RX3 65 "RentHarmonyLaw$Sim" "pot" "I") (by decide +kernel)) (fun _ h9 => h9) rfl dX3_settle_226 ?_
                          refine lv_aload_n hx hb dX3_settle_229 rfl (lv_at hl 0 rfl) ?_
                          refine va_get (D := D) (ci := 3) (v := .ref q7) (C := RX3) (T := TX3) (N := 8) hx hb hts (by decide +kernel) hown hK hP 0 rfl rfl 3 (by decide) (hts (.fieldLink RX3 56 "RentHarmonyLaw$Sim" "early" "[I") (by decide +kernel)) (fun _ h9 => h9) rfl dX3_settle_230 ?_
                          refine lv_iload_n hx hb dX3_settle_233 rfl (lv_at hl 3 rfl) ?_
                          refine zr_iald hx hb hK hP 4 0 rfl rfl (a) (by omega) (by omega) (by omega) dX3_settle_234 ?_
                          refine zr_sub hx hb dX3_settle_235 ?_
                          refine va_put (D := D) (ci := 3) (v := .int (iI ((zWo n b - rc - zSum E a) - (ev2 (a))))) (ty := .int) (C := RX3) (T := TX3) (N := 8) hx hb hts (by decide +kernel) tyX3 tyX3_ok nmX3 hown hK hP hD hS 0 rfl rfl 7 (by decide) (hts (.fieldLink RX3 65 "RentHarmonyLaw$Sim" "pot" "I") (by decide +kernel)) (fun _ h9 => h9) rfl (by decide +kernel) rfl rfl (Nat.le_of_ble_eq_true rfl) dX3_settle_236 (fun H locs hP hD hS => ?_)
                          have hP : va_P D vwCl ([(S, .inr (3, [.ref O, .int (iI (rc)), .ref u1, .ref q7, .ref q8, .int (iI (zWo n b)), .int (iI (zWy n b)), .int (iI ((zWo n b - rc - zSum E a) - (ev2 (a))))])), (O, qOut cO n R), (u1, zArr cI n (fun k => (((zRo n b) k : Nat) : Int))), (q3, qOut cO n r4), (q7, zArr cI n ev2), (q8, zArr cI n (fun _ => 0))] ++ (qRw cI n n R (fun i j => b (i * 6 + j)) ++ qRw cI n n r4 Dm)) _ := hP
                          have hD : va_D A ([(S, .inr (3, [.ref O, .int (iI (rc)), .ref u1, .ref q7, .ref q8, .int (iI (zWo n b)), .int (iI (zWy n b)), .int (iI ((zWo n b - rc - zSum E a) - (ev2 (a))))])), (O, qOut cO n R), (u1, zArr cI n (fun k => (((zRo n b) k : Nat) : Int))), (q3, qOut cO n r4), (q7, zArr cI n ev2), (q8, zArr cI n (fun _ => 0))] ++ (qRw cI n n R (fun i j => b (i * 6 + j)) ++ qRw cI n n r4 Dm)) := hD
                          refine zr_iinc (lv2 := [(3, .int (iI (((a : Nat) : Int) + 1))), (0, .ref S), (1, .int (iI ((n : Nat) : Int))), (2, .ref q3), (4, .int (iI ((c9 : Nat) : Int)))]) hx hb dX3_settle_239 hl (k0 := 3) rfl (by decide) rfl (fun ls hl => ?_)
                          have hl : lv_has ls 6 [(3, .int (iI ((a + 1 : Nat) : Int))), (0, .ref S), (1, .int (iI ((n : Nat) : Int))), (2, .ref q3), (4, .int (iI ((c9 : Nat) : Int)))] := hl
                          refine lv_goto (tgt := 183) hx hb dX3_settle_242 (by decide) ?_
                          have hz9 : zMx (Dm a) c9 = E a := by rw [show c9 = n by omega]; exact hEe a (by omega)
                          have hev9 : ev2 a = E a := by rw [he2 a (by omega), if_neg (Nat.lt_irrefl a), if_pos rfl]; exact hz9
                          have hpt : ((zWo n b - rc - zSum E a) - (ev2 (a))) = (zWo n b - rc - zSum E (a + 1)) := by show _ = zWo n b - rc - (zSum E a + E a); rw [hev9]; omega
                          rw [hpt] at hP hD
                          have hP : va_P D vwCl ([(S, .inr (3, [.ref O, .int (iI (rc)), .ref u1, .ref q7, .ref q8, .int (iI (zWo n b)), .int (iI (zWy n b)), .int (iI (zWo n b - rc - zSum E (a + 1)))])), (O, qOut cO n R), (u1, zArr cI n (fun k => (((zRo n b) k : Nat) : Int))), (q3, qOut cO n r4), (q7, zArr cI n ev2), (q8, zArr cI n (fun _ => 0))] ++ (qRw cI n n R (fun i j => b (i * 6 + j)) ++ qRw cI n n r4 Dm)) _ := hP
                          have hD : va_D A ([(S, .inr (3, [.ref O, .int (iI (rc)), .ref u1, .ref q7, .ref q8, .int (iI (zWo n b)), .int (iI (zWy n b)), .int (iI (zWo n b - rc - zSum E (a + 1)))])), (O, qOut cO n R), (u1, zArr cI n (fun k => (((zRo n b) k : Nat) : Int))), (q3, qOut cO n r4), (q7, zArr cI n ev2), (q8, zArr cI n (fun _ => 0))] ++ (qRw cI n n R (fun i j => b (i * 6 + j)) ++ qRw cI n n r4 Dm)) := hD
                          exact ih_EA (a + 1) (ev2) (by omega) (by omega) (fun k hk => by rw [he2 k hk]; by_cases q : k < a; rw [if_pos q, if_pos (by omega)]; rw [if_neg q]; by_cases q2 : k = a; rw [if_pos q2, if_pos (by omega), q2]; exact hz9; rw [if_neg q2, if_neg (by omega)]) _ _ hP hD hS _ (lv_sub hl [1, 2, 3, 0] rfl)
                        · refine lv_aload_n hx hb dX3_settle_197 rfl (lv_at hl 0 rfl) ?_
                          refine va_get (D := D) (ci := 3) (v := .ref q7) (C := RX3) (T := TX3) (N := 8) hx hb hts (by decide +kernel) hown hK hP 0 rfl rfl 3 (by decide) (hts (.fieldLink RX3 56 "RentHarmonyLaw$Sim" "early" "[I") (by decide +kernel)) (fun _ h9 => h9) rfl dX3_settle_198 ?_
                          refine lv_iload_n hx hb dX3_settle_201 rfl (lv_at hl 3 rfl) ?_
                          refine lv_aload_n hx hb dX3_settle_202 rfl (lv_at hl 0 rfl) ?_
                          refine va_get (D := D) (ci := 3) (v := .ref q7) (C := RX3) (T := TX3) (N := 8) hx hb hts (by decide +kernel) hown hK hP 0 rfl rfl 3 (by decide) (hts (.fieldLink RX3 56 "RentHarmonyLaw$Sim" "early" "[I") (by decide +kernel)) (fun _ h9 => h9) rfl dX3_settle_203 ?_
                          refine lv_iload_n hx hb dX3_settle_206 rfl (lv_at hl 3 rfl) ?_
                          refine zr_iald hx hb hK hP 4 0 rfl rfl (a) (by omega) (by omega) (by omega) dX3_settle_207 ?_
                          refine lv_aload_n hx hb dX3_settle_208 rfl (lv_at hl 2 rfl) ?_
                          refine lv_iload_n hx hb dX3_settle_209 rfl (lv_at hl 3 rfl) ?_
                          refine zq_ald hx hb hK hP 3 1 rfl rfl (a) (by omega) (by omega) (by omega) dX3_settle_210 ?_
                          refine lv_iload hx hb dX3_settle_211 (lv_at hl 4 rfl) ?_
                          refine zq_rld (f := Dm a) hx hb hK hP 0 (List.mem_append_right _ (List.mem_append_right _ (qRw_mem (by omega)))) rfl (c9) (by omega) (by omega) (by omega) dX3_settle_213 ?_
                          have hev : ev2 a = zMx (Dm a) c9 := by rw [he2 a (by omega), if_neg (Nat.lt_irrefl a), if_pos rfl]
                          have hm1 := zMx_b (f := Dm a) (M := 5994) (by decide) c9 (fun i hi => (hCb9 a i (by omega) (by omega)).2)
                          have hm2 := hCb9 a c9 (by omega) (by omega)
                          refine zr_max (rest := [.int (iI ((a : Nat) : Int)), .ref q7]) hx hb (hml.trans hl.1.symm) hown (hts (.methodLink RX3 50 Lib.Math.max.name) (by decide +kernel)) (hts (.static Lib.Math.max.name) (by decide +kernel)) (hts (.initialized "java/lang/Math") (by decide +kernel)) (hts (.code Lib.Math.max.name Lib.Math.max.code 2 (some .int)) (by decide +kernel)) (Nat.le_of_ble_eq_true rfl) (Nat.le_of_ble_eq_true rfl) (Nat.le_of_ble_eq_true rfl) (show 8 * (250) ≤ 8 * 250 by omega) (zB_of (by omega) (by omega)) (zB_of (by omega) (by omega)) dX3_settle_214 ?_
                          refine zr_iast hx hb hK hP hD hS 4 0 rfl rfl (a) (by omega) (by omega) (by omega) dX3_settle_217 (fun H locs hP hD hS => ?_)
                          have hP : va_P D vwCl ([(S, .inr (3, [.ref O, .int (iI (rc)), .ref u1, .ref q7, .ref q8, .int (iI (zWo n b)), .int (iI (zWy n b)), .int (iI (zWo n b - rc - zSum E a))])), (O, qOut cO n R), (u1, zArr cI n (fun k => (((zRo n b) k : Nat) : Int))), (q3, qOut cO n r4), (q7, zArr cI n (uZ ev2 (a) (max (ev2 (a)) (Dm a c9)))), (q8, zArr cI n (fun _ => 0))] ++ (qRw cI n n R (fun i j => b (i * 6 + j)) ++ qRw cI n n r4 Dm)) _ := hP
                          have hD : va_D A ([(S, .inr (3, [.ref O, .int (iI (rc)), .ref u1, .ref q7, .ref q8, .int (iI (zWo n b)), .int (iI (zWy n b)), .int (iI (zWo n b - rc - zSum E a))])), (O, qOut cO n R), (u1, zArr cI n (fun k => (((zRo n b) k : Nat) : Int))), (q3, qOut cO n r4), (q7, zArr cI n (uZ ev2 (a) (max (ev2 (a)) (Dm a c9)))), (q8, zArr cI n (fun _ => 0))] ++ (qRw cI n n R (fun i j => b (i * 6 + j)) ++ qRw cI n n r4 Dm)) := hD
                          refine zr_iinc (lv2 := [(4, .int (iI (((c9 : Nat) : Int) + 1))), (0, .ref S), (1, .int (iI ((n : Nat) : Int))), (2, .ref q3), (3, .int (iI ((a : Nat) : Int)))]) hx hb dX3_settle_218 hl (k0 := 4) rfl (by decide) rfl (fun ls hl => ?_)
                          have hl : lv_has ls 6 [(4, .int (iI ((c9 + 1 : Nat) : Int))), (0, .ref S), (1, .int (iI ((n : Nat) : Int))), (2, .ref q3), (3, .int (iI ((a : Nat) : Int)))] := hl
                          refine lv_goto (tgt := 191) hx hb dX3_settle_221 (by decide) ?_
                          exact ih_EC (c9 + 1) ((uZ ev2 (a) (max (ev2 (a)) (Dm a c9)))) (by omega) (by omega) (fun k hk => by by_cases q : k = a; rw [q, uZ_s, if_neg (Nat.lt_irrefl a), if_pos rfl, hev]; rfl; rw [uZ_n _ _ q, he2 k hk, if_neg q, if_neg q]) _ _ hP hD hS _ (lv_sub hl [1, 2, 3, 4, 0] rfl)
                    exact EC (n - (0) + 1) (0) (ev) (Nat.lt_succ_self _) (by omega) (fun k hk => by rw [he k hk]; by_cases q : k < a; rw [if_pos q, if_pos q]; rw [if_neg q, if_neg q]; show (0 : Int) = if k = a then (0 : Int) else 0; split <;> rfl) _ _ hP hD hS _ (lv_sub hl [1, 2, 3, 4, 0] rfl)
              have hpt : ((zWo n b) - rc) = (zWo n b - rc - zSum E 0) := by show _ = zWo n b - rc - 0; omega
              rw [hpt] at hP hD
              have hP : va_P D vwCl ([(S, .inr (3, [.ref O, .int (iI (rc)), .ref u1, .ref q7, .ref q8, .int (iI (zWo n b)), .int (iI (zWy n b)), .int (iI (zWo n b - rc - zSum E 0))])), (O, qOut cO n R), (u1, zArr cI n (fun k => (((zRo n b) k : Nat) : Int))), (q3, qOut cO n r4), (q7, zArr cI n (fun _ => 0)), (q8, zArr cI n (fun _ => 0))] ++ (qRw cI n n R (fun i j => b (i * 6 + j)) ++ qRw cI n n r4 Dm)) _ := hP
              have hD : va_D A ([(S, .inr (3, [.ref O, .int (iI (rc)), .ref u1, .ref q7, .ref q8, .int (iI (zWo n b)), .int (iI (zWy n b)), .int (iI (zWo n b - rc - zSum E 0))])), (O, qOut cO n R), (u1, zArr cI n (fun k => (((zRo n b) k : Nat) : Int))), (q3, qOut cO n r4), (q7, zArr cI n (fun _ => 0)), (q8, zArr cI n (fun _ => 0))] ++ (qRw cI n n R (fun i j => b (i * 6 + j)) ++ qRw cI n n r4 Dm)) := hD
              exact EA (n - (0) + 1) (0) ((fun _ => 0)) (Nat.lt_succ_self _) (by omega) (fun k hk => by rw [if_neg (Nat.not_lt_zero _)]) _ _ hP hD hS _ (lv_sub hl [1, 2, 3, 0] rfl)
            · refine zr_ic (n := ((0 : Nat) : Int)) hx hb dX3_settle_88 ?_
              refine lv_istore (lv' := [(4, .int (iI ((0 : Nat) : Int))), (0, .ref S), (1, .int (iI ((n : Nat) : Int))), (2, .ref q3), (3, .int (iI ((mm : Nat) : Int)))]) hx hb dX3_settle_89 hl (by decide) rfl (fun ls hl => ?_)
              have MA : ∀ (k0 : Nat) (a : Nat) (G : Nat → Nat → Int), n - a < k0 → (ha : a ≤ n) → (hG : qFi n mm Dm G a 0) → ∀ (H : Heap) (locs : List Loc), va_P D vwCl ([(S, .inr (3, [.ref O, .int (iI (rc)), .ref u1, ve, vb, .int (iI (zWo n b)), .int (iI (zWy n b)), .int (iI (pv))])), (O, qOut cO n R), (u1, zArr cI n (fun k => (((zRo n b) k : Nat) : Int))), (q3, qOut cO n r4)] ++ (qRw cI n n R (fun i j => b (i * 6 + j)) ++ qRw cI n n r4 G)) H → va_D A ([(S, .inr (3, [.ref O, .int (iI (rc)), .ref u1, ve, vb, .int (iI (zWo n b)), .int (iI (zWy n b)), .int (iI (pv))])), (O, qOut cO n R), (u1, zArr cI n (fun k => (((zRo n b) k : Nat) : Int))), (q3, qOut cO n r4)] ++ (qRw cI n n R (fun i j => b (i * 6 + j)) ++ qRw cI n n r4 G)) → va_S A s.heap H locs → ∀ (ls : Array Slot), lv_has ls 6 [(0, .ref S), (1, .int (iI ((n : Nat) : Int))), (2, .ref q3), (3, .int (iI ((mm : Nat) : Int))), (4, .int (iI ((a : Nat) : Int)))] → W p l e (qRm 3 77 250) s m args below meth c H locs 248 (8 * 248) (MQ below (va_Qq (S := Nat × Nat × Nat × (Nat → Int) × (Nat → Int)) (fun r u => r = some S ∧ (∀ k, k < n → u.2.2.2.1 k = E k) ∧ ∀ k, k < n → u.2.2.2.2 k = E k + zSh0 n b rc E) (fun u9 t9 => va_P D vwCl ((fun u => ([(S, .inr (3, [.ref O, .int (iI (rc)), .ref u.1, .ref u.2.1, .ref u.2.2.1, .int (iI (zWo n b)), .int (iI (zWy n b)), .int (iI (zPo0 n b rc E))])), (O, qOut cO n R), (u.1, zArr cI n (fun k => (((zRo n b) k : Nat) : Int))), (u.2.1, zArr cI n u.2.2.2.1), (u.2.2.1, zArr cI n u.2.2.2.2)] ++ qRw cI n n R (fun i j => b (i * 6 + j)))) u9) t9.heap ∧ va_D A ((fun u => ([(S, .inr (3, [.ref O, .int (iI (rc)), .ref u.1, .ref u.2.1, .ref u.2.2.1, .int (iI (zWo n b)), .int (iI (zWy n b)), .int (iI (zPo0 n b rc E))])), (O, qOut cO n R), (u.1, zArr cI n (fun k => (((zRo n b) k : Nat) : Int))), (u.2.1, zArr cI n u.2.2.2.1), (u.2.2.1, zArr cI n u.2.2.2.2)] ++ qRw cI n n R (fun i j => b (i * 6 + j)))) u9)) A) args s 250 (8 * 250) A) (F0 m 91 ls []) := by
                intro k0
                induction k0 with
                | zero => intro a G hk; exact absurd hk (Nat.not_lt_zero _)
                | succ k0 ih_MA =>
                  intro a G hk ha hG H locs hP hD hS ls hl
                  refine lv_iload hx hb dX3_settle_91 (lv_at hl 4 rfl) ?_
                  refine lv_iload_n hx hb dX3_settle_93 rfl (lv_at hl 1 rfl) ?_
                  refine zr_icmp_ge (tgt := 148) hx hb dX3_settle_94 (by decide) (zB_of (by omega) (by omega)) (zB_of (by omega) (by omega)) (fun c14 => ?_) (fun c14 => ?_)
                  · refine zr_iinc (lv2 := [(3, .int (iI (((mm : Nat) : Int) + 1))), (0, .ref S), (1, .int (iI ((n : Nat) : Int))), (2, .ref q3), (4, .int (iI ((a : Nat) : Int)))]) hx hb dX3_settle_148 hl (k0 := 3) rfl (by decide) rfl (fun ls hl => ?_)
                    have hl : lv_has ls 6 [(3, .int (iI ((mm + 1 : Nat) : Int))), (0, .ref S), (1, .int (iI ((n : Nat) : Int))), (2, .ref q3), (4, .int (iI ((a : Nat) : Int)))] := hl
                    refine lv_goto (tgt := 83) hx hb dX3_settle_151 (by decide) ?_
                    exact ih_MM (mm + 1) (G) (by omega) (by omega) (qCl_s (by omega) hC (qFi_end (by omega) hG)) _ _ hP hD hS _ (lv_sub hl [1, 2, 3, 0] rfl)
                  · refine zr_ic (n := ((0 : Nat) : Int)) hx hb dX3_settle_97 ?_
                    refine lv_istore (lv' := [(5, .int (iI ((0 : Nat) : Int))), (0, .ref S), (1, .int (iI ((n : Nat) : Int))), (2, .ref q3), (3, .int (iI ((mm : Nat) : Int))), (4, .int (iI ((a : Nat) : Int)))]) hx hb dX3_settle_98 hl (by decide) rfl (fun ls hl => ?_)
                    have MC : ∀ (k0 : Nat) (c9 : Nat) (G1 : Nat → Nat → Int), n - c9 < k0 → (hc9 : c9 ≤ n) → (hG1 : qFi n mm Dm G1 a c9) → ∀ (H : Heap) (locs : List Loc), va_P D vwCl ([(S, .inr (3, [.ref O, .int (iI (rc)), .ref u1, ve, vb, .int (iI (zWo n b)), .int (iI (zWy n b)), .int (iI (pv))])), (O, qOut cO n R), (u1, zArr cI n (fun k => (((zRo n b) k : Nat) : Int))), (q3, qOut cO n r4)] ++ (qRw cI n n R (fun i j => b (i * 6 + j)) ++ qRw cI n n r4 G1)) H → va_D A ([(S, .inr (3, [.ref O, .int (iI (rc)), .ref u1, ve, vb, .int (iI (zWo n b)), .int (iI (zWy n b)), .int (iI (pv))])), (O, qOut cO n R), (u1, zArr cI n (fun k => (((zRo n b) k : Nat) : Int))), (q3, qOut cO n r4)] ++ (qRw cI n n R (fun i j => b (i * 6 + j)) ++ qRw cI n n r4 G1)) → va_S A s.heap H locs → ∀ (ls : Array Slot), lv_has ls 6 [(0, .ref S), (1, .int (iI ((n : Nat) : Int))), (2, .ref q3), (3, .int (iI ((mm : Nat) : Int))), (4, .int (iI ((a : Nat) : Int))), (5, .int (iI ((c9 : Nat) : Int)))] → W p l e (qRm 3 77 250) s m args below meth c H locs 248 (8 * 248) (MQ below (va_Qq (S := Nat × Nat × Nat × (Nat → Int) × (Nat → Int)) (fun r u => r = some S ∧ (∀ k, k < n → u.2.2.2.1 k = E k) ∧ ∀ k, k < n → u.2.2.2.2 k = E k + zSh0 n b rc E) (fun u9 t9 => va_P D vwCl ((fun u => ([(S, .inr (3, [.ref O, .int (iI (rc)), .ref u.1, .ref u.2.1, .ref u.2.2.1, .int (iI (zWo n b)), .int (iI (zWy n b)), .int (iI (zPo0 n b rc E))])), (O, qOut cO n R), (u.1, zArr cI n (fun k => (((zRo n b) k : Nat) : Int))), (u.2.1, zArr cI n u.2.2.2.1), (u.2.2.1, zArr cI n u.2.2.2.2)] ++ qRw cI n n R (fun i j => b (i * 6 + j)))) u9) t9.heap ∧ va_D A ((fun u => ([(S, .inr (3, [.ref O, .int (iI (rc)), .ref u.1, .ref u.2.1, .ref u.2.2.1, .int (iI (zWo n b)), .int (iI (zWy n b)), .int (iI (zPo0 n b rc E))])), (O, qOut cO n R), (u.1, zArr cI n (fun k => (((zRo n b) k : Nat) : Int))), (u.2.1, zArr cI n u.2.2.2.1), (u.2.2.1, zArr cI n u.2.2.2.2)] ++ qRw cI n n R (fun i j => b (i * 6 + j)))) u9)) A) args s 250 (8 * 250) A) (F0 m 100 ls []) := by
                      intro k0
                      induction k0 with
                      | zero => intro c9 G1 hk; exact absurd hk (Nat.not_lt_zero _)
                      | succ k0 ih_MC =>
                        intro c9 G1 hk hc9 hG1 H locs hP hD hS ls hl
                        refine lv_iload hx hb dX3_settle_100 (lv_at hl 5 rfl) ?_
                        refine lv_iload_n hx hb dX3_settle_102 rfl (lv_at hl 1 rfl) ?_
                        refine zr_icmp_ge (tgt := 142) hx hb dX3_settle_103 (by decide) (zB_of (by omega) (by omega)) (zB_of (by omega) (by omega)) (fun c15 => ?_) (fun c15 => ?_)
                        · refine zr_iinc (lv2 := [(4, .int (iI (((a : Nat) : Int) + 1))), (0, .ref S), (1, .int (iI ((n : Nat) : Int))), (2, .ref q3), (3, .int (iI ((mm : Nat) : Int))), (5, .int (iI ((c9 : Nat) : Int)))]) hx hb dX3_settle_142 hl (k0 := 4) rfl (by decide) rfl (fun ls hl => ?_)
                          have hl : lv_has ls 6 [(4, .int (iI ((a + 1 : Nat) : Int))), (0, .ref S), (1, .int (iI ((n : Nat) : Int))), (2, .ref q3), (3, .int (iI ((mm : Nat) : Int))), (5, .int (iI ((c9 : Nat) : Int)))] := hl
                          refine lv_goto (tgt := 91) hx hb dX3_settle_145 (by decide) ?_
                          exact ih_MA (a + 1) (G1) (by omega) (by omega) (qFi_row (by omega) hG1) _ _ hP hD hS _ (lv_sub hl [1, 2, 3, 4, 0] rfl)
                        · refine lv_aload_n hx hb dX3_settle_106 rfl (lv_at hl 2 rfl) ?_
                          refine lv_iload hx hb dX3_settle_107 (lv_at hl 4 rfl) ?_
                          refine zq_ald hx hb hK hP 3 1 rfl rfl (a) (by omega) (by omega) (by omega) dX3_settle_109 ?_
                          refine lv_iload hx hb dX3_settle_110 (lv_at hl 5 rfl) ?_
                          refine lv_aload_n hx hb dX3_settle_112 rfl (lv_at hl 2 rfl) ?_
                          refine lv_iload hx hb dX3_settle_113 (lv_at hl 4 rfl) ?_
                          refine zq_ald hx hb hK hP 3 1 rfl rfl (a) (by omega) (by omega) (by omega) dX3_settle_115 ?_
                          refine lv_iload hx hb dX3_settle_116 (lv_at hl 5 rfl) ?_
                          refine zq_rld (f := G1 a) hx hb hK hP 0 (List.mem_append_right _ (List.mem_append_right _ (qRw_mem (by omega)))) rfl (c9) (by omega) (by omega) (by omega) dX3_settle_118 ?_
                          refine lv_aload_n hx hb dX3_settle_119 rfl (lv_at hl 2 rfl) ?_
                          refine lv_iload hx hb dX3_settle_120 (lv_at hl 4 rfl) ?_
                          refine zq_ald hx hb hK hP 3 1 rfl rfl (a) (by omega) (by omega) (by omega) dX3_settle_122 ?_
                          refine lv_iload_n hx hb dX3_settle_123 rfl (lv_at hl 3 rfl) ?_
                          refine zq_rld (f := G1 a) hx hb hK hP 0 (List.mem_append_right _ (List.mem_append_right _ (qRw_mem (by omega)))) rfl (mm) (by omega) (by omega) (by omega) dX3_settle_124 ?_
                          refine lv_aload_n hx hb dX3_settle_125 rfl (lv_at hl 2 rfl) ?_
                          refine lv_iload_n hx hb dX3_settle_126 rfl (lv_at hl 3 rfl) ?_
                          refine zq_ald hx hb hK hP 3 1 rfl rfl (mm) (by omega) (by omega) (by omega) dX3_settle_127 ?_
                          refine lv_iload hx hb dX3_settle_128 (lv_at hl 5 rfl) ?_
                          refine zq_rld (f := G1 mm) hx hb hK hP 0 (List.mem_append_right _ (List.mem_append_right _ (qRw_mem (by omega)))) rfl (c9) (by omega) (by omega) (by omega) dX3_settle_130 ?_
                          refine zr_add hx hb dX3_settle_131 ?_
                          obtain ⟨f1, f2, f3⟩ := qFi_at (by omega) (qCl_mm (by omega) hC) (by omega) (by omega) hG1
                          have hb16 := qCb hb0 hE2 hC a c9 (by omega) (by omega)
                          have hb17 := qCb hb0 hE2 hC a mm (by omega) (by omega)
                          have hb18 := qCb hb0 hE2 hC mm c9 (by omega) (by omega)
                          refine zr_max (rest := [.int (iI ((c9 : Nat) : Int)), .ref (r4 a)]) hx hb (hml.trans hl.1.symm) hown (hts (.methodLink RX3 50 Lib.Math.max.name) (by decide +kernel)) (hts (.static Lib.Math.max.name) (by decide +kernel)) (hts (.initialized "java/lang/Math") (by decide +kernel)) (hts (.code Lib.Math.max.name Lib.Math.max.code 2 (some .int)) (by decide +kernel)) (Nat.le_of_ble_eq_true rfl) (Nat.le_of_ble_eq_true rfl) (Nat.le_of_ble_eq_true rfl) (show 8 * (248) ≤ 8 * 250 by omega) (zB_of (by omega) (by omega)) (zB_of (by omega) (by omega)) dX3_settle_132 ?_
                          refine zq_rst2 hx hb hK hP hD hS 0 rfl (a) (by omega) (c9) (by omega) (by omega) (by omega) dX3_settle_135 (fun H locs hP hD hS => ?_)
                          have hP : va_P D vwCl ([(S, .inr (3, [.ref O, .int (iI (rc)), .ref u1, ve, vb, .int (iI (zWo n b)), .int (iI (zWy n b)), .int (iI (pv))])), (O, qOut cO n R), (u1, zArr cI n (fun k => (((zRo n b) k : Nat) : Int))), (q3, qOut cO n r4)] ++ (qRw cI n n R (fun i j => b (i * 6 + j)) ++ qRw cI n n r4 (u2 G1 a c9 (max (G1 a c9) ((G1 a mm) + (G1 mm c9)))))) _ := hP
                          have hD : va_D A ([(S, .inr (3, [.ref O, .int (iI (rc)), .ref u1, ve, vb, .int (iI (zWo n b)), .int (iI (zWy n b)), .int (iI (pv))])), (O, qOut cO n R), (u1, zArr cI n (fun k => (((zRo n b) k : Nat) : Int))), (q3, qOut cO n r4)] ++ (qRw cI n n R (fun i j => b (i * 6 + j)) ++ qRw cI n n r4 (u2 G1 a c9 (max (G1 a c9) ((G1 a mm) + (G1 mm c9)))))) := hD
                          refine zr_iinc (lv2 := [(5, .int (iI (((c9 : Nat) : Int) + 1))), (0, .ref S), (1, .int (iI ((n : Nat) : Int))), (2, .ref q3), (3, .int (iI ((mm : Nat) : Int))), (4, .int (iI ((a : Nat) : Int)))]) hx hb dX3_settle_136 hl (k0 := 5) rfl (by decide) rfl (fun ls hl => ?_)
                          have hl : lv_has ls 6 [(5, .int (iI ((c9 + 1 : Nat) : Int))), (0, .ref S), (1, .int (iI ((n : Nat) : Int))), (2, .ref q3), (3, .int (iI ((mm : Nat) : Int))), (4, .int (iI ((a : Nat) : Int)))] := hl
                          refine lv_goto (tgt := 100) hx hb dX3_settle_139 (by decide) ?_
                          exact ih_MC (c9 + 1) ((u2 G1 a c9 (max (G1 a c9) ((G1 a mm) + (G1 mm c9))))) (by omega) (by omega) (qFi_s (by omega) (qCl_mm (by omega) hC) (by omega) (by omega) hG1) _ _ hP hD hS _ (lv_sub hl [1, 2, 3, 4, 5, 0] rfl)
                    exact MC (n - (0) + 1) (0) (G) (Nat.lt_succ_self _) (by omega) hG _ _ hP hD hS _ (lv_sub hl [1, 2, 3, 4, 5, 0] rfl)
              exact MA (n - (0) + 1) (0) (Dm) (Nat.lt_succ_self _) (by omega) qFi_start _ _ hP hD hS _ (lv_sub hl [1, 2, 3, 4, 0] rfl)
        exact MM (n - (0) + 1) (0) (F) (Nat.lt_succ_self _) (by omega) (qCl_0 (fun a _ => by unfold zWt; omega) hfix (fun a c9 ha hc => hF a c9 ha hc (by omega))) _ _ hP hD hS _ (lv_sub hl [1, 2, 3, 0] rfl)
      · refine zr_ic (n := ((0 : Nat) : Int)) hx hb dX3_settle_24 ?_
        refine lv_istore (lv' := [(4, .int (iI ((0 : Nat) : Int))), (0, .ref S), (1, .int (iI ((n : Nat) : Int))), (2, .ref q3), (3, .int (iI ((i : Nat) : Int)))]) hx hb dX3_settle_25 hl (by decide) rfl (fun ls hl => ?_)
        have SFj : ∀ (k0 : Nat) (j : Nat) (F1 : Nat → Nat → Int), n - j < k0 → (hj : j ≤ n) → (hF1 : ∀ a c9, a < n → c9 < n → (a < i ∨ (a = i ∧ c9 < j)) → F1 a c9 = zWt b (zRo n b) a c9) → ∀ (H : Heap) (locs : List Loc), va_P D vwCl ([(S, .inr (3, [.ref O, .int (iI (rc)), .ref u1, ve, vb, .int (iI (zWo n b)), .int (iI (zWy n b)), .int (iI (pv))])), (O, qOut cO n R), (u1, zArr cI n (fun k => (((zRo n b) k : Nat) : Int))), (q3, qOut cO n r4)] ++ (qRw cI n n R (fun i j => b (i * 6 + j)) ++ qRw cI n n r4 F1)) H → va_D A ([(S, .inr (3, [.ref O, .int (iI (rc)), .ref u1, ve, vb, .int (iI (zWo n b)), .int (iI (zWy n b)), .int (iI (pv))])), (O, qOut cO n R), (u1, zArr cI n (fun k => (((zRo n b) k : Nat) : Int))), (q3, qOut cO n r4)] ++ (qRw cI n n R (fun i j => b (i * 6 + j)) ++ qRw cI n n r4 F1)) → va_S A s.heap H locs → ∀ (ls : Array Slot), lv_has ls 6 [(0, .ref S), (1, .int (iI ((n : Nat) : Int))), (2, .ref q3), (3, .int (iI ((i : Nat) : Int))), (4, .int (iI ((j : Nat) : Int)))] → W p l e (qRm 3 77 250) s m args below meth c H locs 248 (8 * 248) (MQ below (va_Qq (S := Nat × Nat × Nat × (Nat → Int) × (Nat → Int)) (fun r u => r = some S ∧ (∀ k, k < n → u.2.2.2.1 k = E k) ∧ ∀ k, k < n → u.2.2.2.2 k = E k + zSh0 n b rc E) (fun u9 t9 => va_P D vwCl ((fun u => ([(S, .inr (3, [.ref O, .int (iI (rc)), .ref u.1, .ref u.2.1, .ref u.2.2.1, .int (iI (zWo n b)), .int (iI (zWy n b)), .int (iI (zPo0 n b rc E))])), (O, qOut cO n R), (u.1, zArr cI n (fun k => (((zRo n b) k : Nat) : Int))), (u.2.1, zArr cI n u.2.2.2.1), (u.2.2.1, zArr cI n u.2.2.2.2)] ++ qRw cI n n R (fun i j => b (i * 6 + j)))) u9) t9.heap ∧ va_D A ((fun u => ([(S, .inr (3, [.ref O, .int (iI (rc)), .ref u.1, .ref u.2.1, .ref u.2.2.1, .int (iI (zWo n b)), .int (iI (zWy n b)), .int (iI (zPo0 n b rc E))])), (O, qOut cO n R), (u.1, zArr cI n (fun k => (((zRo n b) k : Nat) : Int))), (u.2.1, zArr cI n u.2.2.2.1), (u.2.2.1, zArr cI n u.2.2.2.2)] ++ qRw cI n n R (fun i j => b (i * 6 + j)))) u9)) A) args s 250 (8 * 250) A) (F0 m 27 ls []) := by
          intro k0
          induction k0 with
          | zero => intro j F1 hk; exact absurd hk (Nat.not_lt_zero _)
          | succ k0 ih_SFj =>
            intro j F1 hk hj hF1 H locs hP hD hS ls hl
            refine lv_iload hx hb dX3_settle_27 (lv_at hl 4 rfl) ?_
            refine lv_iload_n hx hb dX3_settle_29 rfl (lv_at hl 1 rfl) ?_
            refine zr_icmp_ge (tgt := 75) hx hb dX3_settle_30 (by decide) (zB_of (by omega) (by omega)) (zB_of (by omega) (by omega)) (fun c19 => ?_) (fun c19 => ?_)
            · refine zr_iinc (lv2 := [(3, .int (iI (((i : Nat) : Int) + 1))), (0, .ref S), (1, .int (iI ((n : Nat) : Int))), (2, .ref q3), (4, .int (iI ((j : Nat) : Int)))]) hx hb dX3_settle_75 hl (k0 := 3) rfl (by decide) rfl (fun ls hl => ?_)
              have hl : lv_has ls 6 [(3, .int (iI ((i + 1 : Nat) : Int))), (0, .ref S), (1, .int (iI ((n : Nat) : Int))), (2, .ref q3), (4, .int (iI ((j : Nat) : Int)))] := hl
              refine lv_goto (tgt := 19) hx hb dX3_settle_78 (by decide) ?_
              exact ih_SFi (i + 1) (F1) (by omega) (by omega) (fun a c9 ha hc h9 => hF1 a c9 ha hc (by omega)) _ _ hP hD hS _ (lv_sub hl [1, 2, 3, 0] rfl)
            · refine lv_aload_n hx hb dX3_settle_33 rfl (lv_at hl 2 rfl) ?_
              refine lv_iload_n hx hb dX3_settle_34 rfl (lv_at hl 3 rfl) ?_
              refine zq_ald hx hb hK hP 3 1 rfl rfl (i) (by omega) (by omega) (by omega) dX3_settle_35 ?_
              refine lv_iload hx hb dX3_settle_36 (lv_at hl 4 rfl) ?_
              refine lv_aload_n hx hb dX3_settle_38 rfl (lv_at hl 0 rfl) ?_
              refine va_get (D := D) (ci := 3) (v := .ref O) (C := RX3) (T := TX3) (N := 8) hx hb hts (by decide +kernel) hown hK hP 0 rfl rfl 0 (by decide) (hts (.fieldLink RX3 9 "RentHarmonyLaw$Sim" "bids" "[[I") (by decide +kernel)) (fun _ h9 => h9) rfl dX3_settle_39 ?_
              refine lv_iload_n hx hb dX3_settle_42 rfl (lv_at hl 3 rfl) ?_
              refine zq_ald hx hb hK hP 1 1 rfl rfl (i) (by omega) (by omega) (by omega) dX3_settle_43 ?_
              refine lv_aload_n hx hb dX3_settle_44 rfl (lv_at hl 0 rfl) ?_
              refine va_get (D := D) (ci := 3) (v := .ref u1) (C := RX3) (T := TX3) (N := 8) hx hb hts (by decide +kernel) hown hK hP 0 rfl rfl 2 (by decide) (hts (.fieldLink RX3 39 "RentHarmonyLaw$Sim" "rooms" "[I") (by decide +kernel)) (fun _ h9 => h9) rfl dX3_settle_45 ?_
              refine lv_iload hx hb dX3_settle_48 (lv_at hl 4 rfl) ?_
              refine zr_iald hx hb hK hP 2 0 rfl rfl (j) (by omega) (by omega) (by omega) dX3_settle_50 ?_
              have hroj := hro j (by omega)
              refine zq_rld (f := (fun i j => b (i * 6 + j)) i) hx hb hK hP 0 (List.mem_append_right _ (List.mem_append_left _ (qRw_mem (by omega)))) rfl ((zRo n b) (j)) (by omega) (by omega) (by omega) dX3_settle_51 ?_
              refine zr_topi (show (fun i j => b (i * 6 + j)) i ((zRo n b) (j)) = (b (i * 6 + ((zRo n b) (j)))) from rfl) ?_
              have hb20 := hb0 (i * 6 + ((zRo n b) (j)))
              refine lv_aload_n hx hb dX3_settle_52 rfl (lv_at hl 0 rfl) ?_
              refine va_get (D := D) (ci := 3) (v := .ref O) (C := RX3) (T := TX3) (N := 8) hx hb hts (by decide +kernel) hown hK hP 0 rfl rfl 0 (by decide) (hts (.fieldLink RX3 9 "RentHarmonyLaw$Sim" "bids" "[[I") (by decide +kernel)) (fun _ h9 => h9) rfl dX3_settle_53 ?_
              refine lv_iload hx hb dX3_settle_56 (lv_at hl 4 rfl) ?_
              refine zq_ald hx hb hK hP 1 1 rfl rfl (j) (by omega) (by omega) (by omega) dX3_settle_58 ?_
              refine lv_aload_n hx hb dX3_settle_59 rfl (lv_at hl 0 rfl) ?_
              refine va_get (D := D) (ci := 3) (v := .ref u1) (C := RX3) (T := TX3) (N := 8) hx hb hts (by decide +kernel) hown hK hP 0 rfl rfl 2 (by decide) (hts (.fieldLink RX3 39 "RentHarmonyLaw$Sim" "rooms" "[I") (by decide +kernel)) (fun _ h9 => h9) rfl dX3_settle_60 ?_
              refine lv_iload hx hb dX3_settle_63 (lv_at hl 4 rfl) ?_
              refine zr_iald hx hb hK hP 2 0 rfl rfl (j) (by omega) (by omega) (by omega) dX3_settle_65 ?_
              refine zq_rld (f := (fun i j => b (i * 6 + j)) j) hx hb hK hP 0 (List.mem_append_right _ (List.mem_append_left _ (qRw_mem (by omega)))) rfl ((zRo n b) (j)) (by omega) (by omega) (by omega) dX3_settle_66 ?_
              refine zr_topi (show (fun i j => b (i * 6 + j)) j ((zRo n b) (j)) = (b (j * 6 + ((zRo n b) (j)))) from rfl) ?_
              have hb21 := hb0 (j * 6 + ((zRo n b) (j)))
              refine zr_sub hx hb dX3_settle_67 ?_
              refine zq_rst2 hx hb hK hP hD hS 0 rfl (i) (by omega) (j) (by omega) (by omega) (by omega) dX3_settle_68 (fun H locs hP hD hS => ?_)
              have hP : va_P D vwCl ([(S, .inr (3, [.ref O, .int (iI (rc)), .ref u1, ve, vb, .int (iI (zWo n b)), .int (iI (zWy n b)), .int (iI (pv))])), (O, qOut cO n R), (u1, zArr cI n (fun k => (((zRo n b) k : Nat) : Int))), (q3, qOut cO n r4)] ++ (qRw cI n n R (fun i j => b (i * 6 + j)) ++ qRw cI n n r4 (u2 F1 i j ((b (i * 6 + ((zRo n b) (j)))) - (b (j * 6 + ((zRo n b) (j)))))))) _ := hP
              have hD : va_D A ([(S, .inr (3, [.ref O, .int (iI (rc)), .ref u1, ve, vb, .int (iI (zWo n b)), .int (iI (zWy n b)), .int (iI (pv))])), (O, qOut cO n R), (u1, zArr cI n (fun k => (((zRo n b) k : Nat) : Int))), (q3, qOut cO n r4)] ++ (qRw cI n n R (fun i j => b (i * 6 + j)) ++ qRw cI n n r4 (u2 F1 i j ((b (i * 6 + ((zRo n b) (j)))) - (b (j * 6 + ((zRo n b) (j)))))))) := hD
              refine zr_iinc (lv2 := [(4, .int (iI (((j : Nat) : Int) + 1))), (0, .ref S), (1, .int (iI ((n : Nat) : Int))), (2, .ref q3), (3, .int (iI ((i : Nat) : Int)))]) hx hb dX3_settle_69 hl (k0 := 4) rfl (by decide) rfl (fun ls hl => ?_)
              have hl : lv_has ls 6 [(4, .int (iI ((j + 1 : Nat) : Int))), (0, .ref S), (1, .int (iI ((n : Nat) : Int))), (2, .ref q3), (3, .int (iI ((i : Nat) : Int)))] := hl
              refine lv_goto (tgt := 27) hx hb dX3_settle_72 (by decide) ?_
              exact ih_SFj (j + 1) ((u2 F1 i j ((b (i * 6 + ((zRo n b) (j)))) - (b (j * 6 + ((zRo n b) (j))))))) (by omega) (by omega) (fun a c9 ha hc h9 => by by_cases q : a = i ∧ c9 = j; rw [q.1, q.2, u2_s]; rfl; rw [u2_n _ _ q]; exact hF1 a c9 ha hc (by omega)) _ _ hP hD hS _ (lv_sub hl [1, 2, 3, 4, 0] rfl)
        exact SFj (n - (0) + 1) (0) (F) (Nat.lt_succ_self _) (by omega) (fun a c9 ha hc h9 => hF a c9 ha hc (by omega)) _ _ hP hD hS _ (lv_sub hl [1, 2, 3, 4, 0] rfl)
  exact SFi (n - (0) + 1) (0) ((fun _ _ => 0)) (Nat.lt_succ_self _) (by omega) (fun a c9 _ _ h9 => absurd h9 (Nat.not_lt_zero _)) _ _ hP hD hS _ (lv_sub hl [3, 2, 1, 0] rfl)
