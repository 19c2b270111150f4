/-! p18: Sim: give, pays, envies, chain -/

set_option maxHeartbeats 8000000 in
set_option maxRecDepth 100000 in
/-- X3_give -/
theorem c_X3_give (l : Launch) (D : va_G) (cI cO : ClassId) (S O n : Nat) (R : Nat → Nat) (b : Nat → Int) (rc wv yv pv : Int) (vr ve vb : Value) (hn : n ≤ 5) (hb0 : ∀ k, 0 ≤ b k ∧ b k ≤ 999) (h1 : 1 ≤ n) (sz : Nat) : qQ (S := Nat) l yX3_give wsX3_give 2 55 241 D cI cO [.ref S] ([(S, .inr (3, [.ref O, .int (iI (rc)), vr, ve, vb, .int (iI (wv)), .int (iI (yv)), .int (iI (pv))])), (O, qOut cO n R)] ++ qRw cI n n R (fun i j => b (i * 6 + j))) sz (fun r _ => r = some S) (fun (u : Nat) => ([(S, .inr (3, [.ref O, .int (iI (rc)), .ref u, ve, vb, .int (iI (zWo n b)), .int (iI (zWy n b)), .int (iI (pv))])), (O, qOut cO n R), (u, zArr cI n (fun k => (((zRo n b) k : Nat) : Int)))] ++ qRw cI n n R (fun i j => b (i * 6 + j)))) := by
  refine qQ_of (cc := cX3_give) (maxL := 3) (rt := (.object "RentHarmonyLaw$Sim")) (by decide) rfl (Nat.le_of_ble_eq_true rfl) ?_
  intro p e s m args below meth c ls A hF hr hlocks hP hK hD hS hA hE hl
  have hF : zFix p m c cX3_give 3 s args wsX3_give RX3 := hF
  obtain ⟨hx, hb, hml, hown, hts⟩ := id hF
  have hP : va_P D vwCl ([(S, .inr (3, [.ref O, .int (iI (rc)), vr, ve, vb, .int (iI (wv)), .int (iI (yv)), .int (iI (pv))])), (O, qOut cO n R)] ++ qRw cI n n R (fun i j => b (i * 6 + j))) s.heap := hP
  have hD : va_D A ([(S, .inr (3, [.ref O, .int (iI (rc)), vr, ve, vb, .int (iI (wv)), .int (iI (yv)), .int (iI (pv))])), (O, qOut cO n R)] ++ qRw cI n n R (fun i j => b (i * 6 + j))) := hD
  have hl : lv_has ls 3 [(0, .ref S)] := hl
  refine lv_aload_n hx hb dX3_give_0 rfl (lv_at hl 0 rfl) ?_
  refine zr_ic (n := -1) hx hb dX3_give_1 ?_
  refine va_put (D := D) (ci := 3) (v := .int (iI (-1))) (ty := .int) (C := RX3) (T := TX3) (N := 8) hx hb hts (by decide +kernel) tyX3 tyX3_ok nmX3 hown hK hP hD hS 0 rfl rfl 5 (by decide) (hts (.fieldLink RX3 24 "RentHarmonyLaw$Sim" "worth" "I") (by decide +kernel)) (fun _ h9 => h9) rfl (by decide +kernel) rfl rfl (Nat.le_of_ble_eq_true rfl) dX3_give_2 (fun H locs hP hD hS => ?_)
  have hP : va_P D vwCl ([(S, .inr (3, [.ref O, .int (iI (rc)), vr, ve, vb, .int (iI (-1)), .int (iI (yv)), .int (iI (pv))])), (O, qOut cO n R)] ++ qRw cI n n R (fun i j => b (i * 6 + j))) _ := hP
  have hD : va_D A ([(S, .inr (3, [.ref O, .int (iI (rc)), vr, ve, vb, .int (iI (-1)), .int (iI (yv)), .int (iI (pv))])), (O, qOut cO n R)] ++ qRw cI n n R (fun i j => b (i * 6 + j))) := hD
  refine lv_aload_n hx hb dX3_give_5 rfl (lv_at hl 0 rfl) ?_
  refine zc_qq (As := []) (rest := []) hF (c_X3_first l D cI cO S O n R rc (-1) yv pv vr ve vb (by omega) _) (cwV 0 hts gX3_give_X3_first rfl rfl rfl (by decide +kernel) ⟨Nat.le_of_ble_eq_true rfl, Nat.le_of_ble_eq_true rfl⟩) hK hE hS (qCut_no (Xc := [(S, .inr (3, [.ref O, .int (iI (rc)), vr, ve, vb, .int (iI (-1)), .int (iI (yv)), .int (iI (pv))])), (O, qOut cO n R)]) (Xr := []) hP hD hS hA [0, 1] [] rfl rfl (by decide) (by decide) (by decide) 2 rfl (by decide) (by decide)) 0 rfl rfl rfl rfl hl.1 rfl (Nat.le_of_ble_eq_true rfl) dX3_give_6 ⟨(show 0 + 1 ≤ 241 by omega), (show 8 * (0) + 8 * 1 ≤ 8 * 241 by omega)⟩ (fun r2 u1 H locs hw hP hD hS => ?_)
  obtain ⟨a3, f4⟩ := u1
  obtain ⟨rfl, hf5⟩ := hw
  have hf5 : ∀ k, k < n → f4 k = (k : Int) := hf5
  have hP : va_P D vwCl ([(S, .inr (3, [.ref O, .int (iI (rc)), vr, ve, vb, .int (iI (-1)), .int (iI (yv)), .int (iI (pv))])), (O, qOut cO n R), (a3, zArr cI n f4)] ++ qRw cI n n R (fun i j => b (i * 6 + j))) _ := hP
  have hD : va_D A ([(S, .inr (3, [.ref O, .int (iI (rc)), vr, ve, vb, .int (iI (-1)), .int (iI (yv)), .int (iI (pv))])), (O, qOut cO n R), (a3, zArr cI n f4)] ++ qRw cI n n R (fun i j => b (i * 6 + j))) := hD
  have hP := z_ext (g := fun k => ((qL (List.range n) k : Nat) : Int)) hP 2 rfl (fun k hk => by rw [hf5 k hk, qL_range hk])
  have hD := hD.set (p := 2) (e := zArr cI n (fun k => ((qL (List.range n) k : Nat) : Int))) rfl
  have hP : va_P D vwCl ([(S, .inr (3, [.ref O, .int (iI (rc)), vr, ve, vb, .int (iI (-1)), .int (iI (yv)), .int (iI (pv))])), (O, qOut cO n R), (a3, zArr cI n (fun k => (((qL (List.range n)) k : Nat) : Int)))] ++ qRw cI n n R (fun i j => b (i * 6 + j))) _ := hP
  have hD : va_D A ([(S, .inr (3, [.ref O, .int (iI (rc)), vr, ve, vb, .int (iI (-1)), .int (iI (yv)), .int (iI (pv))])), (O, qOut cO n R), (a3, zArr cI n (fun k => (((qL (List.range n)) k : Nat) : Int)))] ++ qRw cI n n R (fun i j => b (i * 6 + j))) := hD
  refine lv_astore_n (lv' := [(1, .ref a3), (0, .ref S)]) hx hb dX3_give_9 rfl hl (by decide) rfl (fun ls hl => ?_)
  refine lv_aload_n hx hb dX3_give_10 rfl (lv_at hl 0 rfl) ?_
  refine lv_ifnull hx hb dX3_give_11 ?_
  refine lv_aload_n hx hb dX3_give_14 rfl (lv_at hl 1 rfl) ?_
  refine lv_aload_n hx hb dX3_give_15 rfl (lv_at hl 0 rfl) ?_
  have hgl := (qAll_at (by omega : n < 6) (qAll_0 (by omega : n < 6))).2
  have hsb := qX_b (n := n) hn hb0 (qL (List.range n))
  refine zc_riP (As := [.ref a3]) (rest := []) hF (c_X3_sum l D cI cO S O n R b rc (-1) yv pv vr ve vb a3 (qL (List.range n)) (by omega) (by assumption) hgl) (cwV 1 hts gX3_give_X3_sum rfl rfl rfl (by decide +kernel) ⟨Nat.le_of_ble_eq_true rfl, Nat.le_of_ble_eq_true rfl⟩) hK (qSub (Xc := [(S, .inr (3, [.ref O, .int (iI (rc)), vr, ve, vb, .int (iI (-1)), .int (iI (yv)), .int (iI (pv))])), (O, qOut cO n R), (a3, zArr cI n (fun k => (((qL (List.range n)) k : Nat) : Int)))]) hP [0, 1, 2] rfl) 0 rfl rfl rfl rfl hl.1 rfl (Nat.le_of_ble_eq_true rfl) dX3_give_16 ⟨(show 1 ≤ 241 by omega), (show 8 * (1) ≤ 8 * 241 by omega)⟩ ?_
  refine lv_istore_n (lv' := [(2, .int (iI (zSum (fun k => b (k * 6 + (qL (List.range n)) k)) n))), (1, .ref a3), (0, .ref S)]) hx hb dX3_give_19 rfl hl (by decide) rfl (fun ls hl => ?_)
  refine lv_iload_n hx hb dX3_give_20 rfl (lv_at hl 0 rfl) ?_
  refine lv_aload_n hx hb dX3_give_21 rfl (lv_at hl 2 rfl) ?_
  refine va_get (D := D) (ci := 3) (v := .int (iI (-1))) (C := RX3) (T := TX3) (N := 8) hx hb hts (by decide +kernel) hown hK hP 0 rfl rfl 5 (by decide) (hts (.fieldLink RX3 24 "RentHarmonyLaw$Sim" "worth" "I") (by decide +kernel)) (fun _ h9 => h9) rfl dX3_give_22 ?_
  refine zr_icmp_ne (tgt := 38) hx hb dX3_give_25 (by decide) (zB_of (by omega) (by omega)) (zB_of (by omega) (by omega)) (fun c6 => ?_) (fun c6 => ?_)
  · refine lv_iload_n hx hb dX3_give_38 rfl (lv_at hl 0 rfl) ?_
    refine lv_aload_n hx hb dX3_give_39 rfl (lv_at hl 2 rfl) ?_
    refine va_get (D := D) (ci := 3) (v := .int (iI (-1))) (C := RX3) (T := TX3) (N := 8) hx hb hts (by decide +kernel) hown hK hP 0 rfl rfl 5 (by decide) (hts (.fieldLink RX3 24 "RentHarmonyLaw$Sim" "worth" "I") (by decide +kernel)) (fun _ h9 => h9) rfl dX3_give_40 ?_
    refine zr_icmp_gt (tgt := 49) hx hb dX3_give_43 (by decide) (zB_of (by omega) (by omega)) (zB_of (by omega) (by omega)) (fun c7 => ?_) (fun c7 => ?_)
    · have hX1 : qX n b (0 + 1) = some (zSum (fun k => b (k * 6 + (qL (List.range n)) k)) n, 1, List.range n) := by rw [qX_s (qAll_0 (by omega)), qX_0, qOne_val (by omega) (qAll_0 (by omega))]; rfl
      refine lv_aload_n hx hb dX3_give_49 rfl (lv_at hl 2 rfl) ?_
      refine lv_iload_n hx hb dX3_give_50 rfl (lv_at hl 0 rfl) ?_
      refine va_put (D := D) (ci := 3) (v := .int (iI (zSum (fun k => b (k * 6 + (qL (List.range n)) k)) n))) (ty := .int) (C := RX3) (T := TX3) (N := 8) hx hb hts (by decide +kernel) tyX3 tyX3_ok nmX3 hown hK hP hD hS 0 rfl rfl 5 (by decide) (hts (.fieldLink RX3 24 "RentHarmonyLaw$Sim" "worth" "I") (by decide +kernel)) (fun _ h9 => h9) rfl (by decide +kernel) rfl rfl (Nat.le_of_ble_eq_true rfl) dX3_give_51 (fun H locs hP hD hS => ?_)
      have hP : va_P D vwCl ([(S, .inr (3, [.ref O, .int (iI (rc)), vr, ve, vb, .int (iI (zSum (fun k => b (k * 6 + (qL (List.range n)) k)) n)), .int (iI (yv)), .int (iI (pv))])), (O, qOut cO n R), (a3, zArr cI n (fun k => (((qL (List.range n)) k : Nat) : Int)))] ++ qRw cI n n R (fun i j => b (i * 6 + j))) _ := hP
      have hD : va_D A ([(S, .inr (3, [.ref O, .int (iI (rc)), vr, ve, vb, .int (iI (zSum (fun k => b (k * 6 + (qL (List.range n)) k)) n)), .int (iI (yv)), .int (iI (pv))])), (O, qOut cO n R), (a3, zArr cI n (fun k => (((qL (List.range n)) k : Nat) : Int)))] ++ qRw cI n n R (fun i j => b (i * 6 + j))) := hD
      refine lv_aload_n hx hb dX3_give_54 rfl (lv_at hl 2 rfl) ?_
      refine zr_ic (n := ((1 : Nat) : Int)) hx hb dX3_give_55 ?_
      refine va_put (D := D) (ci := 3) (v := .int (iI ((1 : Nat) : Int))) (ty := .int) (C := RX3) (T := TX3) (N := 8) hx hb hts (by decide +kernel) tyX3 tyX3_ok nmX3 hown hK hP hD hS 0 rfl rfl 6 (by decide) (hts (.fieldLink RX3 36 "RentHarmonyLaw$Sim" "ways" "I") (by decide +kernel)) (fun _ h9 => h9) rfl (by decide +kernel) rfl rfl (Nat.le_of_ble_eq_true rfl) dX3_give_56 (fun H locs hP hD hS => ?_)
      have hP : va_P D vwCl ([(S, .inr (3, [.ref O, .int (iI (rc)), vr, ve, vb, .int (iI (zSum (fun k => b (k * 6 + (qL (List.range n)) k)) n)), .int (iI ((1 : Nat) : Int)), .int (iI (pv))])), (O, qOut cO n R), (a3, zArr cI n (fun k => (((qL (List.range n)) k : Nat) : Int)))] ++ qRw cI n n R (fun i j => b (i * 6 + j))) _ := hP
      have hD : va_D A ([(S, .inr (3, [.ref O, .int (iI (rc)), vr, ve, vb, .int (iI (zSum (fun k => b (k * 6 + (qL (List.range n)) k)) n)), .int (iI ((1 : Nat) : Int)), .int (iI (pv))])), (O, qOut cO n R), (a3, zArr cI n (fun k => (((qL (List.range n)) k : Nat) : Int)))] ++ qRw cI n n R (fun i j => b (i * 6 + j))) := hD
      refine lv_aload_n hx hb dX3_give_59 rfl (lv_at hl 2 rfl) ?_
      refine lv_aload_n hx hb dX3_give_60 rfl (lv_at hl 1 rfl) ?_
      refine va_put (D := D) (ci := 3) (v := .ref a3) (ty := (.array .int)) (C := RX3) (T := TX3) (N := 8) hx hb hts (by decide +kernel) tyX3 tyX3_ok nmX3 hown hK hP hD hS 0 rfl rfl 2 (by decide) (hts (.fieldLink RX3 39 "RentHarmonyLaw$Sim" "rooms" "[I") (by decide +kernel)) (fun _ h9 => h9) rfl (by decide +kernel) rfl rfl (Nat.le_of_ble_eq_true rfl) dX3_give_61 (fun H locs hP hD hS => ?_)
      have hP : va_P D vwCl ([(S, .inr (3, [.ref O, .int (iI (rc)), .ref a3, ve, vb, .int (iI (zSum (fun k => b (k * 6 + (qL (List.range n)) k)) n)), .int (iI ((1 : Nat) : Int)), .int (iI (pv))])), (O, qOut cO n R), (a3, zArr cI n (fun k => (((qL (List.range n)) k : Nat) : Int)))] ++ qRw cI n n R (fun i j => b (i * 6 + j))) _ := hP
      have hD : va_D A ([(S, .inr (3, [.ref O, .int (iI (rc)), .ref a3, ve, vb, .int (iI (zSum (fun k => b (k * 6 + (qL (List.range n)) k)) n)), .int (iI ((1 : Nat) : Int)), .int (iI (pv))])), (O, qOut cO n R), (a3, zArr cI n (fun k => (((qL (List.range n)) k : Nat) : Int)))] ++ qRw cI n n R (fun i j => b (i * 6 + j))) := hD
      refine lv_aload_n hx hb dX3_give_64 rfl (lv_at hl 1 rfl) ?_
      refine zc_qqS (As := [.ref a3]) (rest := []) hF (c_X3_next l D cI cO a3 n (fun k => (((qL (List.range n)) k : Nat) : Int)) (by omega) h1 (fun k hk => by have q9 := hgl k hk; omega) _) (va_cwS 1 hts gX3_give_X3_next rfl rfl rfl (by decide +kernel) ⟨Nat.le_of_ble_eq_true rfl, Nat.le_of_ble_eq_true rfl⟩) hK hE hS (qCut_no (Xc := [(a3, zArr cI n (fun k => (((qL (List.range n)) k : Nat) : Int)))]) (Xr := [(S, .inr (3, [.ref O, .int (iI (rc)), .ref a3, ve, vb, .int (iI (zSum (fun k => b (k * 6 + (qL (List.range n)) k)) n)), .int (iI ((1 : Nat) : Int)), .int (iI (pv))])), (O, qOut cO n R)]) hP hD hS hA [2] [0, 1] rfl rfl (by decide) (by decide) (by decide) 3 rfl (by decide) (by decide)) rfl hl.1 rfl (Nat.le_of_ble_eq_true rfl) dX3_give_65 ⟨(show 1 + 2 ≤ 241 by omega), (show 8 * (1) + 8 * 2 ≤ 8 * 241 by omega)⟩ (fun r9 u8 H locs hw hP hD hS => ?_)
      rcases hw with ⟨rfl, rfl, hn12⟩ | ⟨a10, t11, rfl, rfl, hn12, ht13⟩
      · have hP : va_P D vwCl ([(S, .inr (3, [.ref O, .int (iI (rc)), .ref a3, ve, vb, .int (iI (zSum (fun k => b (k * 6 + (qL (List.range n)) k)) n)), .int (iI ((1 : Nat) : Int)), .int (iI (pv))])), (O, qOut cO n R), (a3, zArr cI n (fun k => (((qL (List.range n)) k : Nat) : Int)))] ++ qRw cI n n R (fun i j => b (i * 6 + j))) _ := hP
        have hD : va_D A ([(S, .inr (3, [.ref O, .int (iI (rc)), .ref a3, ve, vb, .int (iI (zSum (fun k => b (k * 6 + (qL (List.range n)) k)) n)), .int (iI ((1 : Nat) : Int)), .int (iI (pv))])), (O, qOut cO n R), (a3, zArr cI n (fun k => (((qL (List.range n)) k : Nat) : Int)))] ++ qRw cI n n R (fun i j => b (i * 6 + j))) := hD
        have hend : (qAll n).length = 0 + 1 := by rcases qNext (by omega) h1 (qAll_0 (by omega : n < 6)) with ⟨-, e9⟩ | ⟨e9, -⟩; exact e9; exact absurd hn12 e9
        refine lv_astore_nN (lv' := [(1, .null), (2, .int (iI (zSum (fun k => b (k * 6 + (qL (List.range n)) k)) n))), (0, .ref S)]) hx hb dX3_give_68 rfl hl (by decide) rfl (fun ls hl => ?_)
        refine lv_goto (tgt := 10) hx hb dX3_give_69 (by decide) ?_
        refine lv_aload_nN hx hb dX3_give_10 rfl (lv_at hl 0 rfl) ?_
        refine lv_ifnullN (tgt := 72) hx hb dX3_give_11 (by decide) ?_
        refine lv_aload_n hx hb dX3_give_72 rfl (lv_at hl 2 rfl) ?_
        have hP := qSub (Xc := [(S, .inr (3, [.ref O, .int (iI (rc)), .ref a3, ve, vb, .int (iI (zSum (fun k => b (k * 6 + (qL (List.range n)) k)) n)), .int (iI ((1 : Nat) : Int)), .int (iI (pv))])), (O, qOut cO n R), (a3, zArr cI n (fun k => (((qL (List.range n)) k : Nat) : Int)))]) hP [0, 1, 2] rfl
        have hD := qSubD (Xc := [(S, .inr (3, [.ref O, .int (iI (rc)), .ref a3, ve, vb, .int (iI (zSum (fun k => b (k * 6 + (qL (List.range n)) k)) n)), .int (iI ((1 : Nat) : Int)), .int (iI (pv))])), (O, qOut cO n R), (a3, zArr cI n (fun k => (((qL (List.range n)) k : Nat) : Int)))]) hD [0, 1, 2] rfl (by decide) 3 rfl (by decide)
        have hz : zD n b 0 = some (zSum (fun k => b (k * 6 + (qL (List.range n)) k)) n, 1, (List.range n)) := by rw [← qX_end hend]; exact hX1
        have e1 : zSum (fun k => b (k * 6 + (qL (List.range n)) k)) n = zWo n b := by unfold zWo; rw [hz]; rfl
        have e2 : ((1 : Nat) : Int) = zWy n b := by unfold zWy; rw [hz]; rfl
        have e3 : qL (List.range n) = zRo n b := by unfold zRo; rw [hz]; rfl
        have eX : [(S, .inr (3, [.ref O, .int (iI (rc)), .ref a3, ve, vb, .int (iI (zSum (fun k => b (k * 6 + (qL (List.range n)) k)) n)), .int (iI ((1 : Nat) : Int)), .int (iI (pv))])), (O, qOut cO n R), (a3, zArr cI n (fun k => (((qL (List.range n)) k : Nat) : Int)))] = ([(S, .inr (3, [.ref O, .int (iI (rc)), .ref a3, ve, vb, .int (iI (zWo n b)), .int (iI (zWy n b)), .int (iI (pv))])), (O, qOut cO n R), (a3, zArr cI n (fun k => (((zRo n b) k : Nat) : Int)))] : va_W) := by rw [e1, e2, e3]
        rw [eX] at hP hD
        exact qQ_ret (r := (some S)) hx hb hr (Or.inl ⟨_, rfl⟩) hlocks hS dX3_give_73 (show 3 ≤ 241 by omega) a3 rfl hP hD
      · have hP : va_P D vwCl ([(S, .inr (3, [.ref O, .int (iI (rc)), .ref a3, ve, vb, .int (iI (zSum (fun k => b (k * 6 + (qL (List.range n)) k)) n)), .int (iI ((1 : Nat) : Int)), .int (iI (pv))])), (O, qOut cO n R), (a3, zArr cI n (fun k => (((qL (List.range n)) k : Nat) : Int))), (a10, zArr cI n t11)] ++ qRw cI n n R (fun i j => b (i * 6 + j))) _ := hP
        have hD : va_D A ([(S, .inr (3, [.ref O, .int (iI (rc)), .ref a3, ve, vb, .int (iI (zSum (fun k => b (k * 6 + (qL (List.range n)) k)) n)), .int (iI ((1 : Nat) : Int)), .int (iI (pv))])), (O, qOut cO n R), (a3, zArr cI n (fun k => (((qL (List.range n)) k : Nat) : Int))), (a10, zArr cI n t11)] ++ qRw cI n n R (fun i j => b (i * 6 + j))) := hD
        obtain ⟨M, hM, hMx⟩ : ∃ M, (qAll n)[0 + 1]? = some M ∧ ∀ k, k < n → qNx n (qRow (List.range n)) k = qRow M k := by rcases qNext (by omega) h1 (qAll_0 (by omega : n < 6)) with ⟨e9, -⟩ | ⟨-, q9⟩; exact absurd e9 hn12; exact q9
        have hP := z_ext (g := fun k => ((qL M k : Nat) : Int)) hP 3 rfl (fun k hk => (ht13 k hk).trans (hMx k hk))
        have hD := hD.set (p := 3) (e := zArr cI n (fun k => ((qL M k : Nat) : Int))) rfl
        have hP : va_P D vwCl ([(S, .inr (3, [.ref O, .int (iI (rc)), .ref a3, ve, vb, .int (iI (zSum (fun k => b (k * 6 + (qL (List.range n)) k)) n)), .int (iI ((1 : Nat) : Int)), .int (iI (pv))])), (O, qOut cO n R), (a3, zArr cI n (fun k => (((qL (List.range n)) k : Nat) : Int))), (a10, zArr cI n (fun k => (((qL M) k : Nat) : Int)))] ++ qRw cI n n R (fun i j => b (i * 6 + j))) _ := hP
        have hD : va_D A ([(S, .inr (3, [.ref O, .int (iI (rc)), .ref a3, ve, vb, .int (iI (zSum (fun k => b (k * 6 + (qL (List.range n)) k)) n)), .int (iI ((1 : Nat) : Int)), .int (iI (pv))])), (O, qOut cO n R), (a3, zArr cI n (fun k => (((qL (List.range n)) k : Nat) : Int))), (a10, zArr cI n (fun k => (((qL M) k : Nat) : Int)))] ++ qRw cI n n R (fun i j => b (i * 6 + j))) := hD
        refine lv_astore_n (lv' := [(1, .ref a10), (2, .int (iI (zSum (fun k => b (k * 6 + (qL (List.range n)) k)) n))), (0, .ref S)]) hx hb dX3_give_68 rfl hl (by decide) rfl (fun ls hl => ?_)
        refine lv_goto (tgt := 10) hx hb dX3_give_69 (by decide) ?_
        have LG : ∀ (k0 : Nat) (i : Nat) (L : List Nat) (x1 : Int) (x2 : Int) (x3 : List Nat) (RM : Nat) (RW : Nat), 120 - i < k0 → (hL : (qAll n)[i]? = some L) → (hX : qX n b i = some (x1, x2, x3)) → (hx1 : 0 ≤ x1 ∧ x1 ≤ 4995) → (hi1 : 1 ≤ i) → ∀ (H : Heap) (locs : List Loc), va_P D vwCl ([(S, .inr (3, [.ref O, .int (iI (rc)), .ref RM, ve, vb, .int (iI (x1)), .int (iI (x2)), .int (iI (pv))])), (O, qOut cO n R), (RM, zArr cI n (fun k => (((qL x3) k : Nat) : Int))), (RW, zArr cI n (fun k => (((qL L) k : Nat) : Int)))] ++ qRw cI n n R (fun i j => b (i * 6 + j))) H → va_D A ([(S, .inr (3, [.ref O, .int (iI (rc)), .ref RM, ve, vb, .int (iI (x1)), .int (iI (x2)), .int (iI (pv))])), (O, qOut cO n R), (RM, zArr cI n (fun k => (((qL x3) k : Nat) : Int))), (RW, zArr cI n (fun k => (((qL L) k : Nat) : Int)))] ++ qRw cI n n R (fun i j => b (i * 6 + j))) → va_S A s.heap H locs → ∀ (ls : Array Slot), lv_has ls 3 [(0, .ref S), (1, .ref RW)] → W p l e (qRm 2 55 241) s m args below meth c H locs (1 + 2 * i) (8 * (1 + 2 * i)) (MQ below (va_Qq (S := Nat) (fun r _ => r = some S) (fun u9 t9 => va_P D vwCl ((fun (u : Nat) => ([(S, .inr (3, [.ref O, .int (iI (rc)), .ref u, ve, vb, .int (iI (zWo n b)), .int (iI (zWy n b)), .int (iI (pv))])), (O, qOut cO n R), (u, zArr cI n (fun k => (((zRo n b) k : Nat) : Int)))] ++ qRw cI n n R (fun i j => b (i * 6 + j)))) u9) t9.heap ∧ va_D A ((fun (u : Nat) => ([(S, .inr (3, [.ref O, .int (iI (rc)), .ref u, ve, vb, .int (iI (zWo n b)), .int (iI (zWy n b)), .int (iI (pv))])), (O, qOut cO n R), (u, zArr cI n (fun k => (((zRo n b) k : Nat) : Int)))] ++ qRw cI n n R (fun i j => b (i * 6 + j)))) u9)) A) args s 241 (8 * 241) A) (F0 m 10 ls []) := by
          intro k0
          induction k0 with
          | zero => intro i L x1 x2 x3 RM RW hk; exact absurd hk (Nat.not_lt_zero _)
          | succ k0 ih_LG =>
            intro i L x1 x2 x3 RM RW hk hL hX hx1 hi1 H locs hP hD hS ls hl
            have hi2 := qAll_i (by omega : n < 6) hL
            refine lv_aload_n hx hb dX3_give_10 rfl (lv_at hl 1 rfl) ?_
            refine lv_ifnull hx hb dX3_give_11 ?_
            refine lv_aload_n hx hb dX3_give_14 rfl (lv_at hl 0 rfl) ?_
            refine lv_aload_n hx hb dX3_give_15 rfl (lv_at hl 1 rfl) ?_
            have hgl := (qAll_at (by omega : n < 6) hL).2
            have hsb := qX_b (n := n) hn hb0 (qL L)
            refine zc_riP (As := [.ref RW]) (rest := []) hF (c_X3_sum l D cI cO S O n R b rc x1 x2 pv (.ref RM) ve vb RW (qL L) (by omega) (by assumption) hgl) (cwV 1 hts gX3_give_X3_sum rfl rfl rfl (by decide +kernel) ⟨Nat.le_of_ble_eq_true rfl, Nat.le_of_ble_eq_true rfl⟩) hK (qSub (Xc := [(S, .inr (3, [.ref O, .int (iI (rc)), .ref RM, ve, vb, .int (iI (x1)), .int (iI (x2)), .int (iI (pv))])), (O, qOut cO n R), (RW, zArr cI n (fun k => (((qL L) k : Nat) : Int)))]) hP [0, 1, 3] rfl) 0 rfl rfl rfl rfl hl.1 rfl (Nat.le_of_ble_eq_true rfl) dX3_give_16 ⟨(show 1 + 2 * i ≤ 241 by omega), (show 8 * (1 + 2 * i) ≤ 8 * 241 by omega)⟩ ?_
            refine lv_istore_n (lv' := [(2, .int (iI (zSum (fun k => b (k * 6 + (qL L) k)) n))), (0, .ref S), (1, .ref RW)]) hx hb dX3_give_19 rfl hl (by decide) rfl (fun ls hl => ?_)
            refine lv_iload_n hx hb dX3_give_20 rfl (lv_at hl 0 rfl) ?_
            refine lv_aload_n hx hb dX3_give_21 rfl (lv_at hl 1 rfl) ?_
            refine va_get (D := D) (ci := 3) (v := .int (iI (x1))) (C := RX3) (T := TX3) (N := 8) hx hb hts (by decide +kernel) hown hK hP 0 rfl rfl 5 (by decide) (hts (.fieldLink RX3 24 "RentHarmonyLaw$Sim" "worth" "I") (by decide +kernel)) (fun _ h9 => h9) rfl dX3_give_22 ?_
            refine zr_icmp_ne (tgt := 38) hx hb dX3_give_25 (by decide) (zB_of (by omega) (by omega)) (zB_of (by omega) (by omega)) (fun c15 => ?_) (fun c15 => ?_)
            · refine lv_iload_n hx hb dX3_give_38 rfl (lv_at hl 0 rfl) ?_
              refine lv_aload_n hx hb dX3_give_39 rfl (lv_at hl 1 rfl) ?_
              refine va_get (D := D) (ci := 3) (v := .int (iI (x1))) (C := RX3) (T := TX3) (N := 8) hx hb hts (by decide +kernel) hown hK hP 0 rfl rfl 5 (by decide) (hts (.fieldLink RX3 24 "RentHarmonyLaw$Sim" "worth" "I") (by decide +kernel)) (fun _ h9 => h9) rfl dX3_give_40 ?_
              refine zr_icmp_gt (tgt := 49) hx hb dX3_give_43 (by decide) (zB_of (by omega) (by omega)) (zB_of (by omega) (by omega)) (fun c16 => ?_) (fun c16 => ?_)
              · have hX1 : qX n b (i + 1) = some (zSum (fun k => b (k * 6 + (qL L) k)) n, 1, L) := by rw [qX_s hL, hX, qOne_val (by omega) hL, zComb_lt (by show x1 < _; omega)]
                refine lv_aload_n hx hb dX3_give_49 rfl (lv_at hl 1 rfl) ?_
                refine lv_iload_n hx hb dX3_give_50 rfl (lv_at hl 0 rfl) ?_
                refine va_put (D := D) (ci := 3) (v := .int (iI (zSum (fun k => b (k * 6 + (qL L) k)) n))) (ty := .int) (C := RX3) (T := TX3) (N := 8) hx hb hts (by decide +kernel) tyX3 tyX3_ok nmX3 hown hK hP hD hS 0 rfl rfl 5 (by decide) (hts (.fieldLink RX3 24 "RentHarmonyLaw$Sim" "worth" "I") (by decide +kernel)) (fun _ h9 => h9) rfl (by decide +kernel) rfl rfl (Nat.le_of_ble_eq_true rfl) dX3_give_51 (fun H locs hP hD hS => ?_)
                have hP : va_P D vwCl ([(S, .inr (3, [.ref O, .int (iI (rc)), .ref RM, ve, vb, .int (iI (zSum (fun k => b (k * 6 + (qL L) k)) n)), .int (iI (x2)), .int (iI (pv))])), (O, qOut cO n R), (RM, zArr cI n (fun k => (((qL x3) k : Nat) : Int))), (RW, zArr cI n (fun k => (((qL L) k : Nat) : Int)))] ++ qRw cI n n R (fun i j => b (i * 6 + j))) _ := hP
                have hD : va_D A ([(S, .inr (3, [.ref O, .int (iI (rc)), .ref RM, ve, vb, .int (iI (zSum (fun k => b (k * 6 + (qL L) k)) n)), .int (iI (x2)), .int (iI (pv))])), (O, qOut cO n R), (RM, zArr cI n (fun k => (((qL x3) k : Nat) : Int))), (RW, zArr cI n (fun k => (((qL L) k : Nat) : Int)))] ++ qRw cI n n R (fun i j => b (i * 6 + j))) := hD
                refine lv_aload_n hx hb dX3_give_54 rfl (lv_at hl 1 rfl) ?_
                refine zr_ic (n := ((1 : Nat) : Int)) hx hb dX3_give_55 ?_
                refine va_put (D := D) (ci := 3) (v := .int (iI ((1 : Nat) : Int))) (ty := .int) (C := RX3) (T := TX3) (N := 8) hx hb hts (by decide +kernel) tyX3 tyX3_ok nmX3 hown hK hP hD hS 0 rfl rfl 6 (by decide) (hts (.fieldLink RX3 36 "RentHarmonyLaw$Sim" "ways" "I") (by decide +kernel)) (fun _ h9 => h9) rfl (by decide +kernel) rfl rfl (Nat.le_of_ble_eq_true rfl) dX3_give_56 (fun H locs hP hD hS => ?_)
                have hP : va_P D vwCl ([(S, .inr (3, [.ref O, .int (iI (rc)), .ref RM, ve, vb, .int (iI (zSum (fun k => b (k * 6 + (qL L) k)) n)), .int (iI ((1 : Nat) : Int)), .int (iI (pv))])), (O, qOut cO n R), (RM, zArr cI n (fun k => (((qL x3) k : Nat) : Int))), (RW, zArr cI n (fun k => (((qL L) k : Nat) : Int)))] ++ qRw cI n n R (fun i j => b (i * 6 + j))) _ := hP
                have hD : va_D A ([(S, .inr (3, [.ref O, .int (iI (rc)), .ref RM, ve, vb, .int (iI (zSum (fun k => b (k * 6 + (qL L) k)) n)), .int (iI ((1 : Nat) : Int)), .int (iI (pv))])), (O, qOut cO n R), (RM, zArr cI n (fun k => (((qL x3) k : Nat) : Int))), (RW, zArr cI n (fun k => (((qL L) k : Nat) : Int)))] ++ qRw cI n n R (fun i j => b (i * 6 + j))) := hD
                refine lv_aload_n hx hb dX3_give_59 rfl (lv_at hl 1 rfl) ?_
                refine lv_aload_n hx hb dX3_give_60 rfl (lv_at hl 2 rfl) ?_
                refine va_put (D := D) (ci := 3) (v := .ref RW) (ty := (.array .int)) (C := RX3) (T := TX3) (N := 8) hx hb hts (by decide +kernel) tyX3 tyX3_ok nmX3 hown hK hP hD hS 0 rfl rfl 2 (by decide) (hts (.fieldLink RX3 39 "RentHarmonyLaw$Sim" "rooms" "[I") (by decide +kernel)) (fun _ h9 => h9) rfl (by decide +kernel) rfl rfl (Nat.le_of_ble_eq_true rfl) dX3_give_61 (fun H locs hP hD hS => ?_)
                have hP : va_P D vwCl ([(S, .inr (3, [.ref O, .int (iI (rc)), .ref RW, ve, vb, .int (iI (zSum (fun k => b (k * 6 + (qL L) k)) n)), .int (iI ((1 : Nat) : Int)), .int (iI (pv))])), (O, qOut cO n R), (RM, zArr cI n (fun k => (((qL x3) k : Nat) : Int))), (RW, zArr cI n (fun k => (((qL L) k : Nat) : Int)))] ++ qRw cI n n R (fun i j => b (i * 6 + j))) _ := hP
                have hD : va_D A ([(S, .inr (3, [.ref O, .int (iI (rc)), .ref RW, ve, vb, .int (iI (zSum (fun k => b (k * 6 + (qL L) k)) n)), .int (iI ((1 : Nat) : Int)), .int (iI (pv))])), (O, qOut cO n R), (RM, zArr cI n (fun k => (((qL x3) k : Nat) : Int))), (RW, zArr cI n (fun k => (((qL L) k : Nat) : Int)))] ++ qRw cI n n R (fun i j => b (i * 6 + j))) := hD
                refine lv_aload_n hx hb dX3_give_64 rfl (lv_at hl 2 rfl) ?_
                refine zc_qqS (As := [.ref RW]) (rest := []) hF (c_X3_next l D cI cO RW n (fun k => (((qL L) k : Nat) : Int)) (by omega) h1 (fun k hk => by have q9 := hgl k hk; omega) _) (va_cwS 1 hts gX3_give_X3_next rfl rfl rfl (by decide +kernel) ⟨Nat.le_of_ble_eq_true rfl, Nat.le_of_ble_eq_true rfl⟩) hK hE hS (qCut_no (Xc := [(RW, zArr cI n (fun k => (((qL L) k : Nat) : Int)))]) (Xr := [(S, .inr (3, [.ref O, .int (iI (rc)), .ref RW, ve, vb, .int (iI (zSum (fun k => b (k * 6 + (qL L) k)) n)), .int (iI ((1 : Nat) : Int)), .int (iI (pv))])), (O, qOut cO n R), (RM, zArr cI n (fun k => (((qL x3) k : Nat) : Int)))]) hP hD hS hA [3] [0, 1, 2] rfl rfl (by decide) (by decide) (by decide) 4 rfl (by decide) (by decide)) rfl hl.1 rfl (Nat.le_of_ble_eq_true rfl) dX3_give_65 ⟨(show 1 + 2 * i + 2 ≤ 241 by omega), (show 8 * (1 + 2 * i) + 8 * 2 ≤ 8 * 241 by omega)⟩ (fun r18 u17 H locs hw hP hD hS => ?_)
                rcases hw with ⟨rfl, rfl, hn21⟩ | ⟨a19, t20, rfl, rfl, hn21, ht22⟩
                · have hP : va_P D vwCl ([(S, .inr (3, [.ref O, .int (iI (rc)), .ref RW, ve, vb, .int (iI (zSum (fun k => b (k * 6 + (qL L) k)) n)), .int (iI ((1 : Nat) : Int)), .int (iI (pv))])), (O, qOut cO n R), (RM, zArr cI n (fun k => (((qL x3) k : Nat) : Int))), (RW, zArr cI n (fun k => (((qL L) k : Nat) : Int)))] ++ qRw cI n n R (fun i j => b (i * 6 + j))) _ := hP
                  have hD : va_D A ([(S, .inr (3, [.ref O, .int (iI (rc)), .ref RW, ve, vb, .int (iI (zSum (fun k => b (k * 6 + (qL L) k)) n)), .int (iI ((1 : Nat) : Int)), .int (iI (pv))])), (O, qOut cO n R), (RM, zArr cI n (fun k => (((qL x3) k : Nat) : Int))), (RW, zArr cI n (fun k => (((qL L) k : Nat) : Int)))] ++ qRw cI n n R (fun i j => b (i * 6 + j))) := hD
                  have hend : (qAll n).length = i + 1 := by rcases qNext (by omega) h1 hL with ⟨-, e9⟩ | ⟨e9, -⟩; exact e9; exact absurd hn21 e9
                  refine lv_astore_nN (lv' := [(1, .null), (2, .int (iI (zSum (fun k => b (k * 6 + (qL L) k)) n))), (0, .ref S)]) hx hb dX3_give_68 rfl hl (by decide) rfl (fun ls hl => ?_)
                  refine lv_goto (tgt := 10) hx hb dX3_give_69 (by decide) ?_
                  refine lv_aload_nN hx hb dX3_give_10 rfl (lv_at hl 0 rfl) ?_
                  refine lv_ifnullN (tgt := 72) hx hb dX3_give_11 (by decide) ?_
                  refine lv_aload_n hx hb dX3_give_72 rfl (lv_at hl 2 rfl) ?_
                  have hP := qSub (Xc := [(S, .inr (3, [.ref O, .int (iI (rc)), .ref RW, ve, vb, .int (iI (zSum (fun k => b (k * 6 + (qL L) k)) n)), .int (iI ((1 : Nat) : Int)), .int (iI (pv))])), (O, qOut cO n R), (RW, zArr cI n (fun k => (((qL L) k : Nat) : Int)))]) hP [0, 1, 3] rfl
                  have hD := qSubD (Xc := [(S, .inr (3, [.ref O, .int (iI (rc)), .ref RW, ve, vb, .int (iI (zSum (fun k => b (k * 6 + (qL L) k)) n)), .int (iI ((1 : Nat) : Int)), .int (iI (pv))])), (O, qOut cO n R), (RW, zArr cI n (fun k => (((qL L) k : Nat) : Int)))]) hD [0, 1, 3] rfl (by decide) 4 rfl (by decide)
                  have hz : zD n b 0 = some (zSum (fun k => b (k * 6 + (qL L) k)) n, 1, L) := by rw [← qX_end hend]; exact hX1
                  have e1 : zSum (fun k => b (k * 6 + (qL L) k)) n = zWo n b := by unfold zWo; rw [hz]; rfl
                  have e2 : ((1 : Nat) : Int) = zWy n b := by unfold zWy; rw [hz]; rfl
                  have e3 : qL L = zRo n b := by unfold zRo; rw [hz]; rfl
                  have eX : [(S, .inr (3, [.ref O, .int (iI (rc)), .ref RW, ve, vb, .int (iI (zSum (fun k => b (k * 6 + (qL L) k)) n)), .int (iI ((1 : Nat) : Int)), .int (iI (pv))])), (O, qOut cO n R), (RW, zArr cI n (fun k => (((qL L) k : Nat) : Int)))] = ([(S, .inr (3, [.ref O, .int (iI (rc)), .ref RW, ve, vb, .int (iI (zWo n b)), .int (iI (zWy n b)), .int (iI (pv))])), (O, qOut cO n R), (RW, zArr cI n (fun k => (((zRo n b) k : Nat) : Int)))] : va_W) := by rw [e1, e2, e3]
                  rw [eX] at hP hD
                  exact qQ_ret (r := (some S)) hx hb hr (Or.inl ⟨_, rfl⟩) hlocks hS dX3_give_73 (show 1 + 2 * i + 2 ≤ 241 by omega) RW rfl hP hD
                · have hP : va_P D vwCl ([(S, .inr (3, [.ref O, .int (iI (rc)), .ref RW, ve, vb, .int (iI (zSum (fun k => b (k * 6 + (qL L) k)) n)), .int (iI ((1 : Nat) : Int)), .int (iI (pv))])), (O, qOut cO n R), (RM, zArr cI n (fun k => (((qL x3) k : Nat) : Int))), (RW, zArr cI n (fun k => (((qL L) k : Nat) : Int))), (a19, zArr cI n t20)] ++ qRw cI n n R (fun i j => b (i * 6 + j))) _ := hP
                  have hD : va_D A ([(S, .inr (3, [.ref O, .int (iI (rc)), .ref RW, ve, vb, .int (iI (zSum (fun k => b (k * 6 + (qL L) k)) n)), .int (iI ((1 : Nat) : Int)), .int (iI (pv))])), (O, qOut cO n R), (RM, zArr cI n (fun k => (((qL x3) k : Nat) : Int))), (RW, zArr cI n (fun k => (((qL L) k : Nat) : Int))), (a19, zArr cI n t20)] ++ qRw cI n n R (fun i j => b (i * 6 + j))) := hD
                  obtain ⟨M, hM, hMx⟩ : ∃ M, (qAll n)[i + 1]? = some M ∧ ∀ k, k < n → qNx n (qRow L) k = qRow M k := by rcases qNext (by omega) h1 hL with ⟨e9, -⟩ | ⟨-, q9⟩; exact absurd e9 hn21; exact q9
                  have hP := z_ext (g := fun k => ((qL M k : Nat) : Int)) hP 4 rfl (fun k hk => (ht22 k hk).trans (hMx k hk))
                  have hD := hD.set (p := 4) (e := zArr cI n (fun k => ((qL M k : Nat) : Int))) rfl
                  have hP : va_P D vwCl ([(S, .inr (3, [.ref O, .int (iI (rc)), .ref RW, ve, vb, .int (iI (zSum (fun k => b (k * 6 + (qL L) k)) n)), .int (iI ((1 : Nat) : Int)), .int (iI (pv))])), (O, qOut cO n R), (RM, zArr cI n (fun k => (((qL x3) k : Nat) : Int))), (RW, zArr cI n (fun k => (((qL L) k : Nat) : Int))), (a19, zArr cI n (fun k => (((qL M) k : Nat) : Int)))] ++ qRw cI n n R (fun i j => b (i * 6 + j))) _ := hP
                  have hD : va_D A ([(S, .inr (3, [.ref O, .int (iI (rc)), .ref RW, ve, vb, .int (iI (zSum (fun k => b (k * 6 + (qL L) k)) n)), .int (iI ((1 : Nat) : Int)), .int (iI (pv))])), (O, qOut cO n R), (RM, zArr cI n (fun k => (((qL x3) k : Nat) : Int))), (RW, zArr cI n (fun k => (((qL L) k : Nat) : Int))), (a19, zArr cI n (fun k => (((qL M) k : Nat) : Int)))] ++ qRw cI n n R (fun i j => b (i * 6 + j))) := hD
                  refine lv_astore_n (lv' := [(1, .ref a19), (2, .int (iI (zSum (fun k => b (k * 6 + (qL L) k)) n))), (0, .ref S)]) hx hb dX3_give_68 rfl hl (by decide) rfl (fun ls hl => ?_)
                  refine lv_goto (tgt := 10) hx hb dX3_give_69 (by decide) ?_
                  have hP := qSub (Xc := [(S, .inr (3, [.ref O, .int (iI (rc)), .ref RW, ve, vb, .int (iI (zSum (fun k => b (k * 6 + (qL L) k)) n)), .int (iI ((1 : Nat) : Int)), .int (iI (pv))])), (O, qOut cO n R), (RW, zArr cI n (fun k => (((qL L) k : Nat) : Int))), (a19, zArr cI n (fun k => (((qL M) k : Nat) : Int)))]) hP [0, 1, 3, 4] rfl
                  have hD := qSubD (Xc := [(S, .inr (3, [.ref O, .int (iI (rc)), .ref RW, ve, vb, .int (iI (zSum (fun k => b (k * 6 + (qL L) k)) n)), .int (iI ((1 : Nat) : Int)), .int (iI (pv))])), (O, qOut cO n R), (RW, zArr cI n (fun k => (((qL L) k : Nat) : Int))), (a19, zArr cI n (fun k => (((qL M) k : Nat) : Int)))]) hD [0, 1, 3, 4] rfl (by decide) 5 rfl (by decide)
                  refine W.widen (k := 1 + 2 * (i + 1)) (n := 8 * (1 + 2 * (i + 1))) (show 1 + 2 * i + 2 ≤ 1 + 2 * (i + 1) by omega) (show 8 * (1 + 2 * i + 2) ≤ 8 * (1 + 2 * (i + 1)) by omega) ?_
                  exact ih_LG (i + 1) (M) (zSum (fun k => b (k * 6 + (qL L) k)) n) (1) (L) (RW) (a19) (by omega) hM hX1 (by omega) (by omega) _ _ hP hD hS _ (lv_sub hl [2, 0] rfl)
              · have hX1 : qX n b (i + 1) = some (x1, x2, x3) := by rw [qX_s hL, hX, qOne_val (by omega) hL, zComb_gt (show _ < x1 by omega)]
                refine lv_goto (tgt := 64) hx hb dX3_give_46 (by decide) ?_
                refine lv_aload_n hx hb dX3_give_64 rfl (lv_at hl 2 rfl) ?_
                refine zc_qqS (As := [.ref RW]) (rest := []) hF (c_X3_next l D cI cO RW n (fun k => (((qL L) k : Nat) : Int)) (by omega) h1 (fun k hk => by have q9 := hgl k hk; omega) _) (va_cwS 1 hts gX3_give_X3_next rfl rfl rfl (by decide +kernel) ⟨Nat.le_of_ble_eq_true rfl, Nat.le_of_ble_eq_true rfl⟩) hK hE hS (qCut_no (Xc := [(RW, zArr cI n (fun k => (((qL L) k : Nat) : Int)))]) (Xr := [(S, .inr (3, [.ref O, .int (iI (rc)), .ref RM, ve, vb, .int (iI (x1)), .int (iI (x2)), .int (iI (pv))])), (O, qOut cO n R), (RM, zArr cI n (fun k => (((qL x3) k : Nat) : Int)))]) hP hD hS hA [3] [0, 1, 2] rfl rfl (by decide) (by decide) (by decide) 4 rfl (by decide) (by decide)) rfl hl.1 rfl (Nat.le_of_ble_eq_true rfl) dX3_give_65 ⟨(show 1 + 2 * i + 2 ≤ 241 by omega), (show 8 * (1 + 2 * i) + 8 * 2 ≤ 8 * 241 by omega)⟩ (fun r25 u24 H locs hw hP hD hS => ?_)
                rcases hw with ⟨rfl, rfl, hn28⟩ | ⟨a26, t27, rfl, rfl, hn28, ht29⟩
                · have hP : va_P D vwCl ([(S, .inr (3, [.ref O, .int (iI (rc)), .ref RM, ve, vb, .int (iI (x1)), .int (iI (x2)), .int (iI (pv))])), (O, qOut cO n R), (RM, zArr cI n (fun k => (((qL x3) k : Nat) : Int))), (RW, zArr cI n (fun k => (((qL L) k : Nat) : Int)))] ++ qRw cI n n R (fun i j => b (i * 6 + j))) _ := hP
                  have hD : va_D A ([(S, .inr (3, [.ref O, .int (iI (rc)), .ref RM, ve, vb, .int (iI (x1)), .int (iI (x2)), .int (iI (pv))])), (O, qOut cO n R), (RM, zArr cI n (fun k => (((qL x3) k : Nat) : Int))), (RW, zArr cI n (fun k => (((qL L) k : Nat) : Int)))] ++ qRw cI n n R (fun i j => b (i * 6 + j))) := hD
                  have hend : (qAll n).length = i + 1 := by rcases qNext (by omega) h1 hL with ⟨-, e9⟩ | ⟨e9, -⟩; exact e9; exact absurd hn28 e9
                  refine lv_astore_nN (lv' := [(1, .null), (2, .int (iI (zSum (fun k => b (k * 6 + (qL L) k)) n))), (0, .ref S)]) hx hb dX3_give_68 rfl hl (by decide) rfl (fun ls hl => ?_)
                  refine lv_goto (tgt := 10) hx hb dX3_give_69 (by decide) ?_
                  refine lv_aload_nN hx hb dX3_give_10 rfl (lv_at hl 0 rfl) ?_
                  refine lv_ifnullN (tgt := 72) hx hb dX3_give_11 (by decide) ?_
                  refine lv_aload_n hx hb dX3_give_72 rfl (lv_at hl 2 rfl) ?_
                  have hP := qSub (Xc := [(S, .inr (3, [.ref O, .int (iI (rc)), .ref RM, ve, vb, .int (iI (x1)), .int (iI (x2)), .int (iI (pv))])), (O, qOut cO n R), (RM, zArr cI n (fun k => (((qL x3) k : Nat) : Int)))]) hP [0, 1, 2] rfl
                  have hD := qSubD (Xc := [(S, .inr (3, [.ref O, .int (iI (rc)), .ref RM, ve, vb, .int (iI (x1)), .int (iI (x2)), .int (iI (pv))])), (O, qOut cO n R), (RM, zArr cI n (fun k => (((qL x3) k : Nat) : Int)))]) hD [0, 1, 2] rfl (by decide) 4 rfl (by decide)
                  have hz : zD n b 0 = some (x1, x2, x3) := by rw [← qX_end hend]; exact hX1
                  have e1 : x1 = zWo n b := by unfold zWo; rw [hz]; rfl
                  have e2 : x2 = zWy n b := by unfold zWy; rw [hz]; rfl
                  have e3 : qL x3 = zRo n b := by unfold zRo; rw [hz]; rfl
                  have eX : [(S, .inr (3, [.ref O, .int (iI (rc)), .ref RM, ve, vb, .int (iI (x1)), .int (iI (x2)), .int (iI (pv))])), (O, qOut cO n R), (RM, zArr cI n (fun k => (((qL x3) k : Nat) : Int)))] = ([(S, .inr (3, [.ref O, .int (iI (rc)), .ref RM, ve, vb, .int (iI (zWo n b)), .int (iI (zWy n b)), .int (iI (pv))])), (O, qOut cO n R), (RM, zArr cI n (fun k => (((zRo n b) k : Nat) : Int)))] : va_W) := by rw [e1, e2, e3]
                  rw [eX] at hP hD
                  exact qQ_ret (r := (some S)) hx hb hr (Or.inl ⟨_, rfl⟩) hlocks hS dX3_give_73 (show 1 + 2 * i + 2 ≤ 241 by omega) RM rfl hP hD
                · have hP : va_P D vwCl ([(S, .inr (3, [.ref O, .int (iI (rc)), .ref RM, ve, vb, .int (iI (x1)), .int (iI (x2)), .int (iI (pv))])), (O, qOut cO n R), (RM, zArr cI n (fun k => (((qL x3) k : Nat) : Int))), (RW, zArr cI n (fun k => (((qL L) k : Nat) : Int))), (a26, zArr cI n t27)] ++ qRw cI n n R (fun i j => b (i * 6 + j))) _ := hP
                  have hD : va_D A ([(S, .inr (3, [.ref O, .int (iI (rc)), .ref RM, ve, vb, .int (iI (x1)), .int (iI (x2)), .int (iI (pv))])), (O, qOut cO n R), (RM, zArr cI n (fun k => (((qL x3) k : Nat) : Int))), (RW, zArr cI n (fun k => (((qL L) k : Nat) : Int))), (a26, zArr cI n t27)] ++ qRw cI n n R (fun i j => b (i * 6 + j))) := hD
                  obtain ⟨M, hM, hMx⟩ : ∃ M, (qAll n)[i + 1]? = some M ∧ ∀ k, k < n → qNx n (qRow L) k = qRow M k := by rcases qNext (by omega) h1 hL with ⟨e9, -⟩ | ⟨-, q9⟩; exact absurd e9 hn28; exact q9
                  have hP := z_ext (g := fun k => ((qL M k : Nat) : Int)) hP 4 rfl (fun k hk => (ht29 k hk).trans (hMx k hk))
                  have hD := hD.set (p := 4) (e := zArr cI n (fun k => ((qL M k : Nat) : Int))) rfl
                  have hP : va_P D vwCl ([(S, .inr (3, [.ref O, .int (iI (rc)), .ref RM, ve, vb, .int (iI (x1)), .int (iI (x2)), .int (iI (pv))])), (O, qOut cO n R), (RM, zArr cI n (fun k => (((qL x3) k : Nat) : Int))), (RW, zArr cI n (fun k => (((qL L) k : Nat) : Int))), (a26, zArr cI n (fun k => (((qL M) k : Nat) : Int)))] ++ qRw cI n n R (fun i j => b (i * 6 + j))) _ := hP
                  have hD : va_D A ([(S, .inr (3, [.ref O, .int (iI (rc)), .ref RM, ve, vb, .int (iI (x1)), .int (iI (x2)), .int (iI (pv))])), (O, qOut cO n R), (RM, zArr cI n (fun k => (((qL x3) k : Nat) : Int))), (RW, zArr cI n (fun k => (((qL L) k : Nat) : Int))), (a26, zArr cI n (fun k => (((qL M) k : Nat) : Int)))] ++ qRw cI n n R (fun i j => b (i * 6 + j))) := hD
                  refine lv_astore_n (lv' := [(1, .ref a26), (2, .int (iI (zSum (fun k => b (k * 6 + (qL L) k)) n))), (0, .ref S)]) hx hb dX3_give_68 rfl hl (by decide) rfl (fun ls hl => ?_)
                  refine lv_goto (tgt := 10) hx hb dX3_give_69 (by decide) ?_
                  have hP := qSub (Xc := [(S, .inr (3, [.ref O, .int (iI (rc)), .ref RM, ve, vb, .int (iI (x1)), .int (iI (x2)), .int (iI (pv))])), (O, qOut cO n R), (RM, zArr cI n (fun k => (((qL x3) k : Nat) : Int))), (a26, zArr cI n (fun k => (((qL M) k : Nat) : Int)))]) hP [0, 1, 2, 4] rfl
                  have hD := qSubD (Xc := [(S, .inr (3, [.ref O, .int (iI (rc)), .ref RM, ve, vb, .int (iI (x1)), .int (iI (x2)), .int (iI (pv))])), (O, qOut cO n R), (RM, zArr cI n (fun k => (((qL x3) k : Nat) : Int))), (a26, zArr cI n (fun k => (((qL M) k : Nat) : Int)))]) hD [0, 1, 2, 4] rfl (by decide) 5 rfl (by decide)
                  refine W.widen (k := 1 + 2 * (i + 1)) (n := 8 * (1 + 2 * (i + 1))) (show 1 + 2 * i + 2 ≤ 1 + 2 * (i + 1) by omega) (show 8 * (1 + 2 * i + 2) ≤ 8 * (1 + 2 * (i + 1)) by omega) ?_
                  exact ih_LG (i + 1) (M) (x1) (x2) (x3) (RM) (a26) (by omega) hM hX1 (by omega) (by omega) _ _ hP hD hS _ (lv_sub hl [2, 0] rfl)
            · refine lv_aload_n hx hb dX3_give_28 rfl (lv_at hl 1 rfl) ?_
              refine lv_dup hx hb dX3_give_29 rfl ?_
              refine va_get (D := D) (ci := 3) (v := .int (iI (x2))) (C := RX3) (T := TX3) (N := 8) hx hb hts (by decide +kernel) hown hK hP 0 rfl rfl 6 (by decide) (hts (.fieldLink RX3 36 "RentHarmonyLaw$Sim" "ways" "I") (by decide +kernel)) (fun _ h9 => h9) rfl dX3_give_30 ?_
              refine zr_ic (n := ((1 : Nat) : Int)) hx hb dX3_give_33 ?_
              refine zr_add hx hb dX3_give_34 ?_
              refine va_put (D := D) (ci := 3) (v := .int (iI (x2 + ((1 : Nat) : Int)))) (ty := .int) (C := RX3) (T := TX3) (N := 8) hx hb hts (by decide +kernel) tyX3 tyX3_ok nmX3 hown hK hP hD hS 0 rfl rfl 6 (by decide) (hts (.fieldLink RX3 36 "RentHarmonyLaw$Sim" "ways" "I") (by decide +kernel)) (fun _ h9 => h9) rfl (by decide +kernel) rfl rfl (Nat.le_of_ble_eq_true rfl) dX3_give_35 (fun H locs hP hD hS => ?_)
              have hP : va_P D vwCl ([(S, .inr (3, [.ref O, .int (iI (rc)), .ref RM, ve, vb, .int (iI (x1)), .int (iI (x2 + ((1 : Nat) : Int))), .int (iI (pv))])), (O, qOut cO n R), (RM, zArr cI n (fun k => (((qL x3) k : Nat) : Int))), (RW, zArr cI n (fun k => (((qL L) k : Nat) : Int)))] ++ qRw cI n n R (fun i j => b (i * 6 + j))) _ := hP
              have hD : va_D A ([(S, .inr (3, [.ref O, .int (iI (rc)), .ref RM, ve, vb, .int (iI (x1)), .int (iI (x2 + ((1 : Nat) : Int))), .int (iI (pv))])), (O, qOut cO n R), (RM, zArr cI n (fun k => (((qL x3) k : Nat) : Int))), (RW, zArr cI n (fun k => (((qL L) k : Nat) : Int)))] ++ qRw cI n n R (fun i j => b (i * 6 + j))) := hD
              refine lv_iload_n hx hb dX3_give_38 rfl (lv_at hl 0 rfl) ?_
              refine lv_aload_n hx hb dX3_give_39 rfl (lv_at hl 1 rfl) ?_
              refine va_get (D := D) (ci := 3) (v := .int (iI (x1))) (C := RX3) (T := TX3) (N := 8) hx hb hts (by decide +kernel) hown hK hP 0 rfl rfl 5 (by decide) (hts (.fieldLink RX3 24 "RentHarmonyLaw$Sim" "worth" "I") (by decide +kernel)) (fun _ h9 => h9) rfl dX3_give_40 ?_
              refine zr_icmp_gt (tgt := 49) hx hb dX3_give_43 (by decide) (zB_of (by omega) (by omega)) (zB_of (by omega) (by omega)) (fun c31 => ?_) (fun c31 => ?_)
              · exact absurd c15 (by omega)
              · have hX1 : qX n b (i + 1) = some (x1, x2 + 1, x3) := by rw [qX_s hL, hX, qOne_val (by omega) hL, zComb_eq (show x1 = _ from c15.symm)]
                refine lv_goto (tgt := 64) hx hb dX3_give_46 (by decide) ?_
                refine lv_aload_n hx hb dX3_give_64 rfl (lv_at hl 2 rfl) ?_
                refine zc_qqS (As := [.ref RW]) (rest := []) hF (c_X3_next l D cI cO RW n (fun k => (((qL L) k : Nat) : Int)) (by omega) h1 (fun k hk => by have q9 := hgl k hk; omega) _) (va_cwS 1 hts gX3_give_X3_next rfl rfl rfl (by decide +kernel) ⟨Nat.le_of_ble_eq_true rfl, Nat.le_of_ble_eq_true rfl⟩) hK hE hS (qCut_no (Xc := [(RW, zArr cI n (fun k => (((qL L) k : Nat) : Int)))]) (Xr := [(S, .inr (3, [.ref O, .int (iI (rc)), .ref RM, ve, vb, .int (iI (x1)), .int (iI (x2 + ((1 : Nat) : Int))), .int (iI (pv))])), (O, qOut cO n R), (RM, zArr cI n (fun k => (((qL x3) k : Nat) : Int)))]) hP hD hS hA [3] [0, 1, 2] rfl rfl (by decide) (by decide) (by decide) 4 rfl (by decide) (by decide)) rfl hl.1 rfl (Nat.le_of_ble_eq_true rfl) dX3_give_65 ⟨(show 1 + 2 * i + 2 ≤ 241 by omega), (show 8 * (1 + 2 * i) + 8 * 2 ≤ 8 * 241 by omega)⟩ (fun r33 u32 H locs hw hP hD hS => ?_)
                rcases hw with ⟨rfl, rfl, hn36⟩ | ⟨a34, t35, rfl, rfl, hn36, ht37⟩
                · have hP : va_P D vwCl ([(S, .inr (3, [.ref O, .int (iI (rc)), .ref RM, ve, vb, .int (iI (x1)), .int (iI (x2 + ((1 : Nat) : Int))), .int (iI (pv))])), (O, qOut cO n R), (RM, zArr cI n (fun k => (((qL x3) k : Nat) : Int))), (RW, zArr cI n (fun k => (((qL L) k : Nat) : Int)))] ++ qRw cI n n R (fun i j => b (i * 6 + j))) _ := hP
                  have hD : va_D A ([(S, .inr (3, [.ref O, .int (iI (rc)), .ref RM, ve, vb, .int (iI (x1)), .int (iI (x2 + ((1 : Nat) : Int))), .int (iI (pv))])), (O, qOut cO n R), (RM, zArr cI n (fun k => (((qL x3) k : Nat) : Int))), (RW, zArr cI n (fun k => (((qL L) k : Nat) : Int)))] ++ qRw cI n n R (fun i j => b (i * 6 + j))) := hD
                  have hend : (qAll n).length = i + 1 := by rcases qNext (by omega) h1 hL with ⟨-, e9⟩ | ⟨e9, -⟩; exact e9; exact absurd hn36 e9
                  refine lv_astore_nN (lv' := [(1, .null), (2, .int (iI (zSum (fun k => b (k * 6 + (qL L) k)) n))), (0, .ref S)]) hx hb dX3_give_68 rfl hl (by decide) rfl (fun ls hl => ?_)
                  refine lv_goto (tgt := 10) hx hb dX3_give_69 (by decide) ?_
                  refine lv_aload_nN hx hb dX3_give_10 rfl (lv_at hl 0 rfl) ?_
                  refine lv_ifnullN (tgt := 72) hx hb dX3_give_11 (by decide) ?_
                  refine lv_aload_n hx hb dX3_give_72 rfl (lv_at hl 2 rfl) ?_
                  have hP := qSub (Xc := [(S, .inr (3, [.ref O, .int (iI (rc)), .ref RM, ve, vb, .int (iI (x1)), .int (iI (x2 + ((1 : Nat) : Int))), .int (iI (pv))])), (O, qOut cO n R), (RM, zArr cI n (fun k => (((qL x3) k : Nat) : Int)))]) hP [0, 1, 2] rfl
                  have hD := qSubD (Xc := [(S, .inr (3, [.ref O, .int (iI (rc)), .ref RM, ve, vb, .int (iI (x1)), .int (iI (x2 + ((1 : Nat) : Int))), .int (iI (pv))])), (O, qOut cO n R), (RM, zArr cI n (fun k => (((qL x3) k : Nat) : Int)))]) hD [0, 1, 2] rfl (by decide) 4 rfl (by decide)
                  have hz : zD n b 0 = some (x1, x2 + 1, x3) := by rw [← qX_end hend]; exact hX1
                  have e1 : x1 = zWo n b := by unfold zWo; rw [hz]; rfl
                  have e2 : x2 + ((1 : Nat) : Int) = zWy n b := by unfold zWy; rw [hz]; rfl
                  have e3 : qL x3 = zRo n b := by unfold zRo; rw [hz]; rfl
                  have eX : [(S, .inr (3, [.ref O, .int (iI (rc)), .ref RM, ve, vb, .int (iI (x1)), .int (iI (x2 + ((1 : Nat) : Int))), .int (iI (pv))])), (O, qOut cO n R), (RM, zArr cI n (fun k => (((qL x3) k : Nat) : Int)))] = ([(S, .inr (3, [.ref O, .int (iI (rc)), .ref RM, ve, vb, .int (iI (zWo n b)), .int (iI (zWy n b)), .int (iI (pv))])), (O, qOut cO n R), (RM, zArr cI n (fun k => (((zRo n b) k : Nat) : Int)))] : va_W) := by rw [e1, e2, e3]
                  rw [eX] at hP hD
                  exact qQ_ret (r := (some S)) hx hb hr (Or.inl ⟨_, rfl⟩) hlocks hS dX3_give_73 (show 1 + 2 * i + 2 ≤ 241 by omega) RM rfl hP hD
                · have hP : va_P D vwCl ([(S, .inr (3, [.ref O, .int (iI (rc)), .ref RM, ve, vb, .int (iI (x1)), .int (iI (x2 + ((1 : Nat) : Int))), .int (iI (pv))])), (O, qOut cO n R), (RM, zArr cI n (fun k => (((qL x3) k : Nat) : Int))), (RW, zArr cI n (fun k => (((qL L) k : Nat) : Int))), (a34, zArr cI n t35)] ++ qRw cI n n R (fun i j => b (i * 6 + j))) _ := hP
                  have hD : va_D A ([(S, .inr (3, [.ref O, .int (iI (rc)), .ref RM, ve, vb, .int (iI (x1)), .int (iI (x2 + ((1 : Nat) : Int))), .int (iI (pv))])), (O, qOut cO n R), (RM, zArr cI n (fun k => (((qL x3) k : Nat) : Int))), (RW, zArr cI n (fun k => (((qL L) k : Nat) : Int))), (a34, zArr cI n t35)] ++ qRw cI n n R (fun i j => b (i * 6 + j))) := hD
                  obtain ⟨M, hM, hMx⟩ : ∃ M, (qAll n)[i + 1]? = some M ∧ ∀ k, k < n → qNx n (qRow L) k = qRow M k := by rcases qNext (by omega) h1 hL with ⟨e9, -⟩ | ⟨-, q9⟩; exact absurd e9 hn36; exact q9
                  have hP := z_ext (g := fun k => ((qL M k : Nat) : Int)) hP 4 rfl (fun k hk => (ht37 k hk).trans (hMx k hk))
                  have hD := hD.set (p := 4) (e := zArr cI n (fun k => ((qL M k : Nat) : Int))) rfl
                  have hP : va_P D vwCl ([(S, .inr (3, [.ref O, .int (iI (rc)), .ref RM, ve, vb, .int (iI (x1)), .int (iI (x2 + ((1 : Nat) : Int))), .int (iI (pv))])), (O, qOut cO n R), (RM, zArr cI n (fun k => (((qL x3) k : Nat) : Int))), (RW, zArr cI n (fun k => (((qL L) k : Nat) : Int))), (a34, zArr cI n (fun k => (((qL M) k : Nat) : Int)))] ++ qRw cI n n R (fun i j => b (i * 6 + j))) _ := hP
                  have hD : va_D A ([(S, .inr (3, [.ref O, .int (iI (rc)), .ref RM, ve, vb, .int (iI (x1)), .int (iI (x2 + ((1 : Nat) : Int))), .int (iI (pv))])), (O, qOut cO n R), (RM, zArr cI n (fun k => (((qL x3) k : Nat) : Int))), (RW, zArr cI n (fun k => (((qL L) k : Nat) : Int))), (a34, zArr cI n (fun k => (((qL M) k : Nat) : Int)))] ++ qRw cI n n R (fun i j => b (i * 6 + j))) := hD
                  refine lv_astore_n (lv' := [(1, .ref a34), (2, .int (iI (zSum (fun k => b (k * 6 + (qL L) k)) n))), (0, .ref S)]) hx hb dX3_give_68 rfl hl (by decide) rfl (fun ls hl => ?_)
                  refine lv_goto (tgt := 10) hx hb dX3_give_69 (by decide) ?_
                  have hP := qSub (Xc := [(S, .inr (3, [.ref O, .int (iI (rc)), .ref RM, ve, vb, .int (iI (x1)), .int (iI (x2 + ((1 : Nat) : Int))), .int (iI (pv))])), (O, qOut cO n R), (RM, zArr cI n (fun k => (((qL x3) k : Nat) : Int))), (a34, zArr cI n (fun k => (((qL M) k : Nat) : Int)))]) hP [0, 1, 2, 4] rfl
                  have hD := qSubD (Xc := [(S, .inr (3, [.ref O, .int (iI (rc)), .ref RM, ve, vb, .int (iI (x1)), .int (iI (x2 + ((1 : Nat) : Int))), .int (iI (pv))])), (O, qOut cO n R), (RM, zArr cI n (fun k => (((qL x3) k : Nat) : Int))), (a34, zArr cI n (fun k => (((qL M) k : Nat) : Int)))]) hD [0, 1, 2, 4] rfl (by decide) 5 rfl (by decide)
                  refine W.widen (k := 1 + 2 * (i + 1)) (n := 8 * (1 + 2 * (i + 1))) (show 1 + 2 * i + 2 ≤ 1 + 2 * (i + 1) by omega) (show 8 * (1 + 2 * i + 2) ≤ 8 * (1 + 2 * (i + 1)) by omega) ?_
                  exact ih_LG (i + 1) (M) (x1) (x2 + 1) (x3) (RM) (a34) (by omega) hM hX1 (by omega) (by omega) _ _ hP hD hS _ (lv_sub hl [2, 0] rfl)
        have hP := qSub (Xc := [(S, .inr (3, [.ref O, .int (iI (rc)), .ref a3, ve, vb, .int (iI (zSum (fun k => b (k * 6 + (qL (List.range n)) k)) n)), .int (iI ((1 : Nat) : Int)), .int (iI (pv))])), (O, qOut cO n R), (a3, zArr cI n (fun k => (((qL (List.range n)) k : Nat) : Int))), (a10, zArr cI n (fun k => (((qL M) k : Nat) : Int)))]) hP [0, 1, 2, 3] rfl
        have hD := qSubD (Xc := [(S, .inr (3, [.ref O, .int (iI (rc)), .ref a3, ve, vb, .int (iI (zSum (fun k => b (k * 6 + (qL (List.range n)) k)) n)), .int (iI ((1 : Nat) : Int)), .int (iI (pv))])), (O, qOut cO n R), (a3, zArr cI n (fun k => (((qL (List.range n)) k : Nat) : Int))), (a10, zArr cI n (fun k => (((qL M) k : Nat) : Int)))]) hD [0, 1, 2, 3] rfl (by decide) 4 rfl (by decide)
        refine W.widen (k := 1 + 2 * (0 + 1)) (n := 8 * (1 + 2 * (0 + 1))) (show 3 ≤ 1 + 2 * (0 + 1) by omega) (show 8 * (3) ≤ 8 * (1 + 2 * (0 + 1)) by omega) ?_
        exact LG (120 - (0 + 1) + 1) (0 + 1) (M) (zSum (fun k => b (k * 6 + (qL (List.range n)) k)) n) (1) ((List.range n)) (a3) (a10) (Nat.lt_succ_self _) hM hX1 (by omega) (by omega) _ _ hP hD hS _ (lv_sub hl [2, 0] rfl)
    · exact absurd c7 (by omega)
  · exact absurd c6 (by omega)
set_option maxHeartbeats 8000000 in
set_option maxRecDepth 100000 in
/-- X3_pays -/
theorem c_X3_pays (l : Launch) (D : va_G) (cI cO : ClassId) (S O n RM RB : Nat) (R g : Nat → Nat) (b rb : Nat → Int) (rc wv yv pv : Int) (ve : Value) (j : Nat) (hn : n ≤ 5) (hb0 : ∀ k, 0 ≤ b k ∧ b k ≤ 999) (hg : ∀ k, k < n → g k < n) (hj : j < n) : qR l yX3_pays wsX3_pays 0 0 D cI cO [.ref S, .int (iI ((j : Nat) : Int))] ([(S, .inr (3, [.ref O, .int (iI (rc)), .ref RM, ve, .ref RB, .int (iI (wv)), .int (iI (yv)), .int (iI (pv))])), (O, qOut cO n R), (RM, zArr cI n (fun k => ((g k : Nat) : Int))), (RB, zArr cI n rb)] ++ qRw cI n n R (fun i j => b (i * 6 + j))) (iI (b (j * 6 + g j) - rb j)) := by
  refine qR_of (cc := cX3_pays) (maxL := 2) (rt := .int) (by decide) rfl (Nat.le_of_ble_eq_true rfl) ?_
  intro p e s m args below meth c ls hF hr hlocks hP hK hl
  have hF : zFix p m c cX3_pays 2 s args wsX3_pays RX3 := hF
  obtain ⟨hx, hb, hml, hown, hts⟩ := id hF
  have hP : va_P D vwCl ([(S, .inr (3, [.ref O, .int (iI (rc)), .ref RM, ve, .ref RB, .int (iI (wv)), .int (iI (yv)), .int (iI (pv))])), (O, qOut cO n R), (RM, zArr cI n (fun k => ((g k : Nat) : Int))), (RB, zArr cI n rb)] ++ qRw cI n n R (fun i j => b (i * 6 + j))) s.heap := hP
  have hl : lv_has ls 2 [(0, .ref S), (1, .int (iI ((j : Nat) : Int)))] := hl
  have hgj := hg j hj
  refine lv_aload_n hx hb dX3_pays_0 rfl (lv_at hl 0 rfl) ?_
  refine va_get (D := D) (ci := 3) (v := .ref O) (C := RX3) (T := TX3) (N := 8) hx hb hts (by decide +kernel) hown hK hP 0 rfl rfl 0 (by decide) (hts (.fieldLink RX3 9 "RentHarmonyLaw$Sim" "bids" "[[I") (by decide +kernel)) (fun _ h9 => h9) rfl dX3_pays_1 ?_
  refine lv_iload_n hx hb dX3_pays_4 rfl (lv_at hl 1 rfl) ?_
  refine zq_ald hx hb hK hP 1 1 rfl rfl (j) (by omega) (by omega) (by omega) dX3_pays_5 ?_
  refine lv_aload_n hx hb dX3_pays_6 rfl (lv_at hl 0 rfl) ?_
  refine va_get (D := D) (ci := 3) (v := .ref RM) (C := RX3) (T := TX3) (N := 8) hx hb hts (by decide +kernel) hown hK hP 0 rfl rfl 2 (by decide) (hts (.fieldLink RX3 39 "RentHarmonyLaw$Sim" "rooms" "[I") (by decide +kernel)) (fun _ h9 => h9) rfl dX3_pays_7 ?_
  refine lv_iload_n hx hb dX3_pays_10 rfl (lv_at hl 1 rfl) ?_
  refine zr_iald hx hb hK hP 2 0 rfl rfl (j) (by omega) (by omega) (by omega) dX3_pays_11 ?_
  refine zq_rld (f := (fun i j => b (i * 6 + j)) j) hx hb hK hP 0 (List.mem_append_right _ (qRw_mem (by omega))) rfl (g (j)) (by omega) (by omega) (by omega) dX3_pays_12 ?_
  refine zr_topi (show (fun i j => b (i * 6 + j)) j (g (j)) = (b (j * 6 + (g (j)))) from rfl) ?_
  have hb1 := hb0 (j * 6 + (g (j)))
  refine lv_aload_n hx hb dX3_pays_13 rfl (lv_at hl 0 rfl) ?_
  refine va_get (D := D) (ci := 3) (v := .ref RB) (C := RX3) (T := TX3) (N := 8) hx hb hts (by decide +kernel) hown hK hP 0 rfl rfl 4 (by decide) (hts (.fieldLink RX3 59 "RentHarmonyLaw$Sim" "rebates" "[I") (by decide +kernel)) (fun _ h9 => h9) rfl dX3_pays_14 ?_
  refine lv_iload_n hx hb dX3_pays_17 rfl (lv_at hl 1 rfl) ?_
  refine zr_iald hx hb hK hP 3 0 rfl rfl (j) (by omega) (by omega) (by omega) dX3_pays_18 ?_
  refine zr_sub hx hb dX3_pays_19 ?_
  exact zRi_ret hx hb hr hlocks dX3_pays_20 rfl
set_option maxHeartbeats 8000000 in
set_option maxRecDepth 100000 in
/-- X3_envies -/
theorem c_X3_envies (l : Launch) (D : va_G) (cI cO : ClassId) (S O n RM : Nat) (R g : Nat → Nat) (b : Nat → Int) (rc wv yv pv : Int) (ve vb : Value) (j k : Nat) (hn : n ≤ 5) (hb0 : ∀ k, 0 ≤ b k ∧ b k ≤ 999) (hg : ∀ k, k < n → g k < n) (hj : j < n) (hk : k < n) : qR l yX3_envies wsX3_envies 0 0 D cI cO [.ref S, .int (iI ((j : Nat) : Int)), .int (iI ((k : Nat) : Int))] ([(S, .inr (3, [.ref O, .int (iI (rc)), .ref RM, ve, vb, .int (iI (wv)), .int (iI (yv)), .int (iI (pv))])), (O, qOut cO n R), (RM, zArr cI n (fun k => ((g k : Nat) : Int)))] ++ qRw cI n n R (fun i j => b (i * 6 + j))) (iI (bZ (zEn b g j k))) := by
  refine qR_of (cc := cX3_envies) (maxL := 3) (rt := .boolean) (by decide) rfl (Nat.le_of_ble_eq_true rfl) ?_
  intro p e s m args below meth c ls hF hr hlocks hP hK hl
  have hF : zFix p m c cX3_envies 3 s args wsX3_envies RX3 := hF
  obtain ⟨hx, hb, hml, hown, hts⟩ := id hF
  have hP : va_P D vwCl ([(S, .inr (3, [.ref O, .int (iI (rc)), .ref RM, ve, vb, .int (iI (wv)), .int (iI (yv)), .int (iI (pv))])), (O, qOut cO n R), (RM, zArr cI n (fun k => ((g k : Nat) : Int)))] ++ qRw cI n n R (fun i j => b (i * 6 + j))) s.heap := hP
  have hl : lv_has ls 3 [(0, .ref S), (1, .int (iI ((j : Nat) : Int))), (2, .int (iI ((k : Nat) : Int)))] := hl
  have hgj := hg j hj
  have hgk := hg k hk
  refine lv_aload_n hx hb dX3_envies_0 rfl (lv_at hl 0 rfl) ?_
  refine va_get (D := D) (ci := 3) (v := .ref O) (C := RX3) (T := TX3) (N := 8) hx hb hts (by decide +kernel) hown hK hP 0 rfl rfl 0 (by decide) (hts (.fieldLink RX3 9 "RentHarmonyLaw$Sim" "bids" "[[I") (by decide +kernel)) (fun _ h9 => h9) rfl dX3_envies_1 ?_
  refine lv_iload_n hx hb dX3_envies_4 rfl (lv_at hl 1 rfl) ?_
  refine zq_ald hx hb hK hP 1 1 rfl rfl (j) (by omega) (by omega) (by omega) dX3_envies_5 ?_
  refine lv_aload_n hx hb dX3_envies_6 rfl (lv_at hl 0 rfl) ?_
  refine va_get (D := D) (ci := 3) (v := .ref RM) (C := RX3) (T := TX3) (N := 8) hx hb hts (by decide +kernel) hown hK hP 0 rfl rfl 2 (by decide) (hts (.fieldLink RX3 39 "RentHarmonyLaw$Sim" "rooms" "[I") (by decide +kernel)) (fun _ h9 => h9) rfl dX3_envies_7 ?_
  refine lv_iload_n hx hb dX3_envies_10 rfl (lv_at hl 2 rfl) ?_
  refine zr_iald hx hb hK hP 2 0 rfl rfl (k) (by omega) (by omega) (by omega) dX3_envies_11 ?_
  refine zq_rld (f := (fun i j => b (i * 6 + j)) j) hx hb hK hP 0 (List.mem_append_right _ (qRw_mem (by omega))) rfl (g (k)) (by omega) (by omega) (by omega) dX3_envies_12 ?_
  refine zr_topi (show (fun i j => b (i * 6 + j)) j (g (k)) = (b (j * 6 + (g (k)))) from rfl) ?_
  have hb1 := hb0 (j * 6 + (g (k)))
  refine lv_aload_n hx hb dX3_envies_13 rfl (lv_at hl 0 rfl) ?_
  refine va_get (D := D) (ci := 3) (v := .ref O) (C := RX3) (T := TX3) (N := 8) hx hb hts (by decide +kernel) hown hK hP 0 rfl rfl 0 (by decide) (hts (.fieldLink RX3 9 "RentHarmonyLaw$Sim" "bids" "[[I") (by decide +kernel)) (fun _ h9 => h9) rfl dX3_envies_14 ?_
  refine lv_iload_n hx hb dX3_envies_17 rfl (lv_at hl 1 rfl) ?_
  refine zq_ald hx hb hK hP 1 1 rfl rfl (j) (by omega) (by omega) (by omega) dX3_envies_18 ?_
  refine lv_aload_n hx hb dX3_envies_19 rfl (lv_at hl 0 rfl) ?_
  refine va_get (D := D) (ci := 3) (v := .ref RM) (C := RX3) (T := TX3) (N := 8) hx hb hts (by decide +kernel) hown hK hP 0 rfl rfl 2 (by decide) (hts (.fieldLink RX3 39 "RentHarmonyLaw$Sim" "rooms" "[I") (by decide +kernel)) (fun _ h9 => h9) rfl dX3_envies_20 ?_
  refine lv_iload_n hx hb dX3_envies_23 rfl (lv_at hl 1 rfl) ?_
  refine zr_iald hx hb hK hP 2 0 rfl rfl (j) (by omega) (by omega) (by omega) dX3_envies_24 ?_
  refine zq_rld (f := (fun i j => b (i * 6 + j)) j) hx hb hK hP 0 (List.mem_append_right _ (qRw_mem (by omega))) rfl (g (j)) (by omega) (by omega) (by omega) dX3_envies_25 ?_
  refine zr_topi (show (fun i j => b (i * 6 + j)) j (g (j)) = (b (j * 6 + (g (j)))) from rfl) ?_
  have hb2 := hb0 (j * 6 + (g (j)))
  refine zr_icmp_le (tgt := 33) hx hb dX3_envies_26 (by decide) (zB_of (by omega) (by omega)) (zB_of (by omega) (by omega)) (fun c3 => ?_) (fun c3 => ?_)
  · refine zr_ic (n := ((0 : Nat) : Int)) hx hb dX3_envies_33 ?_
    exact zRi_retz hx hb hr rfl hlocks dX3_envies_34 (congrArg iI (bZ_f (by omega)).symm)
  · refine zr_ic (n := ((1 : Nat) : Int)) hx hb dX3_envies_29 ?_
    refine lv_goto (tgt := 34) hx hb dX3_envies_30 (by decide) ?_
    exact zRi_retz hx hb hr rfl hlocks dX3_envies_34 (congrArg iI (bZ_t (by omega)).symm)
set_option maxHeartbeats 8000000 in
set_option maxRecDepth 100000 in
/-- X3_chain -/
theorem c_X3_chain (l : Launch) (D : va_G) (cI cO : ClassId) (S O n RM : Nat) (R g : Nat → Nat) (b : Nat → Int) (rc wv yv pv : Int) (ve vb : Value) (L : Nat → Int) (hn : n ≤ 5) (hb0 : ∀ k, 0 ≤ b k ∧ b k ≤ 999) (hg : ∀ k, k < n → g k < n) (hL : zIsL n b g L) (sz : Nat) : qI (S := Unit) l yX3_chain wsX3_chain 1 30 1 D cI cO [.ref S] ([(S, .inr (3, [.ref O, .int (iI (rc)), .ref RM, ve, vb, .int (iI (wv)), .int (iI (yv)), .int (iI (pv))])), (O, qOut cO n R), (RM, zArr cI n (fun k => ((g k : Nat) : Int)))] ++ qRw cI n n R (fun i j => b (i * 6 + j))) sz (fun r _ => r = iI (zMx L n)) (fun (_ : Unit) => ([(S, .inr (3, [.ref O, .int (iI (rc)), .ref RM, ve, vb, .int (iI (wv)), .int (iI (yv)), .int (iI (pv))])), (O, qOut cO n R), (RM, zArr cI n (fun k => ((g k : Nat) : Int)))] ++ qRw cI n n R (fun i j => b (i * 6 + j)))) := by
  refine qI_of (cc := cX3_chain) (maxL := 8) (rt := .int) (by decide) rfl (Nat.le_of_ble_eq_true rfl) ?_
  intro p e s m args below meth c ls A hF hr hlocks hP hK hD hS hA hE hl
  have hF : zFix p m c cX3_chain 8 s args wsX3_chain RX3 := hF
  obtain ⟨hx, hb, hml, hown, hts⟩ := id hF
  have hP : va_P D vwCl ([(S, .inr (3, [.ref O, .int (iI (rc)), .ref RM, ve, vb, .int (iI (wv)), .int (iI (yv)), .int (iI (pv))])), (O, qOut cO n R), (RM, zArr cI n (fun k => ((g k : Nat) : Int)))] ++ qRw cI n n R (fun i j => b (i * 6 + j))) s.heap := hP
  have hD : va_D A ([(S, .inr (3, [.ref O, .int (iI (rc)), .ref RM, ve, vb, .int (iI (wv)), .int (iI (yv)), .int (iI (pv))])), (O, qOut cO n R), (RM, zArr cI n (fun k => ((g k : Nat) : Int)))] ++ qRw cI n n R (fun i j => b (i * 6 + j))) := hD
  have hl : lv_has ls 8 [(0, .ref S)] := hl
  refine lv_aload_n hx hb dX3_chain_0 rfl (lv_at hl 0 rfl) ?_
  refine zc_riP (As := []) (rest := []) hF (c_X3_n l D cI cO S O n R rc wv yv pv (.ref RM) ve vb ) (cwV 0 hts gX3_chain_X3_n rfl rfl rfl (by decide +kernel) ⟨Nat.le_of_ble_eq_true rfl, Nat.le_of_ble_eq_true rfl⟩) hK (hP.sub (ws' := [(S, .inr (3, [.ref O, .int (iI (rc)), .ref RM, ve, vb, .int (iI (wv)), .int (iI (yv)), .int (iI (pv))])), (O, qOut cO n R)]) [0, 1] rfl) 0 rfl rfl rfl rfl hl.1 rfl (Nat.le_of_ble_eq_true rfl) dX3_chain_1 ⟨(show 0 ≤ 1 by omega), (show 8 * (0) ≤ 8 * 1 by omega)⟩ ?_
  refine lv_istore_n (lv' := [(1, .int (iI ((n : Nat) : Int))), (0, .ref S)]) hx hb dX3_chain_4 rfl hl (by decide) rfl (fun ls hl => ?_)
  refine lv_iload_n hx hb dX3_chain_5 rfl (lv_at hl 0 rfl) ?_
  refine zq_newa hx hb (hts (.arrayClass .int) (by decide +kernel)) hK hP hD hS hA (n) (by omega) (by omega) (show 0 + 1 ≤ 1 by omega) (show 8 * (0) + 8 ≤ 8 * 1 by omega) dX3_chain_6 (fun q1 H hP hD hS => ?_)
  have hP : va_P D vwCl ([(S, .inr (3, [.ref O, .int (iI (rc)), .ref RM, ve, vb, .int (iI (wv)), .int (iI (yv)), .int (iI (pv))])), (O, qOut cO n R), (RM, zArr cI n (fun k => ((g k : Nat) : Int))), (q1, zArr cI n (fun _ => 0))] ++ qRw cI n n R (fun i j => b (i * 6 + j))) _ := hP
  have hD : va_D A ([(S, .inr (3, [.ref O, .int (iI (rc)), .ref RM, ve, vb, .int (iI (wv)), .int (iI (yv)), .int (iI (pv))])), (O, qOut cO n R), (RM, zArr cI n (fun k => ((g k : Nat) : Int))), (q1, zArr cI n (fun _ => 0))] ++ qRw cI n n R (fun i j => b (i * 6 + j))) := hD
  refine lv_astore_n (lv' := [(2, .ref q1), (1, .int (iI ((n : Nat) : Int))), (0, .ref S)]) hx hb dX3_chain_8 rfl hl (by decide) rfl (fun ls hl => ?_)
  refine zr_ic (n := ((0 : Nat) : Int)) hx hb dX3_chain_9 ?_
  refine lv_istore_n (lv' := [(3, .int (iI ((0 : Nat) : Int))), (2, .ref q1), (1, .int (iI ((n : Nat) : Int))), (0, .ref S)]) hx hb dX3_chain_10 rfl hl (by decide) rfl (fun ls hl => ?_)
  refine zr_ic (n := ((0 : Nat) : Int)) hx hb dX3_chain_11 ?_
  refine lv_istore (lv' := [(4, .int (iI ((0 : Nat) : Int))), (3, .int (iI ((0 : Nat) : Int))), (2, .ref q1), (1, .int (iI ((n : Nat) : Int))), (0, .ref S)]) hx hb dX3_chain_12 hl (by decide) rfl (fun ls hl => ?_)
  have LT : ∀ (k0 : Nat) (tm : Nat) (ch : Nat → Int), n - tm < k0 → (htm : tm ≤ n) → (hI : qChI n L tm 0 ch) → ∀ (H : Heap) (locs : List Loc), va_P D vwCl ([(S, .inr (3, [.ref O, .int (iI (rc)), .ref RM, ve, vb, .int (iI (wv)), .int (iI (yv)), .int (iI (pv))])), (O, qOut cO n R), (RM, zArr cI n (fun k => ((g k : Nat) : Int))), (q1, zArr cI n ch)] ++ qRw cI n n R (fun i j => b (i * 6 + j))) H → va_D A ([(S, .inr (3, [.ref O, .int (iI (rc)), .ref RM, ve, vb, .int (iI (wv)), .int (iI (yv)), .int (iI (pv))])), (O, qOut cO n R), (RM, zArr cI n (fun k => ((g k : Nat) : Int))), (q1, zArr cI n ch)] ++ qRw cI n n R (fun i j => b (i * 6 + j))) → va_S A s.heap H locs → ∀ (ls : Array Slot), lv_has ls 8 [(0, .ref S), (1, .int (iI ((n : Nat) : Int))), (2, .ref q1), (3, .int (iI ((0 : Nat) : Int))), (4, .int (iI ((tm : Nat) : Int)))] → W p l e (qRm 1 30 1) s m args below meth c H locs 1 (8 * 1) (MQ below (va_Qi (S := Unit) (fun r _ => r = iI (zMx L n)) (fun u9 t9 => va_P D vwCl ((fun (_ : Unit) => ([(S, .inr (3, [.ref O, .int (iI (rc)), .ref RM, ve, vb, .int (iI (wv)), .int (iI (yv)), .int (iI (pv))])), (O, qOut cO n R), (RM, zArr cI n (fun k => ((g k : Nat) : Int)))] ++ qRw cI n n R (fun i j => b (i * 6 + j)))) u9) t9.heap ∧ va_D A ((fun (_ : Unit) => ([(S, .inr (3, [.ref O, .int (iI (rc)), .ref RM, ve, vb, .int (iI (wv)), .int (iI (yv)), .int (iI (pv))])), (O, qOut cO n R), (RM, zArr cI n (fun k => ((g k : Nat) : Int)))] ++ qRw cI n n R (fun i j => b (i * 6 + j)))) u9)) A) args s 1 (8 * 1) A) (F0 m 14 ls []) := by
    intro k0
    induction k0 with
    | zero => intro tm ch hk; exact absurd hk (Nat.not_lt_zero _)
    | succ k0 ih_LT =>
      intro tm ch hk htm hI H locs hP hD hS ls hl
      refine lv_iload hx hb dX3_chain_14 (lv_at hl 4 rfl) ?_
      refine lv_iload_n hx hb dX3_chain_16 rfl (lv_at hl 1 rfl) ?_
      refine zr_icmp_ge (tgt := 89) hx hb dX3_chain_17 (by decide) (zB_of (by omega) (by omega)) (zB_of (by omega) (by omega)) (fun c2 => ?_) (fun c2 => ?_)
      · refine lv_aload_n hx hb dX3_chain_89 rfl (lv_at hl 2 rfl) ?_
        refine lv_astore (lv' := [(4, .ref q1), (0, .ref S), (1, .int (iI ((n : Nat) : Int))), (2, .ref q1), (3, .int (iI ((0 : Nat) : Int)))]) hx hb dX3_chain_90 hl (by decide) rfl (fun ls hl => ?_)
        refine lv_aload hx hb dX3_chain_92 (lv_at hl 0 rfl) ?_
        refine zr_alen hx hb hK hP 3 0 rfl rfl dX3_chain_94 ?_
        refine lv_istore (lv' := [(5, .int (iI ((n : Nat) : Int))), (4, .ref q1), (0, .ref S), (1, .int (iI ((n : Nat) : Int))), (2, .ref q1), (3, .int (iI ((0 : Nat) : Int)))]) hx hb dX3_chain_95 hl (by decide) rfl (fun ls hl => ?_)
        refine zr_ic (n := ((0 : Nat) : Int)) hx hb dX3_chain_97 ?_
        refine lv_istore (lv' := [(6, .int (iI ((0 : Nat) : Int))), (5, .int (iI ((n : Nat) : Int))), (4, .ref q1), (0, .ref S), (1, .int (iI ((n : Nat) : Int))), (2, .ref q1), (3, .int (iI ((0 : Nat) : Int)))]) hx hb dX3_chain_98 hl (by decide) rfl (fun ls hl => ?_)
        have LMx : ∀ (k0 : Nat) (d9 : Nat), n - d9 < k0 → (hd9 : d9 ≤ n) → ∀ (H : Heap) (locs : List Loc), va_P D vwCl ([(S, .inr (3, [.ref O, .int (iI (rc)), .ref RM, ve, vb, .int (iI (wv)), .int (iI (yv)), .int (iI (pv))])), (O, qOut cO n R), (RM, zArr cI n (fun k => ((g k : Nat) : Int))), (q1, zArr cI n ch)] ++ qRw cI n n R (fun i j => b (i * 6 + j))) H → va_D A ([(S, .inr (3, [.ref O, .int (iI (rc)), .ref RM, ve, vb, .int (iI (wv)), .int (iI (yv)), .int (iI (pv))])), (O, qOut cO n R), (RM, zArr cI n (fun k => ((g k : Nat) : Int))), (q1, zArr cI n ch)] ++ qRw cI n n R (fun i j => b (i * 6 + j))) → va_S A s.heap H locs → ∀ (ls : Array Slot), lv_has ls 8 [(0, .ref S), (1, .int (iI ((n : Nat) : Int))), (2, .ref q1), (3, .int (iI (zMx ch d9))), (4, .ref q1), (5, .int (iI ((n : Nat) : Int))), (6, .int (iI ((d9 : Nat) : Int)))] → W p l e (qRm 1 30 1) s m args below meth c H locs 1 (8 * 1) (MQ below (va_Qi (S := Unit) (fun r _ => r = iI (zMx L n)) (fun u9 t9 => va_P D vwCl ((fun (_ : Unit) => ([(S, .inr (3, [.ref O, .int (iI (rc)), .ref RM, ve, vb, .int (iI (wv)), .int (iI (yv)), .int (iI (pv))])), (O, qOut cO n R), (RM, zArr cI n (fun k => ((g k : Nat) : Int)))] ++ qRw cI n n R (fun i j => b (i * 6 + j)))) u9) t9.heap ∧ va_D A ((fun (_ : Unit) => ([(S, .inr (3, [.ref O, .int (iI (rc)), .ref RM, ve, vb, .int (iI (wv)), .int (iI (yv)), .int (iI (pv))])), (O, qOut cO n R), (RM, zArr cI n (fun k => ((g k : Nat) : Int)))] ++ qRw cI n n R (fun i j => b (i * 6 + j)))) u9)) A) args s 1 (8 * 1) A) (F0 m 100 ls []) := by
          intro k0
          induction k0 with
          | zero => intro d9 hk; exact absurd hk (Nat.not_lt_zero _)
          | succ k0 ih_LMx =>
            intro d9 hk hd9 H locs hP hD hS ls hl
            refine lv_iload hx hb dX3_chain_100 (lv_at hl 6 rfl) ?_
            refine lv_iload hx hb dX3_chain_102 (lv_at hl 5 rfl) ?_
            refine zr_icmp_ge (tgt := 127) hx hb dX3_chain_104 (by decide) (zB_of (by omega) (by omega)) (zB_of (by omega) (by omega)) (fun c3 => ?_) (fun c3 => ?_)
            · refine lv_iload_n hx hb dX3_chain_127 rfl (lv_at hl 3 rfl) ?_
              have hP := qSub (Xc := [(S, .inr (3, [.ref O, .int (iI (rc)), .ref RM, ve, vb, .int (iI (wv)), .int (iI (yv)), .int (iI (pv))])), (O, qOut cO n R), (RM, zArr cI n (fun k => ((g k : Nat) : Int)))]) hP [0, 1, 2] rfl
              have hD := qSubD (Xc := [(S, .inr (3, [.ref O, .int (iI (rc)), .ref RM, ve, vb, .int (iI (wv)), .int (iI (yv)), .int (iI (pv))])), (O, qOut cO n R), (RM, zArr cI n (fun k => ((g k : Nat) : Int)))]) hD [0, 1, 2] rfl (by decide) 4 rfl (by decide)
              exact qI_ret hx hb hr hlocks hS dX3_chain_128 (show 1 ≤ 1 by omega) () (congrArg iI (by rw [show d9 = n by omega]; exact zMx_congr n (qChI_end hL (by omega) hI))) hP hD
            · refine lv_aload hx hb dX3_chain_107 (lv_at hl 4 rfl) ?_
              refine lv_iload hx hb dX3_chain_109 (lv_at hl 6 rfl) ?_
              refine zr_iald hx hb hK hP 3 0 rfl rfl (d9) (by omega) (by omega) (by omega) dX3_chain_111 ?_
              refine lv_istore (lv' := [(7, .int (iI (ch (d9)))), (0, .ref S), (1, .int (iI ((n : Nat) : Int))), (2, .ref q1), (3, .int (iI (zMx ch d9))), (4, .ref q1), (5, .int (iI ((n : Nat) : Int))), (6, .int (iI ((d9 : Nat) : Int)))]) hx hb dX3_chain_112 hl (by decide) rfl (fun ls hl => ?_)
              refine lv_iload_n hx hb dX3_chain_114 rfl (lv_at hl 4 rfl) ?_
              refine lv_iload hx hb dX3_chain_115 (lv_at hl 0 rfl) ?_
              have hend := qChI_end hL (by omega) hI
              have hm1 := zMx_b (f := ch) (M := 10) (by decide) d9 (fun i hi => by have q := hL.1 i (by omega); rw [hend i (by omega)]; omega)
              have hm2 := hend d9 (by omega)
              have hm3 := hL.1 d9 (by omega)
              refine zr_max (rest := []) hx hb (hml.trans hl.1.symm) hown (hts (.methodLink RX3 50 Lib.Math.max.name) (by decide +kernel)) (hts (.static Lib.Math.max.name) (by decide +kernel)) (hts (.initialized "java/lang/Math") (by decide +kernel)) (hts (.code Lib.Math.max.name Lib.Math.max.code 2 (some .int)) (by decide +kernel)) (Nat.le_of_ble_eq_true rfl) (Nat.le_of_ble_eq_true rfl) (Nat.le_of_ble_eq_true rfl) (show 8 * (1) ≤ 8 * 1 by omega) (zB_of (by omega) (by omega)) (zB_of (by omega) (by omega)) dX3_chain_117 ?_
              refine lv_istore_n (lv' := [(3, .int (iI (max (zMx ch d9) (ch (d9))))), (7, .int (iI (ch (d9)))), (0, .ref S), (1, .int (iI ((n : Nat) : Int))), (2, .ref q1), (4, .ref q1), (5, .int (iI ((n : Nat) : Int))), (6, .int (iI ((d9 : Nat) : Int)))]) hx hb dX3_chain_120 rfl hl (by decide) rfl (fun ls hl => ?_)
              refine zr_iinc (lv2 := [(6, .int (iI (((d9 : Nat) : Int) + 1))), (3, .int (iI (max (zMx ch d9) (ch (d9))))), (7, .int (iI (ch (d9)))), (0, .ref S), (1, .int (iI ((n : Nat) : Int))), (2, .ref q1), (4, .ref q1), (5, .int (iI ((n : Nat) : Int)))]) hx hb dX3_chain_121 hl (k0 := 7) rfl (by decide) rfl (fun ls hl => ?_)
              have hl : lv_has ls 8 [(6, .int (iI ((d9 + 1 : Nat) : Int))), (3, .int (iI (max (zMx ch d9) (ch (d9))))), (7, .int (iI (ch (d9)))), (0, .ref S), (1, .int (iI ((n : Nat) : Int))), (2, .ref q1), (4, .ref q1), (5, .int (iI ((n : Nat) : Int)))] := hl
              refine lv_goto (tgt := 100) hx hb dX3_chain_124 (by decide) ?_
              have hl : lv_has ls 8 [(6, .int (iI ((d9 + 1 : Nat) : Int))), (3, .int (iI (zMx ch (d9 + 1)))), (7, .int (iI (ch (d9)))), (0, .ref S), (1, .int (iI ((n : Nat) : Int))), (2, .ref q1), (4, .ref q1), (5, .int (iI ((n : Nat) : Int)))] := by rw [show (zMx ch (d9 + 1)) = (max (zMx ch d9) (ch (d9))) from rfl]; exact hl
              exact ih_LMx (d9 + 1) (by omega) (by omega) _ _ hP hD hS _ (lv_sub hl [3, 4, 5, 1, 6, 7, 0] rfl)
        have hl : lv_has ls 8 [(6, .int (iI ((0 : Nat) : Int))), (5, .int (iI ((n : Nat) : Int))), (4, .ref q1), (0, .ref S), (1, .int (iI ((n : Nat) : Int))), (2, .ref q1), (3, .int (iI (zMx ch 0)))] := by rw [show (zMx ch 0) = ((0 : Nat) : Int) from rfl]; exact hl
        exact LMx (n - (0) + 1) (0) (Nat.lt_succ_self _) (by omega) _ _ hP hD hS _ (lv_sub hl [3, 4, 5, 6, 2, 1, 0] rfl)
      · refine zr_ic (n := ((0 : Nat) : Int)) hx hb dX3_chain_20 ?_
        refine lv_istore (lv' := [(5, .int (iI ((0 : Nat) : Int))), (0, .ref S), (1, .int (iI ((n : Nat) : Int))), (2, .ref q1), (3, .int (iI ((0 : Nat) : Int))), (4, .int (iI ((tm : Nat) : Int)))]) hx hb dX3_chain_21 hl (by decide) rfl (fun ls hl => ?_)
        have LCa : ∀ (k0 : Nat) (a : Nat) (ch2 : Nat → Int), n - a < k0 → (ha : a ≤ n) → (hI2 : qChI n L tm a ch2) → ∀ (H : Heap) (locs : List Loc), va_P D vwCl ([(S, .inr (3, [.ref O, .int (iI (rc)), .ref RM, ve, vb, .int (iI (wv)), .int (iI (yv)), .int (iI (pv))])), (O, qOut cO n R), (RM, zArr cI n (fun k => ((g k : Nat) : Int))), (q1, zArr cI n ch2)] ++ qRw cI n n R (fun i j => b (i * 6 + j))) H → va_D A ([(S, .inr (3, [.ref O, .int (iI (rc)), .ref RM, ve, vb, .int (iI (wv)), .int (iI (yv)), .int (iI (pv))])), (O, qOut cO n R), (RM, zArr cI n (fun k => ((g k : Nat) : Int))), (q1, zArr cI n ch2)] ++ qRw cI n n R (fun i j => b (i * 6 + j))) → va_S A s.heap H locs → ∀ (ls : Array Slot), lv_has ls 8 [(0, .ref S), (1, .int (iI ((n : Nat) : Int))), (2, .ref q1), (3, .int (iI ((0 : Nat) : Int))), (4, .int (iI ((tm : Nat) : Int))), (5, .int (iI ((a : Nat) : Int)))] → W p l e (qRm 1 30 1) s m args below meth c H locs 1 (8 * 1) (MQ below (va_Qi (S := Unit) (fun r _ => r = iI (zMx L n)) (fun u9 t9 => va_P D vwCl ((fun (_ : Unit) => ([(S, .inr (3, [.ref O, .int (iI (rc)), .ref RM, ve, vb, .int (iI (wv)), .int (iI (yv)), .int (iI (pv))])), (O, qOut cO n R), (RM, zArr cI n (fun k => ((g k : Nat) : Int)))] ++ qRw cI n n R (fun i j => b (i * 6 + j)))) u9) t9.heap ∧ va_D A ((fun (_ : Unit) => ([(S, .inr (3, [.ref O, .int (iI (rc)), .ref RM, ve, vb, .int (iI (wv)), .int (iI (yv)), .int (iI (pv))])), (O, qOut cO n R), (RM, zArr cI n (fun k => ((g k : Nat) : Int)))] ++ qRw cI n n R (fun i j => b (i * 6 + j)))) u9)) A) args s 1 (8 * 1) A) (F0 m 23 ls []) := by
          intro k0
          induction k0 with
          | zero => intro a ch2 hk; exact absurd hk (Nat.not_lt_zero _)
          | succ k0 ih_LCa =>
            intro a ch2 hk ha hI2 H locs hP hD hS ls hl
            refine lv_iload hx hb dX3_chain_23 (lv_at hl 5 rfl) ?_
            refine lv_iload_n hx hb dX3_chain_25 rfl (lv_at hl 1 rfl) ?_
            refine zr_icmp_ge (tgt := 83) hx hb dX3_chain_26 (by decide) (zB_of (by omega) (by omega)) (zB_of (by omega) (by omega)) (fun c4 => ?_) (fun c4 => ?_)
            · refine zr_iinc (lv2 := [(4, .int (iI (((tm : Nat) : Int) + 1))), (0, .ref S), (1, .int (iI ((n : Nat) : Int))), (2, .ref q1), (3, .int (iI ((0 : Nat) : Int))), (5, .int (iI ((a : Nat) : Int)))]) hx hb dX3_chain_83 hl (k0 := 4) rfl (by decide) rfl (fun ls hl => ?_)
              have hl : lv_has ls 8 [(4, .int (iI ((tm + 1 : Nat) : Int))), (0, .ref S), (1, .int (iI ((n : Nat) : Int))), (2, .ref q1), (3, .int (iI ((0 : Nat) : Int))), (5, .int (iI ((a : Nat) : Int)))] := hl
              refine lv_goto (tgt := 14) hx hb dX3_chain_86 (by decide) ?_
              exact ih_LT (tm + 1) (ch2) (by omega) (by omega) (qChI_round (by omega) hI2) _ _ hP hD hS _ (lv_sub hl [1, 2, 3, 4, 0] rfl)
            · refine zr_ic (n := ((0 : Nat) : Int)) hx hb dX3_chain_29 ?_
              refine lv_istore (lv' := [(6, .int (iI ((0 : Nat) : Int))), (0, .ref S), (1, .int (iI ((n : Nat) : Int))), (2, .ref q1), (3, .int (iI ((0 : Nat) : Int))), (4, .int (iI ((tm : Nat) : Int))), (5, .int (iI ((a : Nat) : Int)))]) hx hb dX3_chain_30 hl (by decide) rfl (fun ls hl => ?_)
              refine zr_ic (n := ((0 : Nat) : Int)) hx hb dX3_chain_32 ?_
              refine lv_istore (lv' := [(7, .int (iI ((0 : Nat) : Int))), (6, .int (iI ((0 : Nat) : Int))), (0, .ref S), (1, .int (iI ((n : Nat) : Int))), (2, .ref q1), (3, .int (iI ((0 : Nat) : Int))), (4, .int (iI ((tm : Nat) : Int))), (5, .int (iI ((a : Nat) : Int)))]) hx hb dX3_chain_33 hl (by decide) rfl (fun ls hl => ?_)
              have LCb : ∀ (k0 : Nat) (c9 : Nat), n - c9 < k0 → (hc9 : c9 ≤ n) → ∀ (H : Heap) (locs : List Loc), va_P D vwCl ([(S, .inr (3, [.ref O, .int (iI (rc)), .ref RM, ve, vb, .int (iI (wv)), .int (iI (yv)), .int (iI (pv))])), (O, qOut cO n R), (RM, zArr cI n (fun k => ((g k : Nat) : Int))), (q1, zArr cI n ch2)] ++ qRw cI n n R (fun i j => b (i * 6 + j))) H → va_D A ([(S, .inr (3, [.ref O, .int (iI (rc)), .ref RM, ve, vb, .int (iI (wv)), .int (iI (yv)), .int (iI (pv))])), (O, qOut cO n R), (RM, zArr cI n (fun k => ((g k : Nat) : Int))), (q1, zArr cI n ch2)] ++ qRw cI n n R (fun i j => b (i * 6 + j))) → va_S A s.heap H locs → ∀ (ls : Array Slot), lv_has ls 8 [(0, .ref S), (1, .int (iI ((n : Nat) : Int))), (2, .ref q1), (3, .int (iI ((0 : Nat) : Int))), (4, .int (iI ((tm : Nat) : Int))), (5, .int (iI ((a : Nat) : Int))), (6, .int (iI (zLc b g ch2 a c9 - 1))), (7, .int (iI ((c9 : Nat) : Int)))] → W p l e (qRm 1 30 1) s m args below meth c H locs 1 (8 * 1) (MQ below (va_Qi (S := Unit) (fun r _ => r = iI (zMx L n)) (fun u9 t9 => va_P D vwCl ((fun (_ : Unit) => ([(S, .inr (3, [.ref O, .int (iI (rc)), .ref RM, ve, vb, .int (iI (wv)), .int (iI (yv)), .int (iI (pv))])), (O, qOut cO n R), (RM, zArr cI n (fun k => ((g k : Nat) : Int)))] ++ qRw cI n n R (fun i j => b (i * 6 + j)))) u9) t9.heap ∧ va_D A ((fun (_ : Unit) => ([(S, .inr (3, [.ref O, .int (iI (rc)), .ref RM, ve, vb, .int (iI (wv)), .int (iI (yv)), .int (iI (pv))])), (O, qOut cO n R), (RM, zArr cI n (fun k => ((g k : Nat) : Int)))] ++ qRw cI n n R (fun i j => b (i * 6 + j)))) u9)) A) args s 1 (8 * 1) A) (F0 m 35 ls []) := by
                intro k0
                induction k0 with
                | zero => intro c9 hk; exact absurd hk (Nat.not_lt_zero _)
                | succ k0 ih_LCb =>
                  intro c9 hk hc9 H locs hP hD hS ls hl
                  refine lv_iload hx hb dX3_chain_35 (lv_at hl 7 rfl) ?_
                  refine lv_iload_n hx hb dX3_chain_37 rfl (lv_at hl 1 rfl) ?_
                  refine zr_icmp_ge (tgt := 69) hx hb dX3_chain_38 (by decide) (zB_of (by omega) (by omega)) (zB_of (by omega) (by omega)) (fun c5 => ?_) (fun c5 => ?_)
                  · refine lv_aload_n hx hb dX3_chain_69 rfl (lv_at hl 2 rfl) ?_
                    refine lv_iload hx hb dX3_chain_70 (lv_at hl 5 rfl) ?_
                    refine lv_iload hx hb dX3_chain_72 (lv_at hl 6 rfl) ?_
                    refine zr_ic (n := ((1 : Nat) : Int)) hx hb dX3_chain_74 ?_
                    refine zr_add hx hb dX3_chain_75 ?_
                    refine zr_topi (show ((zLc b g ch2 a c9 - 1) + ((1 : Nat) : Int)) = (zLc b g ch2 a n) from by rw [show c9 = n by omega]; omega) ?_
                    refine zr_iast hx hb hK hP hD hS 3 0 rfl rfl (a) (by omega) (by omega) (by omega) dX3_chain_76 (fun H locs hP hD hS => ?_)
                    have hP : va_P D vwCl ([(S, .inr (3, [.ref O, .int (iI (rc)), .ref RM, ve, vb, .int (iI (wv)), .int (iI (yv)), .int (iI (pv))])), (O, qOut cO n R), (RM, zArr cI n (fun k => ((g k : Nat) : Int))), (q1, zArr cI n (uZ ch2 (a) (zLc b g ch2 a n)))] ++ qRw cI n n R (fun i j => b (i * 6 + j))) _ := hP
                    have hD : va_D A ([(S, .inr (3, [.ref O, .int (iI (rc)), .ref RM, ve, vb, .int (iI (wv)), .int (iI (yv)), .int (iI (pv))])), (O, qOut cO n R), (RM, zArr cI n (fun k => ((g k : Nat) : Int))), (q1, zArr cI n (uZ ch2 (a) (zLc b g ch2 a n)))] ++ qRw cI n n R (fun i j => b (i * 6 + j))) := hD
                    refine zr_iinc (lv2 := [(5, .int (iI (((a : Nat) : Int) + 1))), (0, .ref S), (1, .int (iI ((n : Nat) : Int))), (2, .ref q1), (3, .int (iI ((0 : Nat) : Int))), (4, .int (iI ((tm : Nat) : Int))), (6, .int (iI (zLc b g ch2 a c9 - 1))), (7, .int (iI ((c9 : Nat) : Int)))]) hx hb dX3_chain_77 hl (k0 := 5) rfl (by decide) rfl (fun ls hl => ?_)
                    have hl : lv_has ls 8 [(5, .int (iI ((a + 1 : Nat) : Int))), (0, .ref S), (1, .int (iI ((n : Nat) : Int))), (2, .ref q1), (3, .int (iI ((0 : Nat) : Int))), (4, .int (iI ((tm : Nat) : Int))), (6, .int (iI (zLc b g ch2 a c9 - 1))), (7, .int (iI ((c9 : Nat) : Int)))] := hl
                    refine lv_goto (tgt := 23) hx hb dX3_chain_80 (by decide) ?_
                    exact ih_LCa (a + 1) ((uZ ch2 (a) (zLc b g ch2 a n))) (by omega) (by omega) (qChI_step hL (by omega) hI2) _ _ hP hD hS _ (lv_sub hl [1, 2, 3, 4, 5, 0] rfl)
                  · refine lv_aload_n hx hb dX3_chain_41 rfl (lv_at hl 0 rfl) ?_
                    refine lv_iload hx hb dX3_chain_42 (lv_at hl 5 rfl) ?_
                    refine lv_iload hx hb dX3_chain_44 (lv_at hl 7 rfl) ?_
                    refine zc_riP (As := [.int (iI ((a : Nat) : Int)), .int (iI ((c9 : Nat) : Int))]) (rest := []) hF (c_X3_envies l D cI cO S O n RM R g b rc wv yv pv ve vb a c9 (by omega) (by assumption) (by assumption) (by omega) (by omega)) (cwV 2 hts gX3_chain_X3_envies rfl rfl rfl (by decide +kernel) ⟨Nat.le_of_ble_eq_true rfl, Nat.le_of_ble_eq_true rfl⟩) hK (qSub (Xc := [(S, .inr (3, [.ref O, .int (iI (rc)), .ref RM, ve, vb, .int (iI (wv)), .int (iI (yv)), .int (iI (pv))])), (O, qOut cO n R), (RM, zArr cI n (fun k => ((g k : Nat) : Int)))]) hP [0, 1, 2] rfl) 0 rfl rfl rfl rfl hl.1 rfl (Nat.le_of_ble_eq_true rfl) dX3_chain_46 ⟨(show 1 ≤ 1 by omega), (show 8 * (1) ≤ 8 * 1 by omega)⟩ ?_
                    refine zr_ifB_eq (tgt := 63) hx hb dX3_chain_49 (by decide)  (fun c6 => ?_) (fun c6 => ?_)
                    · refine zr_iinc (lv2 := [(7, .int (iI (((c9 : Nat) : Int) + 1))), (0, .ref S), (1, .int (iI ((n : Nat) : Int))), (2, .ref q1), (3, .int (iI ((0 : Nat) : Int))), (4, .int (iI ((tm : Nat) : Int))), (5, .int (iI ((a : Nat) : Int))), (6, .int (iI (zLc b g ch2 a c9 - 1)))]) hx hb dX3_chain_63 hl (k0 := 7) rfl (by decide) rfl (fun ls hl => ?_)
                      have hl : lv_has ls 8 [(7, .int (iI ((c9 + 1 : Nat) : Int))), (0, .ref S), (1, .int (iI ((n : Nat) : Int))), (2, .ref q1), (3, .int (iI ((0 : Nat) : Int))), (4, .int (iI ((tm : Nat) : Int))), (5, .int (iI ((a : Nat) : Int))), (6, .int (iI (zLc b g ch2 a c9 - 1)))] := hl
                      refine lv_goto (tgt := 35) hx hb dX3_chain_66 (by decide) ?_
                      have hl : lv_has ls 8 [(7, .int (iI ((c9 + 1 : Nat) : Int))), (0, .ref S), (1, .int (iI ((n : Nat) : Int))), (2, .ref q1), (3, .int (iI ((0 : Nat) : Int))), (4, .int (iI ((tm : Nat) : Int))), (5, .int (iI ((a : Nat) : Int))), (6, .int (iI (zLc b g ch2 a (c9 + 1) - 1)))] := by rw [show (zLc b g ch2 a (c9 + 1) - 1) = (zLc b g ch2 a c9 - 1) from by show (if zEn b g a c9 then max (zLc b g ch2 a c9) (ch2 c9 + 1) else zLc b g ch2 a c9) - 1 = _; rw [if_neg c6]]; exact hl
                      exact ih_LCb (c9 + 1) (by omega) (by omega) _ _ hP hD hS _ (lv_sub hl [1, 2, 3, 4, 5, 6, 7, 0] rfl)
                    · refine lv_iload hx hb dX3_chain_52 (lv_at hl 6 rfl) ?_
                      refine lv_aload_n hx hb dX3_chain_54 rfl (lv_at hl 2 rfl) ?_
                      refine lv_iload hx hb dX3_chain_55 (lv_at hl 7 rfl) ?_
                      refine zr_iald hx hb hK hP 3 0 rfl rfl (c9) (by omega) (by omega) (by omega) dX3_chain_57 ?_
                      have hm1 := zLc_b (b := b) (g := g) (ch := ch2) (a := a) (M := 10) (by decide) c9 (fun c hc => by have q := hI2 c (by omega); have q2 := hL.1 c (by omega); omega)
                      have hm2 := hI2 c9 (by omega)
                      have hm3 := hL.1 c9 (by omega)
                      refine zr_max (rest := []) hx hb (hml.trans hl.1.symm) hown (hts (.methodLink RX3 50 Lib.Math.max.name) (by decide +kernel)) (hts (.static Lib.Math.max.name) (by decide +kernel)) (hts (.initialized "java/lang/Math") (by decide +kernel)) (hts (.code Lib.Math.max.name Lib.Math.max.code 2 (some .int)) (by decide +kernel)) (Nat.le_of_ble_eq_true rfl) (Nat.le_of_ble_eq_true rfl) (Nat.le_of_ble_eq_true rfl) (show 8 * (1) ≤ 8 * 1 by omega) (zB_of (by omega) (by omega)) (zB_of (by omega) (by omega)) dX3_chain_58 ?_
                      refine lv_istore (lv' := [(6, .int (iI (max (zLc b g ch2 a c9 - 1) (ch2 (c9))))), (0, .ref S), (1, .int (iI ((n : Nat) : Int))), (2, .ref q1), (3, .int (iI ((0 : Nat) : Int))), (4, .int (iI ((tm : Nat) : Int))), (5, .int (iI ((a : Nat) : Int))), (7, .int (iI ((c9 : Nat) : Int)))]) hx hb dX3_chain_61 hl (by decide) rfl (fun ls hl => ?_)
                      refine zr_iinc (lv2 := [(7, .int (iI (((c9 : Nat) : Int) + 1))), (6, .int (iI (max (zLc b g ch2 a c9 - 1) (ch2 (c9))))), (0, .ref S), (1, .int (iI ((n : Nat) : Int))), (2, .ref q1), (3, .int (iI ((0 : Nat) : Int))), (4, .int (iI ((tm : Nat) : Int))), (5, .int (iI ((a : Nat) : Int)))]) hx hb dX3_chain_63 hl (k0 := 7) rfl (by decide) rfl (fun ls hl => ?_)
                      have hl : lv_has ls 8 [(7, .int (iI ((c9 + 1 : Nat) : Int))), (6, .int (iI (max (zLc b g ch2 a c9 - 1) (ch2 (c9))))), (0, .ref S), (1, .int (iI ((n : Nat) : Int))), (2, .ref q1), (3, .int (iI ((0 : Nat) : Int))), (4, .int (iI ((tm : Nat) : Int))), (5, .int (iI ((a : Nat) : Int)))] := hl
                      refine lv_goto (tgt := 35) hx hb dX3_chain_66 (by decide) ?_
                      have hl : lv_has ls 8 [(7, .int (iI ((c9 + 1 : Nat) : Int))), (6, .int (iI (zLc b g ch2 a (c9 + 1) - 1))), (0, .ref S), (1, .int (iI ((n : Nat) : Int))), (2, .ref q1), (3, .int (iI ((0 : Nat) : Int))), (4, .int (iI ((tm : Nat) : Int))), (5, .int (iI ((a : Nat) : Int)))] := by rw [show (zLc b g ch2 a (c9 + 1) - 1) = (max (zLc b g ch2 a c9 - 1) (ch2 (c9))) from by show (if zEn b g a c9 then max (zLc b g ch2 a c9) (ch2 c9 + 1) else zLc b g ch2 a c9) - 1 = _; rw [if_pos c6]; omega]; exact hl
                      exact ih_LCb (c9 + 1) (by omega) (by omega) _ _ hP hD hS _ (lv_sub hl [2, 3, 4, 5, 6, 7, 1, 0] rfl)
              have hl : lv_has ls 8 [(7, .int (iI ((0 : Nat) : Int))), (6, .int (iI (zLc b g ch2 a 0 - 1))), (0, .ref S), (1, .int (iI ((n : Nat) : Int))), (2, .ref q1), (3, .int (iI ((0 : Nat) : Int))), (4, .int (iI ((tm : Nat) : Int))), (5, .int (iI ((a : Nat) : Int)))] := by rw [show (zLc b g ch2 a 0 - 1) = ((0 : Nat) : Int) from rfl]; exact hl
              exact LCb (n - (0) + 1) (0) (Nat.lt_succ_self _) (by omega) _ _ hP hD hS _ (lv_sub hl [2, 3, 4, 5, 6, 7, 1, 0] rfl)
        exact LCa (n - (0) + 1) (0) (ch) (Nat.lt_succ_self _) (by omega) hI _ _ hP hD hS _ (lv_sub hl [1, 2, 3, 4, 5, 0] rfl)
  exact LT (n - (0) + 1) (0) ((fun _ => 0)) (Nat.lt_succ_self _) (by omega) (qChI_start hL (fun a _ => rfl)) _ _ hP hD hS _ (lv_sub hl [4, 3, 2, 1, 0] rfl)
