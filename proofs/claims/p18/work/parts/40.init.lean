/-! p18: Sim's constructor; calls of constructors; contracts that read the script -/
section QAN
variable {p : Program} {l : Launch} {e : Env} {R0 : Room} {s : State} {m : MethodId} {args : Array Value} {below : List Frame} {meth : Method} {c : Code} {H : Heap} {locs : List Loc} {Q : State → Prop}
variable {cc : ByteArray} {pc : Nat} {ls : Array Slot} {rest : List Value} {D : va_G} {X B : va_W} {k : Nat} {A : Nat → Prop} {H0 : Heap} {cI cO : ClassId}
theorem zq_anew0 (hx : p.tables.exec = Jvm.exec) (hb : c.code = cc) {own : String} {index : Nat} (hown : s.vm.findClass own = some m.cls) (hclink : (Cond.classLink own index "[I").before args s = true) (hover : va_AOA .int s) (hK : va_K D vwCl (qTy cI cO) s) (hP : va_P D vwCl (X ++ B) H) (hD : va_D A (X ++ B)) (hS : va_S A H0 H locs) (hA : ∀ q, H0.size ≤ q → A q) (hc : k + 1 ≤ R0.cells) (hs : 8 * k + 8 ≤ R0.slots) (hdg : decode cc pc = .ok (.anewarray index, 3))
    (kk : ∀ (q : Nat) (H1 : Heap), va_P D vwCl ((X ++ [(q, qOut cO 0 (fun _ => 0))]) ++ B) H1 → va_D A ((X ++ [(q, qOut cO 0 (fun _ => 0))]) ++ B) → va_S A H0 H1 locs → W p l e R0 s m args below meth c H1 locs (k + 1) (8 * (k + 1)) Q (F0 m (pc + 3) ls (.ref q :: rest))) : W p l e R0 s m args below meth c H locs k (8 * k) Q (F0 m pc ls (.int (iI ((0 : Nat) : Int)) :: rest)) := by
  refine W.anewA (t := .int) hx hb hown (by rw [show (FieldType.array .int).toString = "[I" from qS1]; exact hclink) hover.use rfl hdg rfl (by decide) (by decide) (by show k + 1 ≤ _; exact hc) (by show 8 * k + 0 ≤ _; omega) (fun cA kA comp f1 f2 f3 f4 => ?_)
  have ec : cA = cO := Option.some.inj (f1.symm.trans (hK.2 1 _ rfl).2)
  subst ec
  have hk9 : ∀ (j : Nat) (x : Nat × va_E), (X ++ B)[j]? = some x → (H.push ({ cls := cA, slots := Array.replicate (iI ((0 : Nat) : Int)).toNatClampNeg .null, vm := .none } : Cell))[x.1]? = H[x.1]? := fun j x hx9 => by
    rw [Array.getElem?_push, if_neg (Nat.ne_of_lt ((hP j x hx9).lt))]
  have hP1 : va_P D vwCl ((X ++ B) ++ [(H.size, qOut cA 0 (fun _ => 0))]) (H.push ({ cls := cA, slots := Array.replicate (iI ((0 : Nat) : Int)).toNatClampNeg .null, vm := .none } : Cell)) := (hP.kept hk9).app (fun j x hx9 => by
    have hz : j < 1 := (List.getElem?_eq_some_iff.mp hx9).1
    rw [show j = 0 by omega] at hx9
    cases hx9
    show (H.push _)[H.size]? = some (vp_cell cA (0, .inr (.inr (.inr (.inr (fun i => if i < 0 then some 0 else none))))))
    rw [Array.getElem?_push_size, vp_cell_q]
    exact congrArg some ((arrV_new cA 0 .null).trans rfl))
  have hD1 : va_D A ((X ++ B) ++ [(H.size, qOut cA 0 (fun _ => 0))]) := hD.push hP rfl (hA _ hS.1)
  have hS1 : va_S A H0 (H.push ({ cls := cA, slots := Array.replicate (iI ((0 : Nat) : Int)).toNatClampNeg .null, vm := .none } : Cell)) locs := ⟨Nat.le_trans hS.1 (by rw [Array.size_push]; omega), fun x h1 h2 => by
    rw [Array.getElem?_push, if_neg (Nat.ne_of_lt (Nat.lt_of_lt_of_le h1 hS.1))]
    exact hS.2.1 x h1 h2, hS.2.2⟩
  exact W.widen (k := k + 1) (n := 8 * (k + 1)) (Nat.le_refl _) (by show 8 * k + 0 ≤ _; omega) (kk H.size _ hP1.swap hD1.swap hS1)
end QAN
abbrev qNew (a : Nat) : va_W := [(a, .inr (3, [.null, .int 0, .null, .null, .null, .int 0, .int 0, .int 0]))]
abbrev qNewO (cO : ClassId) (a o : Nat) : va_W := [(a, .inr (3, [.ref o, .int (iI ((0 : Nat) : Int)), .null, .null, .null, .int (iI ((0 : Nat) : Int)), .int (iI ((0 : Nat) : Int)), .int (iI ((0 : Nat) : Int))])), (o, qOut cO 0 (fun _ => 0))]
set_option maxHeartbeats 4000000 in
set_option maxRecDepth 100000 in
theorem c_X3_init (l : Launch) (D : va_G) (cI cO : ClassId) (a sz : Nat) : qV (S := Nat) l yX3_init wsX3_init 1 12 1 D cI cO [.ref a] (qNew a) sz (fun _ => True) (fun o => qNewO cO a o) := by
  refine qV_of (cc := cX3_init) (maxL := 1) (by decide) rfl (Nat.le_of_ble_eq_true rfl) ?_
  intro p e s m args below meth c ls A hF hr hlocks hP hK hD hS hA hE hl
  have hF : zFix p m c cX3_init 1 s args wsX3_init RX3 := hF
  obtain ⟨hx, hb, hml, hown, hts⟩ := id hF
  have hl : lv_has ls 1 [(0, .ref a)] := hl
  refine lv_aload_n hx hb dX3_init_0 rfl (lv_at hl 0 rfl) ?_
  refine W.objInit hx hb hown (hts (.methodLink RX3 1 objectInit) (by decide +kernel)) (hts (.instanceMethod objectInit) (by decide +kernel)) (hts (.code objectInit ⟨#[0xb1]⟩ 1 none) (by decide +kernel)) rfl (by rw [hml]; exact hl.1) rfl dX3_init_1 (Nat.le_of_ble_eq_true rfl) (Nat.le_of_ble_eq_true rfl) ?_
  refine W.eq (g2 := F0 m 4 ls []) rfl ?_
  refine lv_aload_n hx hb dX3_init_4 rfl (lv_at hl 0 rfl) ?_
  refine zr_ic (n := ((0 : Nat) : Int)) hx hb dX3_init_5 ?_
  have hP : va_P D vwCl (qNew a ++ []) _ := hP
  have hD : va_D A (qNew a ++ []) := hD
  refine zq_anew0 hx hb hown (hts (.classLink RX3 7 "[I") (by decide +kernel)) hE.1 hK hP hD hS hA (Nat.le_of_ble_eq_true rfl) (Nat.le_of_ble_eq_true rfl) dX3_init_6 (fun o H hP hD hS => ?_)
  have hP : va_P D vwCl [(a, .inr (3, [.null, .int 0, .null, .null, .null, .int 0, .int 0, .int 0])), (o, qOut cO 0 (fun _ => 0))] H := hP
  have hD : va_D A [(a, .inr (3, [.null, .int 0, .null, .null, .null, .int 0, .int 0, .int 0])), (o, qOut cO 0 (fun _ => 0))] := hD
  refine va_put (D := D) (ci := 3) (v := .ref o) (ty := (.array (.array .int))) (C := RX3) (T := TX3) (N := 8) hx hb hts (by decide +kernel) tyX3 tyX3_ok nmX3 hown hK hP hD hS 0 rfl rfl 0 (by decide) (hts (.fieldLink RX3 9 "RentHarmonyLaw$Sim" "bids" "[[I") (by decide +kernel)) (fun _ h9 => h9) rfl (by decide +kernel) rfl rfl (Nat.le_of_ble_eq_true rfl) dX3_init_9 (fun H locs hP hD hS => ?_)
  exact qV_ret hx hb hr hlocks hS dX3_init_12 (by omega) o trivial hP hD
section QCI
variable {p : Program} {l : Launch} {e : Env} {R0 : Room} {s : State} {m : MethodId} {args : Array Value} {below : List Frame} {meth : Method} {c : Code} {H : Heap} {locs : List Loc} {Q : State → Prop}
variable {cc bytes : ByteArray} {pc nL n maxL index fr lo k mc : Nat} {ls : Array Slot} {rest st0 : List Value} {D : va_G} {cI cO : ClassId} {wc : va_W} {A : Nat → Prop} {H0 : Heap} {wds Ts : List Cond} {own : String} {y : MethodName} {b : Nat} {As : List Value} {J : va_W → va_W} {S : Type} {out : S → va_W}
theorem zc_qvI {host : String} {post : S → Prop} (hF : zFix p m c cc nL s args Ts own) (hM : qV l y wds fr lo mc D cI cO (.ref b :: As) wc H.size post out) (cw : va_CN R0 s args own index y host bytes maxL none wds (qRm fr lo mc) mc (8 * mc) n ∧ y.name = "<init>" ∧ (Cond.instanceMethod y).before args s = true)
    (hK : va_K D vwCl (qTy cI cO) s) (hE : qEx s) (hS : va_S A H0 H locs) (cut : qCut D A wc J H)
    (hn : As.length = n) (hl : ls.size = nL) (hst : st0 = As.reverse ++ .ref b :: rest) (hW : (rest.map fun v => v.category).sum ≤ 8) (hdg : decode cc pc = .ok (.invokespecial index, 3)) (hf : k + mc ≤ R0.cells ∧ 8 * k + 8 * mc ≤ R0.slots)
    (kk : ∀ (u : S) (H1 : Heap) (locs1 : List Loc), post u → va_P D vwCl (J (out u)) H1 → va_D A (J (out u)) → va_S A H0 H1 locs1 → W p l e R0 s m args below meth c H1 locs1 (k + mc) (8 * (k + mc)) Q (F0 m (pc + 3) ls rest)) : W p l e R0 s m args below meth c H locs k (8 * k) Q (F0 m pc ls st0) := by
  obtain ⟨hPc, hDc, hfr, hj⟩ := cut
  refine va_callv (va_runIN (As := As) (rest := rest) hF hM cw ⟨qPc_blind, fun U hU hW => ⟨rfl, by rw [hU], by rw [hU]; exact hPc, va_K.moved hW.alike hK, hDc.weaken (fun _ _ _ _ => trivial), qEx_warm hW hE⟩⟩ rfl hn hl hst (lv_room hW) hdg ⟨hf.1, hf.2⟩) hS (fun q _ h => hfr q h) hfr (fun u t H1 locs1 ht hvm hw hB hz1 hk1 hS1 => ?_)
  rw [ht] at hB
  obtain ⟨g1, g2⟩ := hj _ _ hk1 hB.1 hB.2
  exact W.widen (k := k + mc) (n := 8 * (k + mc)) (Nat.le_refl _) (by omega) (kk u H1 locs1 hw g1 g2 hS1)
end QCI
/-! a method that reads the script too, and answers a reference -/
def qX0 (sb L : Nat) (xs : Nat → Int32) (ws : va_W) (sz : Nat) (U : State) : Prop := va_X sb L xs U U.heap ∧ sb < sz ∧ ¬ va_A ws sz sb ∧ va_Nw (.methodLinkNest RL 47 yX3_init RL) U
def qQX {S : Type} (sb L : Nat) (xs : Nat → Int32) (l : Launch) (y : MethodName) (wds : List Cond) (fr lo mc : Nat) (D : va_G) (cI cO : ClassId) (av : List Value) (ws : va_W) (sz : Nat) (post : Option Nat → S → Prop) (out : S → va_W) : Prop := Met l y wds (qRm fr lo mc) (va_Pc av (fun U => qPc D cI cO ws sz U ∧ qX0 sb L xs ws sz U)) (va_Qq post (fun u t => va_P D vwCl (out u) t.heap ∧ va_D (va_A ws sz) (out u)) (va_A ws sz)) mc (8 * mc) (va_A ws sz)
theorem qQX_of {S : Type} {sb L : Nat} {xs : Nat → Int32} {l : Launch} {y : MethodName} {wds wds' : List Cond} {fr lo mc : Nat} {D : va_G} {cI cO : ClassId} {av : List Value} {ws : va_W} {cc : ByteArray} {maxL sz : Nat} {rt : FieldType} {out : S → va_W} {post : Option Nat → S → Prop} (hy : plainName y.cls = true) (hw : wds = Cond.code y cc maxL (some rt) :: wds') (hav : (lg_sl av).length ≤ maxL)
    (body : ∀ p e s m args below meth c ls (A : Nat → Prop), zFix p m c cc maxL s args wds y.cls → meth.sig.returnType = some rt → meth.locks = false → va_P D vwCl ws s.heap → va_K D vwCl (qTy cI cO) s → va_D A ws → va_S A s.heap s.heap [] → (∀ q, s.heap.size ≤ q → A q) → qEx s → va_X sb L xs s s.heap → sb < s.heap.size → ¬ A sb → va_Nw (.methodLinkNest RL 47 yX3_init RL) s → lv_has ls maxL (lv_args 0 av) →
      W p l e (qRm fr lo mc) s m args below meth c s.heap [] 0 (8 * 0) (MQ below (va_Qq post (fun u t => va_P D vwCl (out u) t.heap ∧ va_D A (out u)) A) args s mc (8 * mc) A) (F0 m 0 ls [])) : qQX sb L xs l y wds fr lo mc D cI cO av ws sz post out := by
  refine Met.ofW (cc := cc) (maxL := maxL) (ret := some rt) hy hw ?_
  intro p e s m args below meth c s₁ B hml hv
  obtain ⟨rfl, ⟨hsz, hP, hK, hD, hE⟩, hX, hbl, hbA, hnest⟩ := hv
  subst hsz
  have hl := lv_entry av (n := maxL) hav
  rw [lg_entry_eq]
  exact body p e s m _ below meth c _ (va_A ws s.heap.size) ⟨B.exec, B.bytes, hml, findClass_of_methodNamed B.named, atoms_spec (ws := wds) B.pre⟩ B.returns B.notSynchronized hP hK hD.self va_S.rf (fun q h => Or.inr h) hE hX hbl hbA hnest hl
theorem zc_qqX {S : Type} {out : S → va_W} {p : Program} {l : Launch} {e : Env} {R0 : Room} {s : State} {m : MethodId} {args : Array Value} {below : List Frame} {meth : Method} {c : Code} {H : Heap} {locs : List Loc} {Q : State → Prop} {cc bytes : ByteArray} {pc nL n maxL index fr lo k mc : Nat} {ls : Array Slot} {rest st0 : List Value} {D : va_G} {cI cO : ClassId} {wc : va_W} {A : Nat → Prop} {H0 : Heap} {wds Ts : List Cond} {own : String} {y : MethodName} {ret : Option FieldType} {As : List Value} {J : va_W → va_W} {sb L : Nat} {xs : Nat → Int32} {post : Option Nat → S → Prop} (hF : zFix p m c cc nL s args Ts own) (hM : qQX sb L xs l y wds fr lo mc D cI cO As wc H.size post out) (cw : CallB R0 s args own index y bytes maxL ret wds (qRm fr lo mc) mc (8 * mc) n ∧ (Cond.static y).before args s = true)
    (hK : va_K D vwCl (qTy cI cO) s) (hE : qEx s) (hS : va_S A H0 H locs) (cut : qCut D A wc J H) (hX : va_X sb L xs s H0) (hbl : sb < H0.size) (hbA : ¬ A sb) (hnest : va_Nw (.methodLinkNest RL 47 yX3_init RL) s)
    (hn : As.length = n) (hl : ls.size = nL) (hst : st0 = As.reverse ++ rest) (hW : (rest.map fun v => v.category).sum ≤ 8) (hdg : decode cc pc = .ok (.invokestatic index, 3)) (hf : k + mc ≤ R0.cells ∧ 8 * k + 8 * mc ≤ R0.slots)
    (kk : ∀ (r : Option Nat) (u : S) (H1 : Heap) (locs1 : List Loc), post r u → va_P D vwCl (J (out u)) H1 → va_D A (J (out u)) → va_S A H0 H1 locs1 → W p l e R0 s m args below meth c H1 locs1 (k + mc) (8 * (k + mc)) Q (F0 m (pc + 3) ls (va_rf r :: rest))) : W p l e R0 s m args below meth c H locs k (8 * k) Q (F0 m pc ls st0) := by
  obtain ⟨hPc, hDc, hfr, hj⟩ := cut
  have hXH : va_X sb L xs s H := hX.kept (hS.2.1 sb hbl hbA)
  refine va_callq (va_runS (As := As) (rest := rest) hF hM cw ⟨fun a U g mk q => ⟨q.1, ⟨(qPc_blind (av := As) a U g mk ⟨q.1, q.2.1⟩).2, va_X.moved (u := U) (U := U.calling g mk a) (Vm.Alike.refl U.vm) q.2.2.1, q.2.2.2.1, q.2.2.2.2.1, va_Nw.same rfl rfl q.2.2.2.2.2⟩⟩, fun U hU hW => ⟨rfl, ⟨by rw [hU], by rw [hU]; exact hPc, va_K.moved hW.alike hK, hDc.weaken (fun _ _ _ _ => trivial), qEx_warm hW hE⟩, by rw [hU]; exact va_X.moved hW.alike hXH, Nat.lt_of_lt_of_le hbl hS.1, fun h => hbA (hfr _ h), va_Nw.warmM hW hnest⟩⟩ rfl hn hl hst (lv_room hW) hdg ⟨hf.1, hf.2⟩) hS (fun q _ h => hfr q h) hfr (fun r u t H1 locs1 ht hvm hw hB hz1 hk1 hS1 => ?_)
  rw [ht] at hB
  obtain ⟨g1, g2⟩ := hj _ _ hk1 hB.1 hB.2
  exact W.widen (k := k + mc) (n := 8 * (k + mc)) (Nat.le_refl _) (by omega) (kk r u H1 locs1 hw g1 g2 hS1)
