/-! p18: contracts of methods that make arrays: void, an int, a reference or null -/
def qEx (U : State) : Prop := va_AOA .int U ∧ va_Nw (.castable "[I" "java/lang/Cloneable") U
theorem qEx_aoa {u U : State} (hvm : u.vm.Alike U.vm) (h : va_AOA .int u) : va_AOA .int U := by
  obtain ⟨x, h⟩ := h
  refine ⟨x, ?_⟩
  have h2 := Cond.arrayOver_setVmC (args := x) (s := u) hvm (.array .int)
  rw [h] at h2
  exact h2
theorem qEx_warm {s U : State} (hW : s.WarmedH U.vm) (h : qEx s) : qEx U := ⟨qEx_aoa hW.alike h.1, va_Nw.warmC hW h.2⟩
theorem qEx_same {u U : State} (hvm : u.vm = U.vm) (h : qEx u) : qEx U := ⟨qEx_aoa (by rw [hvm]; exact Vm.Alike.refl U.vm) h.1, va_Nw.same rfl hvm h.2⟩
abbrev qTy (cI cO : ClassId) : List (ClassId × FieldType) := [(cI, .int), (cO, .array .int)]
def qPc (D : va_G) (cI cO : ClassId) (ws : va_W) (sz : Nat) : State → Prop := fun U => U.heap.size = sz ∧ va_P D vwCl ws U.heap ∧ va_K D vwCl (qTy cI cO) U ∧ va_D (fun _ => True) ws ∧ qEx U
theorem qPc_blind {D : va_G} {cI cO : ClassId} {ws : va_W} {sz : Nat} {av : List Value} : FrameBlind (va_Pc av (qPc D cI cO ws sz)) := fun a U g mk q => by
  obtain ⟨q0, q1, qP, qK, qD, qE⟩ := q
  exact ⟨q0, q1, qP, va_K.moved (u := U) (U := U.calling g mk a) (Vm.Alike.refl U.vm) qK, qD, qEx_same (u := U) (U := U.calling g mk a) rfl qE⟩
abbrev qRm (fr lo mc : Nat) : Room := { frames := fr, cells := mc, slots := 8 * mc, locals := lo }
def qV {S : Type} (l : Launch) (y : MethodName) (wds : List Cond) (fr lo mc : Nat) (D : va_G) (cI cO : ClassId) (av : List Value) (ws : va_W) (sz : Nat) (post : S → Prop) (out : S → va_W) : Prop := Met l y wds (qRm fr lo mc) (va_Pc av (qPc D cI cO ws sz)) (va_Qv post (fun u t => va_P D vwCl (out u) t.heap ∧ va_D (va_A ws sz) (out u)) (va_A ws sz)) mc (8 * mc) (va_A ws sz)
def qI {S : Type} (l : Launch) (y : MethodName) (wds : List Cond) (fr lo mc : Nat) (D : va_G) (cI cO : ClassId) (av : List Value) (ws : va_W) (sz : Nat) (post : Int32 → S → Prop) (out : S → va_W) : Prop := Met l y wds (qRm fr lo mc) (va_Pc av (qPc D cI cO ws sz)) (va_Qi post (fun u t => va_P D vwCl (out u) t.heap ∧ va_D (va_A ws sz) (out u)) (va_A ws sz)) mc (8 * mc) (va_A ws sz)
def qQ {S : Type} (l : Launch) (y : MethodName) (wds : List Cond) (fr lo mc : Nat) (D : va_G) (cI cO : ClassId) (av : List Value) (ws : va_W) (sz : Nat) (post : Option Nat → S → Prop) (out : S → va_W) : Prop := Met l y wds (qRm fr lo mc) (va_Pc av (qPc D cI cO ws sz)) (va_Qq post (fun u t => va_P D vwCl (out u) t.heap ∧ va_D (va_A ws sz) (out u)) (va_A ws sz)) mc (8 * mc) (va_A ws sz)
section QO
variable {l : Launch} {y : MethodName} {wds wds' : List Cond} {fr lo mc : Nat} {D : va_G} {cI cO : ClassId} {av : List Value} {ws : va_W} {cc : ByteArray} {maxL sz : Nat} {rt : FieldType} {S : Type} {out : S → va_W}
theorem qV_of {post : S → Prop} (hy : plainName y.cls = true) (hw : wds = Cond.code y cc maxL none :: wds') (hav : (lg_sl av).length ≤ maxL)
    (body : ∀ p e s m args below meth c ls (A : Nat → Prop), zFix p m c cc maxL s args wds y.cls → meth.sig.returnType = none → meth.locks = false → va_P D vwCl ws s.heap → va_K D vwCl (qTy cI cO) s → va_D A ws → va_S A s.heap s.heap [] → (∀ q, s.heap.size ≤ q → A q) → qEx s → lv_has ls maxL (lv_args 0 av) →
      W p l e (qRm fr lo mc) s m args below meth c s.heap [] 0 (8 * 0) (MQ below (va_Qv post (fun u t => va_P D vwCl (out u) t.heap ∧ va_D A (out u)) A) args s mc (8 * mc) A) (F0 m 0 ls [])) : qV l y wds fr lo mc D cI cO av ws sz post out := by
  refine Met.ofW (cc := cc) (maxL := maxL) (ret := none) hy hw ?_
  intro p e s m args below meth c s₁ B hml hv
  obtain ⟨rfl, hsz, hP, hK, hD, hE⟩ := hv
  subst hsz
  have hl := lv_entry av (n := maxL) hav
  rw [lg_entry_eq]
  exact body p e s m _ below meth c _ (va_A ws s.heap.size) ⟨B.exec, B.bytes, hml, findClass_of_methodNamed B.named, atoms_spec (ws := wds) B.pre⟩ B.returns B.notSynchronized hP hK hD.self va_S.rf (fun q h => Or.inr h) hE hl
theorem qI_of {post : Int32 → S → Prop} (hy : plainName y.cls = true) (hw : wds = Cond.code y cc maxL (some rt) :: wds') (hav : (lg_sl av).length ≤ maxL)
    (body : ∀ p e s m args below meth c ls (A : Nat → Prop), zFix p m c cc maxL s args wds y.cls → meth.sig.returnType = some rt → meth.locks = false → va_P D vwCl ws s.heap → va_K D vwCl (qTy cI cO) s → va_D A ws → va_S A s.heap s.heap [] → (∀ q, s.heap.size ≤ q → A q) → qEx s → lv_has ls maxL (lv_args 0 av) →
      W p l e (qRm fr lo mc) s m args below meth c s.heap [] 0 (8 * 0) (MQ below (va_Qi post (fun u t => va_P D vwCl (out u) t.heap ∧ va_D A (out u)) A) args s mc (8 * mc) A) (F0 m 0 ls [])) : qI l y wds fr lo mc D cI cO av ws sz post out := by
  refine Met.ofW (cc := cc) (maxL := maxL) (ret := some rt) hy hw ?_
  intro p e s m args below meth c s₁ B hml hv
  obtain ⟨rfl, hsz, hP, hK, hD, hE⟩ := hv
  subst hsz
  have hl := lv_entry av (n := maxL) hav
  rw [lg_entry_eq]
  exact body p e s m _ below meth c _ (va_A ws s.heap.size) ⟨B.exec, B.bytes, hml, findClass_of_methodNamed B.named, atoms_spec (ws := wds) B.pre⟩ B.returns B.notSynchronized hP hK hD.self va_S.rf (fun q h => Or.inr h) hE hl
theorem qQ_of {post : Option Nat → S → Prop} (hy : plainName y.cls = true) (hw : wds = Cond.code y cc maxL (some rt) :: wds') (hav : (lg_sl av).length ≤ maxL)
    (body : ∀ p e s m args below meth c ls (A : Nat → Prop), zFix p m c cc maxL s args wds y.cls → meth.sig.returnType = some rt → meth.locks = false → va_P D vwCl ws s.heap → va_K D vwCl (qTy cI cO) s → va_D A ws → va_S A s.heap s.heap [] → (∀ q, s.heap.size ≤ q → A q) → qEx s → lv_has ls maxL (lv_args 0 av) →
      W p l e (qRm fr lo mc) s m args below meth c s.heap [] 0 (8 * 0) (MQ below (va_Qq post (fun u t => va_P D vwCl (out u) t.heap ∧ va_D A (out u)) A) args s mc (8 * mc) A) (F0 m 0 ls [])) : qQ l y wds fr lo mc D cI cO av ws sz post out := by
  refine Met.ofW (cc := cc) (maxL := maxL) (ret := some rt) hy hw ?_
  intro p e s m args below meth c s₁ B hml hv
  obtain ⟨rfl, hsz, hP, hK, hD, hE⟩ := hv
  subst hsz
  have hl := lv_entry av (n := maxL) hav
  rw [lg_entry_eq]
  exact body p e s m _ below meth c _ (va_A ws s.heap.size) ⟨B.exec, B.bytes, hml, findClass_of_methodNamed B.named, atoms_spec (ws := wds) B.pre⟩ B.returns B.notSynchronized hP hK hD.self va_S.rf (fun q h => Or.inr h) hE hl
end QO
section QE
variable {p : Program} {l : Launch} {e : Env} {R0 : Room} {s : State} {m : MethodId} {args : Array Value} {below : List Frame} {meth : Method} {c : Code} {H : Heap} {locs : List Loc} {k mc : Nat} {cc : ByteArray} {pc : Nat} {ls : Array Slot} {D : va_G} {A : Nat → Prop} {S : Type} {out : S → va_W}
theorem qV_ret {post : S → Prop} (hx : p.tables.exec = Jvm.exec) (hb : c.code = cc) (hr : meth.sig.returnType = none) (hlocks : meth.locks = false) (hS : va_S A s.heap H locs) (hdg : decode cc pc = .ok (.return_, 1)) (hk : k ≤ mc) (u : S) (h : post u) (hP : va_P D vwCl (out u) H) (hD : va_D A (out u)) : W p l e R0 s m args below meth c H locs k (8 * k) (MQ below (va_Qv post (fun u t => va_P D vwCl (out u) t.heap ∧ va_D A (out u)) A) args s mc (8 * mc) A) (F0 m pc ls []) :=
  W.widen (k := mc) (n := 8 * mc) hk (by omega) (W.vret hx hb hr (fun t ht _ => ⟨⟨u, rfl, h, by show va_P D vwCl (out u) t.heap ∧ _; rw [ht]; exact ⟨hP, hD⟩⟩, hS.F ht⟩) hS.2.2 hdg hlocks)
theorem qI_ret {post : Int32 → S → Prop} {x : Int32} (hx : p.tables.exec = Jvm.exec) (hb : c.code = cc) (hr : meth.sig.returnType = some .int) (hlocks : meth.locks = false) (hS : va_S A s.heap H locs) (hdg : decode cc pc = .ok (.ireturn, 1)) (hk : k ≤ mc) (u : S) (h : post x u) (hP : va_P D vwCl (out u) H) (hD : va_D A (out u)) : W p l e R0 s m args below meth c H locs k (8 * k) (MQ below (va_Qi post (fun u t => va_P D vwCl (out u) t.heap ∧ va_D A (out u)) A) args s mc (8 * mc) A) (F0 m pc ls [.int x]) :=
  W.widen (k := mc) (n := 8 * mc) hk (by omega) (W.iret hx hb hr (fun t ht _ => ⟨⟨x, u, rfl, h, by show va_P D vwCl (out u) t.heap ∧ _; rw [ht]; exact ⟨hP, hD⟩⟩, hS.F ht⟩) hS.2.2 hdg hlocks)
theorem qI_retz {post : Int32 → S → Prop} {x : Int32} {ty : FieldType} (hx : p.tables.exec = Jvm.exec) (hb : c.code = cc) (hr : meth.sig.returnType = some ty) (hn : narrow ty (.int x) = .int x) (hlocks : meth.locks = false) (hS : va_S A s.heap H locs) (hdg : decode cc pc = .ok (.ireturn, 1)) (hk : k ≤ mc) (u : S) (h : post x u) (hP : va_P D vwCl (out u) H) (hD : va_D A (out u)) : W p l e R0 s m args below meth c H locs k (8 * k) (MQ below (va_Qi post (fun u t => va_P D vwCl (out u) t.heap ∧ va_D A (out u)) A) args s mc (8 * mc) A) (F0 m pc ls [.int x]) :=
  W.widen (k := mc) (n := 8 * mc) hk (by omega) (W.zret hx hb hr hn (fun t ht _ => ⟨⟨x, u, rfl, h, by show va_P D vwCl (out u) t.heap ∧ _; rw [ht]; exact ⟨hP, hD⟩⟩, hS.F ht⟩) hS.2.2 hdg hlocks)
theorem qQ_ret {post : Option Nat → S → Prop} {rt : FieldType} {r : Option Nat} (hx : p.tables.exec = Jvm.exec) (hb : c.code = cc) (hr : meth.sig.returnType = some rt) (hrt : (∃ n, rt = .object n) ∨ ∃ t, rt = .array t) (hlocks : meth.locks = false) (hS : va_S A s.heap H locs) (hdg : decode cc pc = .ok (.areturn, 1)) (hk : k ≤ mc) (u : S) (h : post r u) (hP : va_P D vwCl (out u) H) (hD : va_D A (out u)) : W p l e R0 s m args below meth c H locs k (8 * k) (MQ below (va_Qq post (fun u t => va_P D vwCl (out u) t.heap ∧ va_D A (out u)) A) args s mc (8 * mc) A) (F0 m pc ls [va_rf r]) :=
  W.widen (k := mc) (n := 8 * mc) hk (by omega) (W.aret hx hb hr hrt (va_rf_or r) (fun t ht _ => ⟨⟨r, u, rfl, h, by show va_P D vwCl (out u) t.heap ∧ _; rw [ht]; exact ⟨hP, hD⟩⟩, hS.F ht⟩) hS.2.2 hdg hlocks)
end QE
/-! calls: what the callee gets, and how its world comes back among the caller's -/
def qCut (D : va_G) (A : Nat → Prop) (wc : va_W) (J : va_W → va_W) (H : Heap) : Prop := va_P D vwCl wc H ∧ va_D A wc ∧ (∀ q, va_A wc H.size q → A q) ∧ ∀ (w1 : va_W) (H1 : Heap), (∀ q : Nat, q < H.size → ¬ va_A wc H.size q → H1[q]? = H[q]?) → va_P D vwCl w1 H1 → va_D (va_A wc H.size) w1 → va_P D vwCl (J w1) H1 ∧ va_D A (J w1)
theorem qIs_nd (is : List Nat) (L n : Nat) (h : va_nd is = true) (hl : ∀ i ∈ is, i < L) : va_nd (is ++ (List.range n).map (fun i => L + i)) = true := by
  have key : ∀ (xs : List Nat), xs.Nodup → va_nd xs = true := by
    intro xs
    induction xs with
    | nil => intro _; rfl
    | cons x t ih =>
      intro hx
      rw [List.nodup_cons] at hx
      simp only [va_nd, Bool.and_eq_true, Bool.not_eq_true']
      refine ⟨?_, ih hx.2⟩
      simpa using hx.1
  have back : ∀ (xs : List Nat), va_nd xs = true → xs.Nodup := by
    intro xs
    induction xs with
    | nil => intro _; exact List.nodup_nil
    | cons x t ih =>
      intro hx
      simp only [va_nd, Bool.and_eq_true, Bool.not_eq_true'] at hx
      rw [List.nodup_cons]
      exact ⟨by simpa using hx.1, ih hx.2⟩
  apply key
  rw [List.nodup_append]
  refine ⟨back is h, ?_, ?_⟩
  · rw [List.nodup_iff_pairwise_ne, List.pairwise_map]
    exact (List.nodup_range (n := n)).imp (fun h2 => by omega)
  · intro a ha b hb
    obtain ⟨i, -, rfl⟩ := List.mem_map.mp hb
    have := hl a ha
    omega
theorem qMapX {X Y : va_W} {Xc : va_W} (is : List Nat) (h : is.map (fun i => X[i]?) = Xc.map some) : is.map (fun i => (X ++ Y)[i]?) = Xc.map some := by
  rw [← h]
  apply List.map_congr_left
  intro i hi
  have h1 : (X[i]?) ∈ is.map (fun i => X[i]?) := List.mem_map.mpr ⟨i, hi, rfl⟩
  rw [h] at h1
  obtain ⟨q, -, e⟩ := List.mem_map.mp h1
  have hl := (List.getElem?_eq_some_iff.mp e.symm).1
  rw [List.getElem?_append_left hl]
theorem qMapB {X Y : va_W} : ((List.range Y.length).map (fun i => X.length + i)).map (fun i => (X ++ Y)[i]?) = Y.map some := by
  apply List.ext_getElem?
  intro j
  rw [List.getElem?_map, List.getElem?_map, List.getElem?_map]
  by_cases h : j < Y.length
  · rw [List.getElem?_range h]
    show some ((X ++ Y)[X.length + j]?) = _
    rw [List.getElem?_append_right (by omega), Nat.add_sub_cancel_left, List.getElem?_eq_getElem h]
    rfl
  · rw [List.getElem?_eq_none (l := Y) (by omega), List.getElem?_eq_none (l := List.range Y.length) (by rw [List.length_range]; omega)]
    rfl
/-- the callee gets some cells and the rows -/
theorem qCut_all {D : va_G} {A : Nat → Prop} {X Y Xc Xr : va_W} {H H0 : Heap} {locs : List Loc} (hP : va_P D vwCl (X ++ Y) H) (hD : va_D A (X ++ Y)) (hS : va_S A H0 H locs) (hA : ∀ q, H0.size ≤ q → A q) (is isR : List Nat) (hC : is.map (fun i => X[i]?) = Xc.map some) (hR : isR.map (fun i => X[i]?) = Xr.map some) (hn0 : va_nd is = true) (hn : va_nd isR = true) (hdis : ∀ i ∈ isR, i ∉ is) (L : Nat) (hL : X.length = L) (hl : ∀ i ∈ is, i < L) (hlR : ∀ i ∈ isR, i < L) : qCut D A (Xc ++ Y) (fun w => Xr ++ w) H := by
  subst hL
  have e1 : (is ++ (List.range Y.length).map (fun i => X.length + i)).map (fun i => (X ++ Y)[i]?) = (Xc ++ Y).map some := by rw [List.map_append, List.map_append, qMapX is hC, qMapB]
  have hfr := va_free hD hS hA _ e1
  have hd2 : ∀ i ∈ isR, i ∉ is ++ (List.range Y.length).map (fun i => X.length + i) := by
    intro i hi hm
    rcases List.mem_append.mp hm with h | h
    · exact hdis i hi h
    · obtain ⟨j, -, rfl⟩ := List.mem_map.mp h
      have := hlR _ hi
      omega
  refine ⟨fun q x hx => ?_, hD.sub _ (qIs_nd is X.length Y.length hn0 hl) e1, hfr, fun w1 H1 hk hP1 hD1 => va_join hP hD _ isR e1 (qMapX isR hR) hn hd2 hk hfr hP1 hD1⟩
  obtain ⟨i, -, h2⟩ := z_at e1 hx
  exact hP i x h2
/-- the callee gets some cells, the rows stay -/
theorem qCut_no {D : va_G} {A : Nat → Prop} {X Y Xc Xr : va_W} {H H0 : Heap} {locs : List Loc} (hP : va_P D vwCl (X ++ Y) H) (hD : va_D A (X ++ Y)) (hS : va_S A H0 H locs) (hA : ∀ q, H0.size ≤ q → A q) (is isR : List Nat) (hC : is.map (fun i => X[i]?) = Xc.map some) (hR : isR.map (fun i => X[i]?) = Xr.map some) (hn0 : va_nd is = true) (hn : va_nd isR = true) (hdis : ∀ i ∈ isR, i ∉ is) (L : Nat) (hL : X.length = L) (hl : ∀ i ∈ is, i < L) (hlR : ∀ i ∈ isR, i < L) : qCut D A Xc (fun w => (Xr ++ w) ++ Y) H := by
  subst hL
  have e1 : is.map (fun i => (X ++ Y)[i]?) = Xc.map some := qMapX is hC
  have e2 : (isR ++ (List.range Y.length).map (fun i => X.length + i)).map (fun i => (X ++ Y)[i]?) = (Xr ++ Y).map some := by rw [List.map_append, List.map_append, qMapX isR hR, qMapB]
  have hfr := va_free hD hS hA _ e1
  have hd2 : ∀ i ∈ isR ++ (List.range Y.length).map (fun i => X.length + i), i ∉ is := by
    intro i hi hm
    rcases List.mem_append.mp hi with h | h
    · exact hdis i h hm
    · obtain ⟨j, -, rfl⟩ := List.mem_map.mp h
      have := hl _ hm
      omega
  refine ⟨fun q x hx => ?_, hD.sub _ hn0 e1, hfr, fun w1 H1 hk hP1 hD1 => ?_⟩
  · obtain ⟨i, -, h2⟩ := z_at e1 hx
    exact hP i x h2
  · obtain ⟨g1, g2⟩ := va_join hP hD _ _ e1 e2 (qIs_nd isR X.length Y.length hn hlR) hd2 hk hfr hP1 hD1
    exact ⟨g1.swap, g2.swap⟩
/-! contracts that read, over both array classes -/
def qR (l : Launch) (y : MethodName) (wds : List Cond) (fr lo : Nat) (D : va_G) (cI cO : ClassId) (av : List Value) (ws : va_W) (r : Int32) : Prop := Met l y wds (zRm fr lo) (va_Pc av (fun U => va_P D vwCl ws U.heap ∧ va_K D vwCl (qTy cI cO) U)) (vp_Si (fun x => x = r)) 0 0 (fun _ => False)
theorem qR_of {l : Launch} {y : MethodName} {wds wds' : List Cond} {fr lo : Nat} {D : va_G} {cI cO : ClassId} {av : List Value} {ws : va_W} {cc : ByteArray} {maxL : Nat} {rt : FieldType} {r : Int32} (hy : plainName y.cls = true) (hw : wds = Cond.code y cc maxL (some rt) :: wds') (hav : (lg_sl av).length ≤ maxL)
    (body : ∀ p e s m args below meth c ls, zFix p m c cc maxL s args wds y.cls → meth.sig.returnType = some rt → meth.locks = false → va_P D vwCl ws s.heap → va_K D vwCl (qTy cI cO) s → lv_has ls maxL (lv_args 0 av) →
      W p l e (zRm fr lo) s m args below meth c s.heap [] 0 0 (MQ below (vp_Si (fun x => x = r)) args s 0 0 (fun _ => False)) (F0 m 0 ls [])) : qR l y wds fr lo D cI cO av ws r := by
  refine Met.ofW (cc := cc) (maxL := maxL) (ret := some rt) hy hw ?_
  intro p e s m args below meth c s₁ B hml hv
  obtain ⟨rfl, hP, hK⟩ := hv
  have hl := lv_entry av (n := maxL) hav
  rw [lg_entry_eq]
  exact body p e s m _ below meth c _ ⟨B.exec, B.bytes, hml, findClass_of_methodNamed B.named, atoms_spec (ws := wds) B.pre⟩ B.returns B.notSynchronized hP hK hl
section QC
variable {p : Program} {l : Launch} {e : Env} {R0 : Room} {s : State} {m : MethodId} {args : Array Value} {below : List Frame} {meth : Method} {c : Code} {H : Heap} {locs : List Loc} {Q : State → Prop}
variable {cc bytes : ByteArray} {pc nL n maxL index fr lo k mc : Nat} {ls : Array Slot} {rest st0 : List Value} {D : va_G} {cI cO : ClassId} {wc : va_W} {A : Nat → Prop} {H0 : Heap} {wds Ts : List Cond} {own C : String} {y : MethodName} {ret : Option FieldType} {b ci : Nat} {As : List Value} {fs : List Value} {cq : vw_C} {J : va_W → va_W} {S : Type} {out : S → va_W}
theorem zc_qv {post : S → Prop} (hF : zFix p m c cc nL s args Ts own) (hM : qV l y wds fr lo mc D cI cO (.ref b :: As) wc H.size post out) (cw : CallW R0 s args own C index y bytes maxL ret wds (qRm fr lo mc) mc (8 * mc) n)
    (hK : va_K D vwCl (qTy cI cO) s) (hE : qEx s) (hS : va_S A H0 H locs) (cut : qCut D A wc J H) (q0 : Nat) (he : wc[q0]? = some (b, .inr (ci, fs))) (hc : vwCl[ci]? = some cq) (hCq : cq.1 = C)
    (hn : As.length = n) (hl : ls.size = nL) (hst : st0 = As.reverse ++ .ref b :: rest) (hW : (rest.map fun v => v.category).sum ≤ 8) (hdg : decode cc pc = .ok (.invokevirtual index, 3)) (hf : k + mc ≤ R0.cells ∧ 8 * k + 8 * mc ≤ R0.slots)
    (kk : ∀ (u : S) (H1 : Heap) (locs1 : List Loc), post u → va_P D vwCl (J (out u)) H1 → va_D A (J (out u)) → va_S A H0 H1 locs1 → W p l e R0 s m args below meth c H1 locs1 (k + mc) (8 * (k + mc)) Q (F0 m (pc + 3) ls rest)) : W p l e R0 s m args below meth c H locs k (8 * k) Q (F0 m pc ls st0) := by
  subst hCq
  obtain ⟨hPc, hDc, hfr, hj⟩ := cut
  refine va_callv (va_runV (As := As) (rest := rest) hF hM cw ⟨qPc_blind, va_recv hK hPc hc he, fun U hU hW => ⟨rfl, by rw [hU], by rw [hU]; exact hPc, va_K.moved hW.alike hK, hDc.weaken (fun _ _ _ _ => trivial), qEx_warm hW hE⟩⟩ rfl hn hl hst (lv_room hW) hdg ⟨hf.1, hf.2⟩) hS (fun q _ h => hfr q h) hfr (fun u t H1 locs1 ht hvm hw hB hz1 hk1 hS1 => ?_)
  rw [ht] at hB
  obtain ⟨g1, g2⟩ := hj _ _ hk1 hB.1 hB.2
  exact W.widen (k := k + mc) (n := 8 * (k + mc)) (Nat.le_refl _) (by omega) (kk u H1 locs1 hw g1 g2 hS1)
theorem zc_qi {post : Int32 → S → Prop} (hF : zFix p m c cc nL s args Ts own) (hM : qI l y wds fr lo mc D cI cO (.ref b :: As) wc H.size post out) (cw : CallW R0 s args own C index y bytes maxL ret wds (qRm fr lo mc) mc (8 * mc) n)
    (hK : va_K D vwCl (qTy cI cO) s) (hE : qEx s) (hS : va_S A H0 H locs) (cut : qCut D A wc J H) (q0 : Nat) (he : wc[q0]? = some (b, .inr (ci, fs))) (hc : vwCl[ci]? = some cq) (hCq : cq.1 = C)
    (hn : As.length = n) (hl : ls.size = nL) (hst : st0 = As.reverse ++ .ref b :: rest) (hW : (rest.map fun v => v.category).sum ≤ 8) (hdg : decode cc pc = .ok (.invokevirtual index, 3)) (hf : k + mc ≤ R0.cells ∧ 8 * k + 8 * mc ≤ R0.slots)
    (kk : ∀ (r : Int32) (u : S) (H1 : Heap) (locs1 : List Loc), post r u → va_P D vwCl (J (out u)) H1 → va_D A (J (out u)) → va_S A H0 H1 locs1 → W p l e R0 s m args below meth c H1 locs1 (k + mc) (8 * (k + mc)) Q (F0 m (pc + 3) ls (.int r :: rest))) : W p l e R0 s m args below meth c H locs k (8 * k) Q (F0 m pc ls st0) := by
  subst hCq
  obtain ⟨hPc, hDc, hfr, hj⟩ := cut
  refine va_calli (va_runV (As := As) (rest := rest) hF hM cw ⟨qPc_blind, va_recv hK hPc hc he, fun U hU hW => ⟨rfl, by rw [hU], by rw [hU]; exact hPc, va_K.moved hW.alike hK, hDc.weaken (fun _ _ _ _ => trivial), qEx_warm hW hE⟩⟩ rfl hn hl hst (lv_room hW) hdg ⟨hf.1, hf.2⟩) hS (fun q _ h => hfr q h) hfr (fun r u t H1 locs1 ht hvm hw hB hz1 hk1 hS1 => ?_)
  rw [ht] at hB
  obtain ⟨g1, g2⟩ := hj _ _ hk1 hB.1 hB.2
  exact W.widen (k := k + mc) (n := 8 * (k + mc)) (Nat.le_refl _) (by omega) (kk r u H1 locs1 hw g1 g2 hS1)
theorem zc_qq {post : Option Nat → S → Prop} (hF : zFix p m c cc nL s args Ts own) (hM : qQ l y wds fr lo mc D cI cO (.ref b :: As) wc H.size post out) (cw : CallW R0 s args own C index y bytes maxL ret wds (qRm fr lo mc) mc (8 * mc) n)
    (hK : va_K D vwCl (qTy cI cO) s) (hE : qEx s) (hS : va_S A H0 H locs) (cut : qCut D A wc J H) (q0 : Nat) (he : wc[q0]? = some (b, .inr (ci, fs))) (hc : vwCl[ci]? = some cq) (hCq : cq.1 = C)
    (hn : As.length = n) (hl : ls.size = nL) (hst : st0 = As.reverse ++ .ref b :: rest) (hW : (rest.map fun v => v.category).sum ≤ 8) (hdg : decode cc pc = .ok (.invokevirtual index, 3)) (hf : k + mc ≤ R0.cells ∧ 8 * k + 8 * mc ≤ R0.slots)
    (kk : ∀ (r : Option Nat) (u : S) (H1 : Heap) (locs1 : List Loc), post r u → va_P D vwCl (J (out u)) H1 → va_D A (J (out u)) → va_S A H0 H1 locs1 → W p l e R0 s m args below meth c H1 locs1 (k + mc) (8 * (k + mc)) Q (F0 m (pc + 3) ls (va_rf r :: rest))) : W p l e R0 s m args below meth c H locs k (8 * k) Q (F0 m pc ls st0) := by
  subst hCq
  obtain ⟨hPc, hDc, hfr, hj⟩ := cut
  refine va_callq (va_runV (As := As) (rest := rest) hF hM cw ⟨qPc_blind, va_recv hK hPc hc he, fun U hU hW => ⟨rfl, by rw [hU], by rw [hU]; exact hPc, va_K.moved hW.alike hK, hDc.weaken (fun _ _ _ _ => trivial), qEx_warm hW hE⟩⟩ rfl hn hl hst (lv_room hW) hdg ⟨hf.1, hf.2⟩) hS (fun q _ h => hfr q h) hfr (fun r u t H1 locs1 ht hvm hw hB hz1 hk1 hS1 => ?_)
  rw [ht] at hB
  obtain ⟨g1, g2⟩ := hj _ _ hk1 hB.1 hB.2
  exact W.widen (k := k + mc) (n := 8 * (k + mc)) (Nat.le_refl _) (by omega) (kk r u H1 locs1 hw g1 g2 hS1)
theorem zc_qiS {post : Int32 → S → Prop} (hF : zFix p m c cc nL s args Ts own) (hM : qI l y wds fr lo mc D cI cO As wc H.size post out) (cw : CallB R0 s args own index y bytes maxL ret wds (qRm fr lo mc) mc (8 * mc) n ∧ (Cond.static y).before args s = true)
    (hK : va_K D vwCl (qTy cI cO) s) (hE : qEx s) (hS : va_S A H0 H locs) (cut : qCut D A wc J H)
    (hn : As.length = n) (hl : ls.size = nL) (hst : st0 = As.reverse ++ rest) (hW : (rest.map fun v => v.category).sum ≤ 8) (hdg : decode cc pc = .ok (.invokestatic index, 3)) (hf : k + mc ≤ R0.cells ∧ 8 * k + 8 * mc ≤ R0.slots)
    (kk : ∀ (r : Int32) (u : S) (H1 : Heap) (locs1 : List Loc), post r u → va_P D vwCl (J (out u)) H1 → va_D A (J (out u)) → va_S A H0 H1 locs1 → W p l e R0 s m args below meth c H1 locs1 (k + mc) (8 * (k + mc)) Q (F0 m (pc + 3) ls (.int r :: rest))) : W p l e R0 s m args below meth c H locs k (8 * k) Q (F0 m pc ls st0) := by
  obtain ⟨hPc, hDc, hfr, hj⟩ := cut
  refine va_calli (va_runS (As := As) (rest := rest) hF hM cw ⟨qPc_blind, fun U hU hW => ⟨rfl, by rw [hU], by rw [hU]; exact hPc, va_K.moved hW.alike hK, hDc.weaken (fun _ _ _ _ => trivial), qEx_warm hW hE⟩⟩ rfl hn hl hst (lv_room hW) hdg ⟨hf.1, hf.2⟩) hS (fun q _ h => hfr q h) hfr (fun r u t H1 locs1 ht hvm hw hB hz1 hk1 hS1 => ?_)
  rw [ht] at hB
  obtain ⟨g1, g2⟩ := hj _ _ hk1 hB.1 hB.2
  exact W.widen (k := k + mc) (n := 8 * (k + mc)) (Nat.le_refl _) (by omega) (kk r u H1 locs1 hw g1 g2 hS1)
theorem zc_qqS {post : Option Nat → S → Prop} (hF : zFix p m c cc nL s args Ts own) (hM : qQ l y wds fr lo mc D cI cO As wc H.size post out) (cw : CallB R0 s args own index y bytes maxL ret wds (qRm fr lo mc) mc (8 * mc) n ∧ (Cond.static y).before args s = true)
    (hK : va_K D vwCl (qTy cI cO) s) (hE : qEx s) (hS : va_S A H0 H locs) (cut : qCut D A wc J H)
    (hn : As.length = n) (hl : ls.size = nL) (hst : st0 = As.reverse ++ rest) (hW : (rest.map fun v => v.category).sum ≤ 8) (hdg : decode cc pc = .ok (.invokestatic index, 3)) (hf : k + mc ≤ R0.cells ∧ 8 * k + 8 * mc ≤ R0.slots)
    (kk : ∀ (r : Option Nat) (u : S) (H1 : Heap) (locs1 : List Loc), post r u → va_P D vwCl (J (out u)) H1 → va_D A (J (out u)) → va_S A H0 H1 locs1 → W p l e R0 s m args below meth c H1 locs1 (k + mc) (8 * (k + mc)) Q (F0 m (pc + 3) ls (va_rf r :: rest))) : W p l e R0 s m args below meth c H locs k (8 * k) Q (F0 m pc ls st0) := by
  obtain ⟨hPc, hDc, hfr, hj⟩ := cut
  refine va_callq (va_runS (As := As) (rest := rest) hF hM cw ⟨qPc_blind, fun U hU hW => ⟨rfl, by rw [hU], by rw [hU]; exact hPc, va_K.moved hW.alike hK, hDc.weaken (fun _ _ _ _ => trivial), qEx_warm hW hE⟩⟩ rfl hn hl hst (lv_room hW) hdg ⟨hf.1, hf.2⟩) hS (fun q _ h => hfr q h) hfr (fun r u t H1 locs1 ht hvm hw hB hz1 hk1 hS1 => ?_)
  rw [ht] at hB
  obtain ⟨g1, g2⟩ := hj _ _ hk1 hB.1 hB.2
  exact W.widen (k := k + mc) (n := 8 * (k + mc)) (Nat.le_refl _) (by omega) (kk r u H1 locs1 hw g1 g2 hS1)
/-- a method that reads: its world's picture is given as it stands -/
theorem zc_riP {r : Int32} {cells slots : Nat} (hF : zFix p m c cc nL s args Ts own) (hM : qR l y wds fr lo D cI cO (.ref b :: As) wc r) (cw : CallW R0 s args own C index y bytes maxL ret wds (zRm fr lo) 0 0 n)
    (hK : va_K D vwCl (qTy cI cO) s) (hPc : va_P D vwCl wc H) (q0 : Nat) (he : wc[q0]? = some (b, .inr (ci, fs))) (hc : vwCl[ci]? = some cq) (hCq : cq.1 = C)
    (hn : As.length = n) (hl : ls.size = nL) (hst : st0 = As.reverse ++ .ref b :: rest) (hW : (rest.map fun v => v.category).sum ≤ 8) (hdg : decode cc pc = .ok (.invokevirtual index, 3)) (hf : cells ≤ R0.cells ∧ slots ≤ R0.slots)
    (kk : W p l e R0 s m args below meth c H locs cells slots Q (F0 m (pc + 3) ls (.int r :: rest))) : W p l e R0 s m args below meth c H locs cells slots Q (F0 m pc ls st0) := by
  subst hCq
  refine z_si (va_runV (As := As) (rest := rest) hF hM cw ⟨fun a U g mk q => by obtain ⟨q0, qP, qK⟩ := q; exact ⟨q0, qP, va_K.moved (u := U) (U := U.calling g mk a) (Vm.Alike.refl U.vm) qK⟩, va_recv hK hPc hc he, fun U hU hW => ⟨rfl, by rw [hU]; exact hPc, va_K.moved hW.alike hK⟩⟩ rfl hn hl hst (lv_room hW) hdg ⟨hf.1, hf.2⟩) (fun r' h => ?_)
  subst h
  exact kk
end QC
theorem qSub {D : va_G} {X Y Xc : va_W} {H : Heap} (hP : va_P D vwCl (X ++ Y) H) (is : List Nat) (hC : is.map (fun i => X[i]?) = Xc.map some) : va_P D vwCl (Xc ++ Y) H := by
  have e1 : (is ++ (List.range Y.length).map (fun i => X.length + i)).map (fun i => (X ++ Y)[i]?) = (Xc ++ Y).map some := by rw [List.map_append, List.map_append, qMapX is hC, qMapB]
  intro q x hx
  obtain ⟨i, -, h2⟩ := z_at e1 hx
  exact hP i x h2
theorem qSubD {A : Nat → Prop} {X Y Xc : va_W} (hD : va_D A (X ++ Y)) (is : List Nat) (hC : is.map (fun i => X[i]?) = Xc.map some) (hn : va_nd is = true) (L : Nat) (hL : X.length = L) (hl : ∀ i ∈ is, i < L) : va_D A (Xc ++ Y) := by
  subst hL
  have e1 : (is ++ (List.range Y.length).map (fun i => X.length + i)).map (fun i => (X ++ Y)[i]?) = (Xc ++ Y).map some := by rw [List.map_append, List.map_append, qMapX is hC, qMapB]
  exact hD.sub _ (qIs_nd is X.length Y.length hn hl) e1
/-- the first rows are forgotten -/
theorem qDrop {D : va_G} {X Y Z Xc : va_W} {H : Heap} (hP : va_P D vwCl (X ++ (Y ++ Z)) H) (is : List Nat) (hC : is.map (fun i => X[i]?) = Xc.map some) : va_P D vwCl (Xc ++ Z) H := by
  rw [← List.append_assoc] at hP
  exact qSub hP is (qMapX is hC)
theorem qDropD {A : Nat → Prop} {X Y Z Xc : va_W} (hD : va_D A (X ++ (Y ++ Z))) (is : List Nat) (hC : is.map (fun i => X[i]?) = Xc.map some) (hn : va_nd is = true) (L : Nat) (hL : X.length = L) (hl : ∀ i ∈ is, i < L) : va_D A (Xc ++ Z) := by
  rw [← List.append_assoc] at hD
  exact qSubD hD is (qMapX is hC) hn _ rfl (fun i hi => by have := hl i hi; rw [List.length_append]; omega)
/-- the last rows are forgotten -/
theorem qDrop2 {D : va_G} {X Y Z Xc : va_W} {H : Heap} (hP : va_P D vwCl (X ++ (Y ++ Z)) H) (is : List Nat) (hC : is.map (fun i => X[i]?) = Xc.map some) : va_P D vwCl (Xc ++ Y) H := by
  rw [← List.append_assoc] at hP
  have h := qSub (Y := Y ++ Z) (by rw [List.append_assoc] at hP; exact hP) is hC
  rw [← List.append_assoc] at h
  intro k q hk
  exact h k q (by rw [List.getElem?_append_left (List.getElem?_eq_some_iff.mp hk).1]; exact hk)
theorem qDropD2 {A : Nat → Prop} {X Y Z Xc : va_W} (hD : va_D A (X ++ (Y ++ Z))) (is : List Nat) (hC : is.map (fun i => X[i]?) = Xc.map some) (hn : va_nd is = true) (L : Nat) (hL : X.length = L) (hl : ∀ i ∈ is, i < L) : va_D A (Xc ++ Y) := by
  have h := qSubD hD is hC hn L hL hl
  rw [← List.append_assoc] at h
  refine ⟨fun i j x y hi hj hxy => h.1 i j x y ?_ ?_ hxy, fun k q hk => h.2 k q ?_⟩
  · rw [List.getElem?_append_left (List.getElem?_eq_some_iff.mp hi).1]; exact hi
  · rw [List.getElem?_append_left (List.getElem?_eq_some_iff.mp hj).1]; exact hj
  · rw [List.getElem?_append_left (List.getElem?_eq_some_iff.mp hk).1]; exact hk
