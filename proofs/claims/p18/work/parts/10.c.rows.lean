/-! contracts: a method that answers a long; one that answers a double and may draw -/
def zWl {S : Type} (l : Launch) (y : MethodName) (wds : List Cond) (fr lo : Nat) (D : va_G) (cI : ClassId) (av : List Value) (ws : va_W) (post : Int64 → S → Prop) (out : S → va_W) : Prop := Met l y wds (zRm fr lo) (va_Pc av (zPW D cI ws)) (va_Ql post (fun u t => va_P D vwCl (out u) t.heap) (zA ws)) 0 0 (zA ws)
def zWd {S : Type} (l : Launch) (y : MethodName) (wds : List Cond) (fr lo : Nat) (D : va_G) (cI : ClassId) (av : List Value) (ws : va_W) (post : UInt64 → S → Prop) (out : S → va_W) : Prop := MetD lw_cs l y wds (zRm fr lo) (va_Pc av (zPW D cI ws)) (va_Qd post (fun u t => va_P D vwCl (out u) t.heap) (zA ws)) 0 0 (zA ws)
section ZM2
variable {l : Launch} {y : MethodName} {wds wds' : List Cond} {fr lo : Nat} {D : va_G} {cI : ClassId} {av : List Value} {ws : va_W} {cc : ByteArray} {maxL : Nat} {rt : FieldType}
theorem zWl_of {S : Type} {post : Int64 → S → Prop} {out : S → va_W} (hy : plainName y.cls = true) (hw : wds = Cond.code y cc maxL (some rt) :: wds') (hav : (lg_sl av).length ≤ maxL)
    (body : ∀ p e s m args below meth c ls (A : Nat → Prop), zFix p m c cc maxL s args wds y.cls → meth.sig.returnType = some rt → meth.locks = false → va_P D vwCl ws s.heap → va_K D vwCl [(cI, .int)] s → va_D A ws → va_S A s.heap s.heap [] → lv_has ls maxL (lv_args 0 av) →
      W p l e (zRm fr lo) s m args below meth c s.heap [] 0 0 (MQ below (va_Ql post (fun u t => va_P D vwCl (out u) t.heap) A) args s 0 0 A) (F0 m 0 ls [])) : zWl l y wds fr lo D cI av ws post out := by
  refine Met.ofW (cc := cc) (maxL := maxL) (ret := some rt) hy hw ?_
  intro p e s m args below meth c s₁ B hml hv
  obtain ⟨rfl, hP, hK, hD⟩ := hv
  have hl := lv_entry av (n := maxL) hav
  rw [lg_entry_eq]
  exact body p e s m _ below meth c _ (zA ws) ⟨B.exec, B.bytes, hml, findClass_of_methodNamed B.named, atoms_spec (ws := wds) B.pre⟩ B.returns B.notSynchronized hP hK (zA_D hD) va_S.rf hl
theorem zWd_of {S : Type} {post : UInt64 → S → Prop} {out : S → va_W} (hy : plainName y.cls = true) (hw : wds = Cond.code y cc maxL (some rt) :: wds') (hav : (lg_sl av).length ≤ maxL)
    (body : ∀ p e s m args below meth c ls (A : Nat → Prop), zFix p m c cc maxL (s.setDrawn s.drawn) args wds y.cls → meth.sig.returnType = some rt → meth.locks = false → va_P D vwCl ws s.heap → va_K D vwCl [(cI, .int)] (s.setDrawn s.drawn) → va_D A ws → va_S A s.heap s.heap [] → s.drawn.sameBut s.drawn lw_cs → lv_has ls maxL (lv_args 0 av) →
      W p l e (zRm fr lo) (s.setDrawn s.drawn) m args below meth c s.heap [] 0 0 (MQD lw_cs below (va_Qd post (fun u t => va_P D vwCl (out u) t.heap) A) args s 0 0 A) (F0 m 0 ls [])) : zWd l y wds fr lo D cI av ws post out := by
  refine MetD.ofW (cc := cc) (maxL := maxL) (ret := some rt) hy hw ?_
  intro p e s m args below meth c s₁ B hml hv hd0
  obtain ⟨rfl, hP, hK, hD⟩ := hv
  have hl := lv_entry av (n := maxL) hav
  rw [lg_entry_eq]
  exact body p e s m _ below meth c _ (zA ws) ⟨B.exec, B.bytes, hml, findClass_of_methodNamed B.named, dr_words (atoms_spec (ws := wds) B.pre) s.drawn⟩ B.returns B.notSynchronized hP hK (zA_D hD) va_S.rf hd0 hl
end ZM2
section ZE2
variable {p : Program} {l : Launch} {e : Env} {R : Room} {s : State} {m : MethodId} {args : Array Value} {below : List Frame} {meth : Method} {c : Code} {H : Heap} {locs : List Loc} {cells slots : Nat} {cc : ByteArray} {pc : Nat} {ls : Array Slot} {D : va_G} {A : Nat → Prop}
theorem zWl_ret {S : Type} {post : Int64 → S → Prop} {out : S → va_W} {x : Int64} (hx : p.tables.exec = Jvm.exec) (hb : c.code = cc) (hr : meth.sig.returnType = some .long) (hlocks : meth.locks = false) (hS : va_S A s.heap H locs) (hdg : decode cc pc = .ok (.lreturn, 1)) (u : S) (h : post x u) (hP : va_P D vwCl (out u) H) : W p l e R s m args below meth c H locs cells slots (MQ below (va_Ql post (fun u t => va_P D vwCl (out u) t.heap) A) args s cells slots A) (F0 m pc ls [.long x]) :=
  W.lret hx hb hr (fun t ht _ => ⟨⟨x, u, rfl, h, by show va_P D vwCl (out u) t.heap; rw [ht]; exact hP⟩, hS.F ht⟩) hS.2.2 hdg hlocks
theorem zWd_ret {S : Type} {post : UInt64 → S → Prop} {out : S → va_W} {x : UInt64} {d0 : Drawn} (hd0 : s.drawn.sameBut d0 lw_cs) (hx : p.tables.exec = Jvm.exec) (hb : c.code = cc) (hr : meth.sig.returnType = some .double) (hlocks : meth.locks = false) (hS : va_S A s.heap H locs) (hdg : decode cc pc = .ok (.dreturn, 1)) (u : S) (h : post x u) (hP : va_P D vwCl (out u) H) : W p l e R (s.setDrawn d0) m args below meth c H locs cells slots (MQD lw_cs below (va_Qd post (fun u t => va_P D vwCl (out u) t.heap) A) args s cells slots A) (F0 m pc ls [.double x]) :=
  W.endD hd0 (W.dret hx hb hr (fun t ht _ => ⟨⟨x, u, rfl, h, by show va_P D vwCl (out u) t.heap; rw [ht]; exact hP⟩, (show va_S A (s.setDrawn d0).heap H locs from hS).F ht⟩) hS.2.2 hdg hlocks)
end ZE2
/-! a NaN is not as great as itself -/
theorem zNaN_cmp {r : UInt64} (h : isNaN64 r = true) : FP.dcmp r r = none := by
  rw [isNaN64_iff] at h
  have e : r.toNat &&& 0x7fffffffffffffff = r.toNat % 2 ^ 63 := Nat.and_two_pow_sub_one_eq_mod r.toNat 63
  rw [e] at h
  have hd : FP.Core.decode FP.Core.b64 r.toNat = .nan := by
    unfold FP.Core.decode
    rw [if_pos (show FP.Core.fieldE FP.Core.b64 r.toNat = FP.Core.b64.exps - 1 by
      show r.toNat / 2 ^ 52 % 2 ^ 11 = 2 ^ 11 - 1
      omega), if_neg (show ¬ FP.Core.fieldT FP.Core.b64 r.toNat = 0 by
      show ¬ r.toNat % 2 ^ 52 = 0
      omega)]
  show FP.Core.order (FP.Core.decode FP.Core.b64 r.toNat) (FP.Core.decode FP.Core.b64 r.toNat) = none
  rw [hd]
  rfl
