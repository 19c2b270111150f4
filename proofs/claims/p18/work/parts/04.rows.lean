section ZS
variable {p : Program} {l : Launch} {e : Env} {R : Room} {s : State} {m : MethodId} {args : Array Value} {below : List Frame} {meth : Method} {c : Code} {H : Heap} {locs : List Loc} {cells slots : Nat} {Q : State → Prop}
variable {cc : ByteArray} {pc : Nat} {ls : Array Slot} {rest : List Value}

variable {D : va_G} {cl : List vw_C} {tys : List (ClassId × FieldType)} {ws : va_W} {a : Nat} {A : Nat → Prop} {H0 : Heap}
/-- an array's values matter in its range alone -/
theorem z_ext {cA : ClassId} {n : Nat} {f g : Nat → Int} (hP : va_P D cl ws H) (q0 : Nat) (ha : ws[q0]? = some (a, zArr cA n f)) (h : ∀ j, j < n → f j = g j) : va_P D cl (ws.set q0 (a, zArr cA n g)) H := by
  have e : vp_cell cA (n, .inl (fun k => iI (f k))) = vp_cell cA (n, .inl (fun k => iI (g k))) := by
    rw [vp_cell_i, vp_cell_i]
    unfold arrV
    congr 1
    congr 1
    funext j
    show Value.int (iI (f j.val)) = Value.int (iI (g j.val))
    rw [h j.val j.isLt]
  intro k q hk
  by_cases hq : q0 = k
  · subst hq
    have hl := (List.getElem?_eq_some_iff.mp ha).1
    rw [List.getElem?_set_self hl] at hk
    cases hk
    have h2 := hP q0 _ ha
    show H[a]? = some (vp_cell cA (n, .inl (fun k => iI (g k))))
    rw [← e]
    exact h2
  · rw [List.getElem?_set_ne hq] at hk
    exact hP k q hk
theorem zr_copy (hx : p.tables.exec = Jvm.exec) (hb : c.code = cc) (hml : c.maxLocals = ls.size) {own : String} {index : Nat} (hown : s.vm.findClass own = some m.cls) (hlink : (Cond.methodLink own index arraycopyName).before args s = true) (hnat : (Cond.native arraycopyName).before args s = true) (hstat : (Cond.static arraycopyName).before args s = true) (hini : (Cond.initialized "java/lang/System").before args s = true)
    (hK : va_K D cl tys s) (hP : va_P D cl ws H) (hD : va_D A ws) (hS : va_S A H0 H locs) (q0 q1 t0 : Nat) {a0 : Nat} {c0 : ClassId} {n0 n1 : Nat} {f g : Nat → Int} (ha0 : ws[q0]? = some (a0, zArr c0 n0 f)) (ha1 : ws[q1]? = some (a, zArr c0 n1 g)) (ht0 : tys[t0]? = some (c0, .int))
    {zn : Int} (len : Nat) (hz : zn = (len : Int)) (h1 : len ≤ n0) (h2 : len ≤ n1) (h3 : n0 ≤ 2147483647) (hframes : 1 ≤ R.frames) (hlocals : (rest.map fun v => v.category).sum + (nativeFrameWords "java/lang/System" "arraycopy" 5 + 11) ≤ R.locals) (hdg : decode cc pc = .ok (.invokestatic index, 3))
    (kk : ∀ (H1 : Heap) (locs1 : List Loc), va_P D cl (ws.set q1 (a, zArr c0 n1 (zCpy f g len))) H1 → va_D A (ws.set q1 (a, zArr c0 n1 (zCpy f g len))) → va_S A H0 H1 locs1 → W p l e R s m args below meth c H1 locs1 cells slots Q (F0 m (pc + 3) ls rest)) : W p l e R s m args below meth c H locs cells slots Q (F0 m pc ls (.int (iI zn) :: .int (iI 0) :: .ref a :: .int (iI 0) :: .ref a0 :: rest)) := by
  subst hz
  have hB : zB (len : Int) := zB_of (by omega) (by omega)
  have e0 : (iI 0).toNatClampNeg = 0 := iI_clamp zB_0
  have e1 : (iI (len : Int)).toNatClampNeg = len := iI_clamp hB
  have n0' : ¬ iI 0 < 0 := by decide
  have n1' : ¬ iI (len : Int) < 0 := fun h => by
    have := (iI_lt hB zB_0).mp h
    omega
  refine va_copyi hx hb hml hown hlink hnat hstat hini hK hP hD hS q0 q1 t0 t0 ha0 ha1 ht0 ht0 rfl n0' n0' n1' (by rw [e0, e1]; omega) (by rw [e0, e1]; omega) (fun _ _ => rfl) hframes hlocals hdg (fun H1 locs1 g1 g2 g3 => ?_)
  rw [e0, e1, zCpy_cpy] at g1 g2
  exact kk H1 locs1 g1 g2 g3
theorem iI_max {x y : Int} (h1 : zB x) (h2 : zB y) : (if iI x < iI y then iI y else iI x) = iI (max x y) := by
  by_cases h : x < y
  · rw [if_pos ((iI_lt h1 h2).mpr h), Int.max_eq_right (by omega)]
  · rw [if_neg (fun q => h ((iI_lt h1 h2).mp q)), Int.max_eq_left (by omega)]
theorem iI_min {x y : Int} (h1 : zB x) (h2 : zB y) : (if iI y < iI x then iI y else iI x) = iI (min x y) := by
  by_cases h : y < x
  · rw [if_pos ((iI_lt h2 h1).mpr h), Int.min_eq_right (by omega)]
  · rw [if_neg (fun q => h ((iI_lt h2 h1).mp q)), Int.min_eq_left (by omega)]
theorem zr_max (hx : p.tables.exec = Jvm.exec) (hb : c.code = cc) (hml : c.maxLocals = ls.size) {own : String} {index : Nat} (hown : s.vm.findClass own = some m.cls) (hlink : (Cond.methodLink own index Lib.Math.max.name).before args s = true) (hstat : (Cond.static Lib.Math.max.name).before args s = true) (hini : (Cond.initialized "java/lang/Math").before args s = true) (hcode : (Cond.code Lib.Math.max.name Lib.Math.max.code 2 (some .int)).before args s = true)
    (hframes : 1 ≤ R.frames) (hlocals : (rest.map fun v => v.category).sum + 13 ≤ R.locals) (hc : cells ≤ R.cells) (hs : slots ≤ R.slots) {x y : Int} (h1 : zB x) (h2 : zB y) (hdg : decode cc pc = .ok (.invokestatic index, 3))
    (kk : W p l e R s m args below meth c H locs cells slots Q (F0 m (pc + 3) ls (.int (iI (max x y)) :: rest))) : W p l e R s m args below meth c H locs cells slots Q (F0 m pc ls (.int (iI y) :: .int (iI x) :: rest)) :=
  va_mmax hx hb hml hown hlink hstat hini hcode hframes hlocals hc hs hdg (by rw [iI_max h1 h2]; exact kk)
theorem zr_min (hx : p.tables.exec = Jvm.exec) (hb : c.code = cc) (hml : c.maxLocals = ls.size) {own : String} {index : Nat} (hown : s.vm.findClass own = some m.cls) (hlink : (Cond.methodLink own index Lib.Math.min.name).before args s = true) (hstat : (Cond.static Lib.Math.min.name).before args s = true) (hini : (Cond.initialized "java/lang/Math").before args s = true) (hcode : (Cond.code Lib.Math.min.name Lib.Math.min.code 2 (some .int)).before args s = true)
    (hframes : 1 ≤ R.frames) (hlocals : (rest.map fun v => v.category).sum + 13 ≤ R.locals) (hc : cells ≤ R.cells) (hs : slots ≤ R.slots) {x y : Int} (h1 : zB x) (h2 : zB y) (hdg : decode cc pc = .ok (.invokestatic index, 3))
    (kk : W p l e R s m args below meth c H locs cells slots Q (F0 m (pc + 3) ls (.int (iI (min x y)) :: rest))) : W p l e R s m args below meth c H locs cells slots Q (F0 m pc ls (.int (iI y) :: .int (iI x) :: rest)) :=
  va_mmin hx hb hml hown hlink hstat hini hcode hframes hlocals hc hs hdg (by rw [iI_min h1 h2]; exact kk)
end ZS
/-! bits of a set of rooms -/
def zPop (t : Nat) : Nat := (List.range 6).countP (fun i => t.testBit i)
def zb1 (x : Int32) : Int32 := x - ((x.toUInt32 >>> ((iI 1).toUInt32 &&& Int32.toUInt32 31)).toInt32 &&& 1431655765)
def zb2 (x : Int32) : Int32 := (x &&& 858993459) + ((x.toUInt32 >>> ((iI 2).toUInt32 &&& Int32.toUInt32 31)).toInt32 &&& 858993459)
def zb3 (x : Int32) : Int32 := (x + (x.toUInt32 >>> ((iI 4).toUInt32 &&& Int32.toUInt32 31)).toInt32) &&& 252645135
def zb4 (x : Int32) : Int32 := x + (x.toUInt32 >>> ((iI 8).toUInt32 &&& Int32.toUInt32 31)).toInt32
def zb5 (x : Int32) : Int32 := x + (x.toUInt32 >>> ((iI 16).toUInt32 &&& Int32.toUInt32 31)).toInt32
theorem zb_all : ∀ t : Fin 64, (zb5 (zb4 (zb3 (zb2 (zb1 (iI (t.val : Int))))))) &&& iI 63 = iI ((zPop t.val : Nat) : Int) := by decide +kernel
theorem zb_pop {t : Nat} (h : t < 64) : (zb5 (zb4 (zb3 (zb2 (zb1 (iI (t : Int))))))) &&& iI 63 = iI ((zPop t : Nat) : Int) := zb_all ⟨t, h⟩
theorem zb_bit_all : ∀ (t : Fin 64) (r : Fin 6), (iI (t.val : Int) >>> (iI (r.val : Int) &&& 31)) &&& iI 1 = iI (bZ (t.val.testBit r.val = true)) := by decide +kernel
theorem zb_bit {t r : Nat} (h : t < 64) (hr : r < 6) : (iI (t : Int) >>> (iI (r : Int) &&& 31)) &&& iI 1 = iI (bZ (t.testBit r = true)) := zb_bit_all ⟨t, h⟩ ⟨r, hr⟩
theorem zb_or_all : ∀ (t : Fin 64) (r : Fin 6), iI (t.val : Int) ||| (iI 1 <<< (iI (r.val : Int) &&& 31)) = iI ((t.val ||| 1 <<< r.val : Nat) : Int) := by decide +kernel
theorem zb_or {t r : Nat} (h : t < 64) (hr : r < 6) : iI (t : Int) ||| (iI 1 <<< (iI (r : Int) &&& 31)) = iI ((t ||| 1 <<< r : Nat) : Int) := zb_or_all ⟨t, h⟩ ⟨r, hr⟩
theorem zb_shl_all : ∀ (n : Fin 7), iI 1 <<< (iI (n.val : Int) &&& 31) = iI ((2 ^ n.val : Nat) : Int) := by decide +kernel
theorem zb_shl {n : Nat} (hn : n ≤ 6) : iI 1 <<< (iI (n : Int) &&& 31) = iI ((2 ^ n : Nat) : Int) := zb_shl_all ⟨n, by omega⟩
/-- the rooms of a set -/
def zT (t : Nat) : Nat → Bool := fun r => t.testBit r
theorem zT_add (t r : Nat) : zAdd (zT t) r = zT (t ||| 1 <<< r) := by
  funext x
  show (t.testBit x || x == r) = (t ||| 1 <<< r).testBit x
  rw [Nat.testBit_or, Nat.one_shiftLeft, Nat.testBit_two_pow]
  congr 1
  by_cases h : x = r
  · subst h; simp
  · have h2 : r ≠ x := fun q => h q.symm
    simp [h, h2]
theorem zT_0 : zT 0 = fun _ => false := by
  funext x
  exact Nat.zero_testBit x
theorem zT_cnt_all : ∀ (n : Fin 7) (t : Fin 64), t.val < 2 ^ n.val → zCnt (zT t.val) n.val + zPop t.val = n.val := by decide +kernel
theorem zT_cnt {n t : Nat} (hn : n ≤ 6) (ht : t < 2 ^ n) : zCnt (zT t) n + zPop t = n := by
  have h64 : t < 64 := Nat.lt_of_lt_of_le ht (by
    have := Nat.pow_le_pow_right (n := 2) (by decide) hn
    simpa using this)
  exact zT_cnt_all ⟨n, by omega⟩ ⟨t, h64⟩ ht
theorem zT_or_all : ∀ (n : Fin 7) (t : Fin 64) (r : Fin 6), t.val < 2 ^ n.val → r.val < n.val → zT t.val r.val = false → t.val < (t.val ||| 1 <<< r.val) ∧ (t.val ||| 1 <<< r.val) < 2 ^ n.val ∧ zPop (t.val ||| 1 <<< r.val) = zPop t.val + 1 := by decide +kernel
theorem zT_or {n t r : Nat} (hn : n ≤ 6) (ht : t < 2 ^ n) (hr : r < n) (h : zT t r = false) : t < (t ||| 1 <<< r) ∧ (t ||| 1 <<< r) < 2 ^ n ∧ zPop (t ||| 1 <<< r) = zPop t + 1 := by
  have h64 : t < 64 := Nat.lt_of_lt_of_le ht (by
    have := Nat.pow_le_pow_right (n := 2) (by decide) hn
    simpa using this)
  exact zT_or_all ⟨n, by omega⟩ ⟨t, h64⟩ ⟨r, by omega⟩ ht hr h
theorem zT_full_all : ∀ (n : Fin 7), zPop (2 ^ n.val - 1) = n.val ∧ 0 < 2 ^ n.val ∧ 2 ^ n.val ≤ 64 := by decide +kernel
theorem zT_full {n : Nat} (hn : n ≤ 6) : zPop (2 ^ n - 1) = n ∧ 0 < 2 ^ n ∧ 2 ^ n ≤ 64 := zT_full_all ⟨n, by omega⟩
theorem zT_notfull_all : ∀ (n : Fin 7) (t : Fin 64), t.val < 2 ^ n.val → t.val ≠ 2 ^ n.val - 1 → zPop t.val < n.val := by decide +kernel
theorem zT_notfull {n t : Nat} (hn : n ≤ 6) (ht : t < 2 ^ n) (h : t ≠ 2 ^ n - 1) : zPop t < n := by
  have h64 : t < 64 := Nat.lt_of_lt_of_le ht (zT_full hn).2.2
  exact zT_notfull_all ⟨n, by omega⟩ ⟨t, h64⟩ ht h
