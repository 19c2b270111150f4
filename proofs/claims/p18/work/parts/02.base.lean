/-! whole numbers: an int of the machine is iI z for an Int z -/
def iI (z : Int) : Int32 := Int32.ofInt z
def zB (a : Int) : Prop := -2147483648 ≤ a ∧ a ≤ 2147483647
theorem zB_of {a : Int} (h1 : -2147483648 ≤ a) (h2 : a ≤ 2147483647) : zB a := ⟨h1, h2⟩
theorem zB_nat {n : Nat} (h : n ≤ 2147483647) : zB (n : Int) := ⟨by omega, by omega⟩
theorem iI_add (a b : Int) : iI a + iI b = iI (a + b) := (Int32.ofInt_add a b).symm
theorem iI_sub (a b : Int) : iI a - iI b = iI (a - b) := (Int32.ofInt_sub a b).symm
theorem iI_mul (a b : Int) : iI a * iI b = iI (a * b) := (Int32.ofInt_mul a b).symm
theorem iI_toInt {a : Int} (h : zB a) : (iI a).toInt = a := Int32.toInt_ofInt_of_le (by have := h.1; omega) (by have := h.2; omega)
theorem iI_clamp {a : Int} (h : zB a) : (iI a).toNatClampNeg = a.toNat := Int32.toNatClampNeg_ofInt_of_le (by have := h.1; omega) (by have := h.2; omega)
theorem iI_of (x : Int32) : ∃ z : Int, zB z ∧ x = iI z := ⟨x.toInt, ⟨by have := x.le_toInt; omega, by have := x.toInt_lt; omega⟩, (Int32.ofInt_toInt x).symm⟩
theorem iI_nI (n : Nat) : nI n = iI n := (Int32.ofInt_eq_ofNat).symm
theorem iI_lt {a b : Int} (ha : zB a) (hb : zB b) : iI a < iI b ↔ a < b := by rw [Int32.lt_iff_toInt_lt, iI_toInt ha, iI_toInt hb]
theorem iI_le {a b : Int} (ha : zB a) (hb : zB b) : iI a ≤ iI b ↔ a ≤ b := by rw [Int32.le_iff_toInt_le, iI_toInt ha, iI_toInt hb]
theorem iI_eq {a b : Int} (ha : zB a) (hb : zB b) : iI a = iI b ↔ a = b := by rw [← Int32.toInt_inj, iI_toInt ha, iI_toInt hb]
theorem iI_0 : (0 : Int32) = iI 0 := rfl
theorem zB_0 : zB 0 := ⟨by decide, by decide⟩
theorem iI_div {a b : Int} (ha : zB a) (hb : zB b) (h0 : 0 ≤ a) (h1 : 0 < b) : iI a / iI b = iI (a / b) := by
  have h2 := ha.2
  have h3 := hb.2
  have e1 : Int32.minValue.toInt = -2147483648 := by decide
  have e2 : Int32.maxValue.toInt = 2147483647 := by decide
  have h := Int32.ofInt_tdiv (a := a) (b := b) (by rw [e1]; omega) (by rw [e2]; omega) (by rw [e1]; omega) (by rw [e2]; omega)
  rw [Int.tdiv_eq_ediv_of_nonneg h0] at h
  exact h.symm
theorem iI_in {a : Int} (h : zB a) {n : Nat} (h0 : 0 ≤ a) (h1 : a < n) : vp_in (iI a) n := vp_in_iff.mpr (by rw [iI_toInt h]; exact ⟨h0, h1⟩)
/-- a truth as an int -/
def bZ (P : Prop) [Decidable P] : Int := if P then 1 else 0
theorem bZ_t {P : Prop} [Decidable P] (h : P) : bZ P = 1 := if_pos h
theorem bZ_f {P : Prop} [Decidable P] (h : ¬ P) : bZ P = 0 := if_neg h
theorem bZ_01 (P : Prop) [Decidable P] : bZ P = 0 ∨ bZ P = 1 := by unfold bZ; split; exact Or.inr rfl; exact Or.inl rfl
theorem bZ_iff {P Q : Prop} [Decidable P] [Decidable Q] (h : P ↔ Q) : bZ P = bZ Q := by unfold bZ; by_cases hp : P; rw [if_pos hp, if_pos (h.mp hp)]; rw [if_neg hp, if_neg (fun q => hp (h.mpr q))]
theorem bZ_nar (P : Prop) [Decidable P] : narrow .boolean (.int (iI (bZ P))) = .int (iI (bZ P)) := by rcases bZ_01 P with h | h <;> rw [h] <;> rfl
/-- a function of numbers, changed at one place -/
def uZ (b : Nat → Int) (k : Nat) (v : Int) : Nat → Int := fun j => if j = k then v else b j
theorem uZ_s (b : Nat → Int) (k : Nat) (v : Int) : uZ b k v k = v := if_pos rfl
theorem uZ_n (b : Nat → Int) (v : Int) {k j : Nat} (h : j ≠ k) : uZ b k v j = b j := if_neg h
theorem uZ_upd (b : Nat → Int) (k : Nat) (v : Int) : upd (fun j => iI (b j)) k (iI v) = fun j => iI (uZ b k v j) := by
  funext j
  by_cases h : j = k
  · subst h; rw [pk_us, uZ_s]
  · rw [pk_un h, uZ_n b v h]
abbrev zArr (cI : ClassId) (n : Nat) (b : Nat → Int) : va_E := .inl (cI, (n, .inl (fun k => iI (b k))))
def zCpy (f g : Nat → Int) (n : Nat) : Nat → Int := fun k => if k < n then f k else g k
theorem zCpy_cpy (f g : Nat → Int) (n : Nat) : va_cpy (fun k => iI (f k)) (fun k => iI (g k)) 0 0 n = fun k => iI (zCpy f g n k) := by
  funext k
  unfold va_cpy zCpy
  by_cases h : k < n
  · rw [if_pos ⟨Nat.zero_le _, by omega⟩, if_pos h]; simp
  · rw [if_neg (fun q => h (by omega)), if_neg h]
/-! places of a world, changed -/
def zUp : va_W → List Nat → va_W → va_W
  | ws, i :: is, x :: xs => zUp (ws.set i x) is xs
  | ws, _, _ => ws
theorem zUp_get : ∀ (is : List Nat) (xs ws : va_W) (k : Nat) (q : Nat × va_E), (zUp ws is xs)[k]? = some q → (∃ j : Nat, is[j]? = some k ∧ xs[j]? = some q) ∨ (ws[k]? = some q ∧ ∀ (j : Nat) (x : Nat × va_E), is[j]? = some k → xs[j]? = some x → False)
  | [], xs, ws, k, q, h => Or.inr ⟨by cases xs <;> exact h, fun j x hj _ => by simp at hj⟩
  | i :: is, [], ws, k, q, h => Or.inr ⟨h, fun j x _ hx => by simp at hx⟩
  | i :: is, x :: xs, ws, k, q, h => by
    rcases zUp_get is xs (ws.set i x) k q h with ⟨j, h1, h2⟩ | ⟨h1, h2⟩
    · exact Or.inl ⟨j + 1, by simpa using h1, by simpa using h2⟩
    · by_cases hk : i = k
      · subst hk
        have hlt : i < ws.length := by
          have := (List.getElem?_eq_some_iff.mp h1).1
          simpa using this
        rw [List.getElem?_set_self hlt] at h1
        exact Or.inl ⟨0, rfl, by simpa using h1⟩
      · rw [List.getElem?_set_ne hk] at h1
        refine Or.inr ⟨h1, fun j y hj hy => ?_⟩
        cases j with
        | zero => simp at hj; exact hk hj
        | succ j => exact h2 j y (by simpa using hj) (by simpa using hy)
def zA (ws : va_W) : Nat → Prop := fun q => ∃ (k : Nat) (e : va_E), ws[k]? = some (q, e)
theorem zA_D {A : Nat → Prop} {ws : va_W} (h : va_D A ws) : va_D (zA ws) ws := ⟨h.1, fun k q hk => ⟨k, q.2, hk⟩⟩
theorem zA_free {A0 : Nat → Prop} {ws wc : va_W} (hD : va_D A0 ws) (is : List Nat) (hC : is.map (fun i => ws[i]?) = wc.map some) : ∀ q, zA wc q → A0 q := by
  rintro q ⟨k, e, h⟩
  have h1 : (is.map (fun i => ws[i]?))[k]? = some (some (q, e)) := by rw [hC, List.getElem?_map, h]; rfl
  rw [List.getElem?_map] at h1
  cases hi : is[k]? with
  | none => rw [hi] at h1; cases h1
  | some i => rw [hi] at h1; exact hD.2 i (q, e) (Option.some.inj h1)
theorem z_at {ws wc : va_W} {is : List Nat} (hC : is.map (fun i => ws[i]?) = wc.map some) {k : Nat} {q : Nat × va_E} (hq : wc[k]? = some q) : ∃ i, is[k]? = some i ∧ ws[i]? = some q := by
  have h1 : (is.map (fun i => ws[i]?))[k]? = some (some q) := by rw [hC, List.getElem?_map, hq]; rfl
  rw [List.getElem?_map] at h1
  cases hi : is[k]? with
  | none => rw [hi] at h1; cases h1
  | some i => rw [hi] at h1; exact ⟨i, rfl, Option.some.inj h1⟩
theorem z_adr {wc w1 : va_W} (h : w1.map Prod.fst = wc.map Prod.fst) {j : Nat} {q : Nat × va_E} (hq : w1[j]? = some q) : ∃ p, wc[j]? = some p ∧ p.1 = q.1 := by
  have h1 : (w1.map Prod.fst)[j]? = some q.1 := by rw [List.getElem?_map, hq]; rfl
  rw [h, List.getElem?_map] at h1
  cases hw : wc[j]? with
  | none => rw [hw] at h1; cases h1
  | some p => rw [hw] at h1; exact ⟨p, rfl, Option.some.inj h1⟩
/-- behind a call that writes in place: the callee's cells, changed, among the caller's -/
theorem z_join {A0 : Nat → Prop} {D : va_G} {cl : List vw_C} {ws wc w1 : va_W} {H H1 : Heap} (hP : va_P D cl ws H) (hD : va_D A0 ws) (is : List Nat) (hC : is.map (fun i => ws[i]?) = wc.map some) (hadr : w1.map Prod.fst = wc.map Prod.fst)
    (hk : ∀ q : Nat, q < H.size → ¬ zA wc q → H1[q]? = H[q]?) (hP1 : va_P D cl w1 H1) : va_P D cl (zUp ws is w1) H1 ∧ va_D A0 (zUp ws is w1) := by
  have old : ∀ (k : Nat) (q : Nat × va_E), (zUp ws is w1)[k]? = some q → ∃ q', ws[k]? = some q' ∧ q'.1 = q.1 := by
    intro k q h
    rcases zUp_get is w1 ws k q h with ⟨j, h1, h2⟩ | ⟨h1, -⟩
    · obtain ⟨r, h3, h4⟩ := z_adr hadr h2
      obtain ⟨i, h5, h6⟩ := z_at hC h3
      cases h1.symm.trans h5
      exact ⟨r, h6, h4⟩
    · exact ⟨q, h1, rfl⟩
  refine ⟨fun k q h => ?_, fun i j x y hi hj hxy => ?_, fun k q h => ?_⟩
  · rcases zUp_get is w1 ws k q h with ⟨j, h1, h2⟩ | ⟨h1, h2⟩
    · exact hP1 j q h2
    · refine (hP k q h1).kept (hk q.1 (hP k q h1).lt ?_)
      rintro ⟨j, e, h3⟩
      obtain ⟨i, h4, h5⟩ := z_at hC h3
      cases hD.1 i k _ _ h5 h1 rfl
      have h6 : (w1.map Prod.fst)[j]? = some q.1 := by rw [hadr, List.getElem?_map, h3]; rfl
      rw [List.getElem?_map] at h6
      cases hw : w1[j]? with
      | none => rw [hw] at h6; cases h6
      | some r => exact h2 j r h4 hw
  · obtain ⟨x', h1, h2⟩ := old i x hi
    obtain ⟨y', h3, h4⟩ := old j y hj
    exact hD.1 i j x' y' h1 h3 (by rw [h2, h4, hxy])
  · obtain ⟨q', h1, h2⟩ := old k q h
    rw [← h2]
    exact hD.2 k q' h1

section ZR
variable {p : Program} {l : Launch} {e : Env} {R : Room} {s : State} {m : MethodId} {args : Array Value} {below : List Frame} {meth : Method} {c : Code} {H : Heap} {locs : List Loc} {cells slots : Nat} {Q : State → Prop}
variable {cc : ByteArray} {pc : Nat} {ls : Array Slot} {rest : List Value}

theorem zr_ic (hx : p.tables.exec = Jvm.exec) (hb : c.code = cc) {n : Int} (hdg : decode cc pc = .ok (.iconst n, 1))
    (k : W p l e R s m args below meth c H locs cells slots Q (F0 m (pc + 1) ls (.int (iI n) :: rest))) : W p l e R s m args below meth c H locs cells slots Q (F0 m pc ls rest) := lv_iconst hx hb hdg rfl k
theorem zr_bi (hx : p.tables.exec = Jvm.exec) (hb : c.code = cc) {n : Int} (hdg : decode cc pc = .ok (.bipush n, 2)) (hv : (Int8.ofInt n).toInt32 = iI n)
    (k : W p l e R s m args below meth c H locs cells slots Q (F0 m (pc + 2) ls (.int (iI n) :: rest))) : W p l e R s m args below meth c H locs cells slots Q (F0 m pc ls rest) := lv_bipush hx hb hdg hv k
theorem zr_si (hx : p.tables.exec = Jvm.exec) (hb : c.code = cc) {n : Int} (hdg : decode cc pc = .ok (.sipush n, 3)) (hv : (Int16.ofInt n).toInt32 = iI n)
    (k : W p l e R s m args below meth c H locs cells slots Q (F0 m (pc + 3) ls (.int (iI n) :: rest))) : W p l e R s m args below meth c H locs cells slots Q (F0 m pc ls rest) := lv_sipush hx hb hdg hv k
theorem zr_add (hx : p.tables.exec = Jvm.exec) (hb : c.code = cc) {x y : Int} (hdg : decode cc pc = .ok (.iadd, 1))
    (k : W p l e R s m args below meth c H locs cells slots Q (F0 m (pc + 1) ls (.int (iI (x + y)) :: rest))) : W p l e R s m args below meth c H locs cells slots Q (F0 m pc ls (.int (iI y) :: .int (iI x) :: rest)) := lv_iadd hx hb hdg (by rw [iI_add]; exact k)
theorem zr_sub (hx : p.tables.exec = Jvm.exec) (hb : c.code = cc) {x y : Int} (hdg : decode cc pc = .ok (.isub, 1))
    (k : W p l e R s m args below meth c H locs cells slots Q (F0 m (pc + 1) ls (.int (iI (x - y)) :: rest))) : W p l e R s m args below meth c H locs cells slots Q (F0 m pc ls (.int (iI y) :: .int (iI x) :: rest)) := lv_isub hx hb hdg (by rw [iI_sub]; exact k)
theorem zr_mul (hx : p.tables.exec = Jvm.exec) (hb : c.code = cc) {x y : Int} (hdg : decode cc pc = .ok (.imul, 1))
    (k : W p l e R s m args below meth c H locs cells slots Q (F0 m (pc + 1) ls (.int (iI (x * y)) :: rest))) : W p l e R s m args below meth c H locs cells slots Q (F0 m pc ls (.int (iI y) :: .int (iI x) :: rest)) := lv_imul hx hb hdg (by rw [iI_mul]; exact k)
theorem zr_addN (hx : p.tables.exec = Jvm.exec) (hb : c.code = cc) {x y : Nat} (hdg : decode cc pc = .ok (.iadd, 1))
    (k : W p l e R s m args below meth c H locs cells slots Q (F0 m (pc + 1) ls (.int (iI ((x + y : Nat) : Int)) :: rest))) : W p l e R s m args below meth c H locs cells slots Q (F0 m pc ls (.int (iI (y : Int)) :: .int (iI (x : Int)) :: rest)) := lv_iadd hx hb hdg (by rw [iI_add, ← Int.natCast_add]; exact k)
theorem zr_mulN (hx : p.tables.exec = Jvm.exec) (hb : c.code = cc) {x y : Nat} (hdg : decode cc pc = .ok (.imul, 1))
    (k : W p l e R s m args below meth c H locs cells slots Q (F0 m (pc + 1) ls (.int (iI ((x * y : Nat) : Int)) :: rest))) : W p l e R s m args below meth c H locs cells slots Q (F0 m pc ls (.int (iI (y : Int)) :: .int (iI (x : Int)) :: rest)) := lv_imul hx hb hdg (by rw [iI_mul, ← Int.natCast_mul]; exact k)
theorem zr_div (hx : p.tables.exec = Jvm.exec) (hb : c.code = cc) {x y : Int} (hdg : decode cc pc = .ok (.idiv, 1)) (hx1 : zB x) (hy1 : zB y) (h0 : 0 ≤ x) (h1 : 0 < y)
    (k : W p l e R s m args below meth c H locs cells slots Q (F0 m (pc + 1) ls (.int (iI (x / y)) :: rest))) : W p l e R s m args below meth c H locs cells slots Q (F0 m pc ls (.int (iI y) :: .int (iI x) :: rest)) := lv_idiv hx hb hdg (fun h => by have h2 := (iI_eq hy1 zB_0).mp h; omega) (by rw [iI_div hx1 hy1 h0 h1]; exact k)
theorem zr_iinc (hx : p.tables.exec = Jvm.exec) (hb : c.code = cc) {i nL k0 : Nat} {n : Int} {x : Int} {lv lv2 : List (Nat × Value)} (hdg : decode cc pc = .ok (.iinc i n, 3)) (h : lv_has ls nL lv) (hk : lv[k0]? = some (i, .int (iI x))) (hn : i < nL) (hl : (i, Value.int (iI (x + n))) :: lv.filter (fun q => !(q.1 == i) && !(q.1 + 1 == i && q.2.category == 2)) = lv2)
    (kk : ∀ ls2 : Array Slot, lv_has ls2 nL lv2 → W p l e R s m args below meth c H locs cells slots Q (F0 m (pc + 3) ls2 rest)) : W p l e R s m args below meth c H locs cells slots Q (F0 m pc ls rest) := lv_iinc hx hb hdg h hk (iI_add x n) hn hl kk
theorem zr_icmp_lt (hx : p.tables.exec = Jvm.exec) (hb : c.code = cc) {x y : Int} {off : Int} {tgt : Nat} (hdg : decode cc pc = .ok (.if_icmp .lt off, 3)) (ht : (pc : Int) + off = (tgt : Int)) (h1 : zB x) (h2 : zB y)
    (kt : x < y → W p l e R s m args below meth c H locs cells slots Q (F0 m tgt ls rest)) (kf : y ≤ x → W p l e R s m args below meth c H locs cells slots Q (F0 m (pc + 3) ls rest)) : W p l e R s m args below meth c H locs cells slots Q (F0 m pc ls (.int (iI y) :: .int (iI x) :: rest)) := lv_icmp_lt hx hb hdg ht (fun q => kt ((iI_lt h1 h2).mp q)) (fun q => kf (Int.not_lt.mp (fun z => q ((iI_lt h1 h2).mpr z))))
theorem zr_if_lt (hx : p.tables.exec = Jvm.exec) (hb : c.code = cc) {x : Int} {off : Int} {tgt : Nat} (hdg : decode cc pc = .ok (.ifCond .lt off, 3)) (ht : (pc : Int) + off = (tgt : Int)) (h1 : zB x)
    (kt : x < 0 → W p l e R s m args below meth c H locs cells slots Q (F0 m tgt ls rest)) (kf : 0 ≤ x → W p l e R s m args below meth c H locs cells slots Q (F0 m (pc + 3) ls rest)) : W p l e R s m args below meth c H locs cells slots Q (F0 m pc ls (.int (iI x) :: rest)) := lv_if_lt hx hb hdg ht (fun q => kt ((iI_lt h1 zB_0).mp q)) (fun q => kf (Int.not_lt.mp (fun z => q ((iI_lt h1 zB_0).mpr z))))
theorem zr_icmp_ge (hx : p.tables.exec = Jvm.exec) (hb : c.code = cc) {x y : Int} {off : Int} {tgt : Nat} (hdg : decode cc pc = .ok (.if_icmp .ge off, 3)) (ht : (pc : Int) + off = (tgt : Int)) (h1 : zB x) (h2 : zB y)
    (kt : y ≤ x → W p l e R s m args below meth c H locs cells slots Q (F0 m tgt ls rest)) (kf : x < y → W p l e R s m args below meth c H locs cells slots Q (F0 m (pc + 3) ls rest)) : W p l e R s m args below meth c H locs cells slots Q (F0 m pc ls (.int (iI y) :: .int (iI x) :: rest)) := lv_icmp_ge hx hb hdg ht (fun q => kt ((iI_le h2 h1).mp q)) (fun q => kf (Int.not_le.mp (fun z => q ((iI_le h2 h1).mpr z))))
theorem zr_if_ge (hx : p.tables.exec = Jvm.exec) (hb : c.code = cc) {x : Int} {off : Int} {tgt : Nat} (hdg : decode cc pc = .ok (.ifCond .ge off, 3)) (ht : (pc : Int) + off = (tgt : Int)) (h1 : zB x)
    (kt : 0 ≤ x → W p l e R s m args below meth c H locs cells slots Q (F0 m tgt ls rest)) (kf : x < 0 → W p l e R s m args below meth c H locs cells slots Q (F0 m (pc + 3) ls rest)) : W p l e R s m args below meth c H locs cells slots Q (F0 m pc ls (.int (iI x) :: rest)) := lv_if_ge hx hb hdg ht (fun q => kt ((iI_le zB_0 h1).mp q)) (fun q => kf (Int.not_le.mp (fun z => q ((iI_le zB_0 h1).mpr z))))
theorem zr_icmp_gt (hx : p.tables.exec = Jvm.exec) (hb : c.code = cc) {x y : Int} {off : Int} {tgt : Nat} (hdg : decode cc pc = .ok (.if_icmp .gt off, 3)) (ht : (pc : Int) + off = (tgt : Int)) (h1 : zB x) (h2 : zB y)
    (kt : y < x → W p l e R s m args below meth c H locs cells slots Q (F0 m tgt ls rest)) (kf : x ≤ y → W p l e R s m args below meth c H locs cells slots Q (F0 m (pc + 3) ls rest)) : W p l e R s m args below meth c H locs cells slots Q (F0 m pc ls (.int (iI y) :: .int (iI x) :: rest)) := lv_icmp_gt hx hb hdg ht (fun q => kt ((iI_lt h2 h1).mp q)) (fun q => kf (Int.not_lt.mp (fun z => q ((iI_lt h2 h1).mpr z))))
theorem zr_if_gt (hx : p.tables.exec = Jvm.exec) (hb : c.code = cc) {x : Int} {off : Int} {tgt : Nat} (hdg : decode cc pc = .ok (.ifCond .gt off, 3)) (ht : (pc : Int) + off = (tgt : Int)) (h1 : zB x)
    (kt : 0 < x → W p l e R s m args below meth c H locs cells slots Q (F0 m tgt ls rest)) (kf : x ≤ 0 → W p l e R s m args below meth c H locs cells slots Q (F0 m (pc + 3) ls rest)) : W p l e R s m args below meth c H locs cells slots Q (F0 m pc ls (.int (iI x) :: rest)) := lv_if_gt hx hb hdg ht (fun q => kt ((iI_lt zB_0 h1).mp q)) (fun q => kf (Int.not_lt.mp (fun z => q ((iI_lt zB_0 h1).mpr z))))
theorem zr_icmp_le (hx : p.tables.exec = Jvm.exec) (hb : c.code = cc) {x y : Int} {off : Int} {tgt : Nat} (hdg : decode cc pc = .ok (.if_icmp .le off, 3)) (ht : (pc : Int) + off = (tgt : Int)) (h1 : zB x) (h2 : zB y)
    (kt : x ≤ y → W p l e R s m args below meth c H locs cells slots Q (F0 m tgt ls rest)) (kf : y < x → W p l e R s m args below meth c H locs cells slots Q (F0 m (pc + 3) ls rest)) : W p l e R s m args below meth c H locs cells slots Q (F0 m pc ls (.int (iI y) :: .int (iI x) :: rest)) := lv_icmp_le hx hb hdg ht (fun q => kt ((iI_le h1 h2).mp q)) (fun q => kf (Int.not_le.mp (fun z => q ((iI_le h1 h2).mpr z))))
theorem zr_if_le (hx : p.tables.exec = Jvm.exec) (hb : c.code = cc) {x : Int} {off : Int} {tgt : Nat} (hdg : decode cc pc = .ok (.ifCond .le off, 3)) (ht : (pc : Int) + off = (tgt : Int)) (h1 : zB x)
    (kt : x ≤ 0 → W p l e R s m args below meth c H locs cells slots Q (F0 m tgt ls rest)) (kf : 0 < x → W p l e R s m args below meth c H locs cells slots Q (F0 m (pc + 3) ls rest)) : W p l e R s m args below meth c H locs cells slots Q (F0 m pc ls (.int (iI x) :: rest)) := lv_if_le hx hb hdg ht (fun q => kt ((iI_le h1 zB_0).mp q)) (fun q => kf (Int.not_le.mp (fun z => q ((iI_le h1 zB_0).mpr z))))
theorem zr_icmp_eq (hx : p.tables.exec = Jvm.exec) (hb : c.code = cc) {x y : Int} {off : Int} {tgt : Nat} (hdg : decode cc pc = .ok (.if_icmp .eq off, 3)) (ht : (pc : Int) + off = (tgt : Int)) (h1 : zB x) (h2 : zB y)
    (kt : x = y → W p l e R s m args below meth c H locs cells slots Q (F0 m tgt ls rest)) (kf : x ≠ y → W p l e R s m args below meth c H locs cells slots Q (F0 m (pc + 3) ls rest)) : W p l e R s m args below meth c H locs cells slots Q (F0 m pc ls (.int (iI y) :: .int (iI x) :: rest)) := lv_icmp_eq hx hb hdg ht (fun q => kt ((iI_eq h1 h2).mp q)) (fun q => kf (fun z => q ((iI_eq h1 h2).mpr z)))
theorem zr_if_eq (hx : p.tables.exec = Jvm.exec) (hb : c.code = cc) {x : Int} {off : Int} {tgt : Nat} (hdg : decode cc pc = .ok (.ifCond .eq off, 3)) (ht : (pc : Int) + off = (tgt : Int)) (h1 : zB x)
    (kt : x = 0 → W p l e R s m args below meth c H locs cells slots Q (F0 m tgt ls rest)) (kf : x ≠ 0 → W p l e R s m args below meth c H locs cells slots Q (F0 m (pc + 3) ls rest)) : W p l e R s m args below meth c H locs cells slots Q (F0 m pc ls (.int (iI x) :: rest)) := lv_if_eq hx hb hdg ht (fun q => kt ((iI_eq h1 zB_0).mp q)) (fun q => kf (fun z => q ((iI_eq h1 zB_0).mpr z)))
theorem zr_icmp_ne (hx : p.tables.exec = Jvm.exec) (hb : c.code = cc) {x y : Int} {off : Int} {tgt : Nat} (hdg : decode cc pc = .ok (.if_icmp .ne off, 3)) (ht : (pc : Int) + off = (tgt : Int)) (h1 : zB x) (h2 : zB y)
    (kt : x ≠ y → W p l e R s m args below meth c H locs cells slots Q (F0 m tgt ls rest)) (kf : x = y → W p l e R s m args below meth c H locs cells slots Q (F0 m (pc + 3) ls rest)) : W p l e R s m args below meth c H locs cells slots Q (F0 m pc ls (.int (iI y) :: .int (iI x) :: rest)) := lv_icmp_ne hx hb hdg ht (fun q => kt (fun z => q ((iI_eq h1 h2).mpr z))) (fun q => kf ((iI_eq h1 h2).mp q))
theorem zr_if_ne (hx : p.tables.exec = Jvm.exec) (hb : c.code = cc) {x : Int} {off : Int} {tgt : Nat} (hdg : decode cc pc = .ok (.ifCond .ne off, 3)) (ht : (pc : Int) + off = (tgt : Int)) (h1 : zB x)
    (kt : x ≠ 0 → W p l e R s m args below meth c H locs cells slots Q (F0 m tgt ls rest)) (kf : x = 0 → W p l e R s m args below meth c H locs cells slots Q (F0 m (pc + 3) ls rest)) : W p l e R s m args below meth c H locs cells slots Q (F0 m pc ls (.int (iI x) :: rest)) := lv_if_ne hx hb hdg ht (fun q => kt (fun z => q ((iI_eq h1 zB_0).mpr z))) (fun q => kf ((iI_eq h1 zB_0).mp q))
theorem bZ_0 {P : Prop} [Decidable P] : bZ P = 0 ↔ ¬ P := by unfold bZ; by_cases h : P; rw [if_pos h]; exact ⟨fun q => by omega, fun q => absurd h q⟩; rw [if_neg h]; exact ⟨fun _ => h, fun _ => rfl⟩
theorem bZ_B (P : Prop) [Decidable P] : zB (bZ P) := by rcases bZ_01 P with h | h <;> rw [h] <;> exact ⟨by decide, by decide⟩
theorem zr_ifB_eq (hx : p.tables.exec = Jvm.exec) (hb : c.code = cc) {P : Prop} [Decidable P] {off : Int} {tgt : Nat} (hdg : decode cc pc = .ok (.ifCond .eq off, 3)) (ht : (pc : Int) + off = (tgt : Int))
    (kt : ¬ P → W p l e R s m args below meth c H locs cells slots Q (F0 m tgt ls rest)) (kf : P → W p l e R s m args below meth c H locs cells slots Q (F0 m (pc + 3) ls rest)) : W p l e R s m args below meth c H locs cells slots Q (F0 m pc ls (.int (iI (bZ P)) :: rest)) := zr_if_eq hx hb hdg ht (bZ_B P) (fun q => kt (bZ_0.mp q)) (fun q => kf (Classical.not_not.mp (fun z => q (bZ_0.mpr z))))
theorem zr_ifB_ne (hx : p.tables.exec = Jvm.exec) (hb : c.code = cc) {P : Prop} [Decidable P] {off : Int} {tgt : Nat} (hdg : decode cc pc = .ok (.ifCond .ne off, 3)) (ht : (pc : Int) + off = (tgt : Int))
    (kt : P → W p l e R s m args below meth c H locs cells slots Q (F0 m tgt ls rest)) (kf : ¬ P → W p l e R s m args below meth c H locs cells slots Q (F0 m (pc + 3) ls rest)) : W p l e R s m args below meth c H locs cells slots Q (F0 m pc ls (.int (iI (bZ P)) :: rest)) := zr_if_ne hx hb hdg ht (bZ_B P) (fun q => kt (Classical.not_not.mp (fun z => q (bZ_0.mpr z)))) (fun q => kf (bZ_0.mp q))
/-- a value by another name -/
theorem zr_top {v w : Value} (h : v = w) (k : W p l e R s m args below meth c H locs cells slots Q (F0 m pc ls (w :: rest))) : W p l e R s m args below meth c H locs cells slots Q (F0 m pc ls (v :: rest)) := by rw [h]; exact k
theorem zr_topi {x y : Int} (h : x = y) (k : W p l e R s m args below meth c H locs cells slots Q (F0 m pc ls (.int (iI y) :: rest))) : W p l e R s m args below meth c H locs cells slots Q (F0 m pc ls (.int (iI x) :: rest)) := by rw [h]; exact k
variable {D : va_G} {cl : List vw_C} {tys : List (ClassId × FieldType)} {ws : va_W} {a : Nat} {A : Nat → Prop} {H0 : Heap}
theorem zr_iald (hx : p.tables.exec = Jvm.exec) (hb : c.code = cc) (hK : va_K D cl tys s) (hP : va_P D cl ws H) (q0 t0 : Nat) {cA : ClassId} {n : Nat} {b : Nat → Int} (ha : ws[q0]? = some (a, zArr cA n b)) (ht : tys[t0]? = some (cA, .int)) {z : Int} (j : Nat) (hj : z = (j : Int)) (hn : j < n) (hn2 : n ≤ 2147483647) (hdg : decode cc pc = .ok (.iaload, 1))
    (kk : W p l e R s m args below meth c H locs cells slots Q (F0 m (pc + 1) ls (.int (iI (b j)) :: rest))) : W p l e R s m args below meth c H locs cells slots Q (F0 m pc ls (.int (iI z) :: .ref a :: rest)) := by
  subst hj
  have hB : zB (j : Int) := ⟨by omega, by omega⟩
  refine va_iald hx hb hK hP q0 t0 ha ht (iI_in hB (by omega) (by omega)) hdg ?_
  rw [iI_clamp hB]
  exact kk
theorem zr_iast (hx : p.tables.exec = Jvm.exec) (hb : c.code = cc) (hK : va_K D cl tys s) (hP : va_P D cl ws H) (hD : va_D A ws) (hS : va_S A H0 H locs) (q0 t0 : Nat) {cA : ClassId} {n : Nat} {b : Nat → Int} (ha : ws[q0]? = some (a, zArr cA n b)) (ht : tys[t0]? = some (cA, .int)) {z v : Int} (j : Nat) (hj : z = (j : Int)) (hn : j < n) (hn2 : n ≤ 2147483647) (hdg : decode cc pc = .ok (.iastore, 1))
    (kk : ∀ (H1 : Heap) (locs1 : List Loc), va_P D cl (ws.set q0 (a, zArr cA n (uZ b j v))) H1 → va_D A (ws.set q0 (a, zArr cA n (uZ b j v))) → va_S A H0 H1 locs1 → W p l e R s m args below meth c H1 locs1 cells slots Q (F0 m (pc + 1) ls rest)) : W p l e R s m args below meth c H locs cells slots Q (F0 m pc ls (.int (iI v) :: .int (iI z) :: .ref a :: rest)) := by
  subst hj
  have hB : zB (j : Int) := ⟨by omega, by omega⟩
  refine va_iast hx hb hK hP hD hS q0 t0 ha ht (iI_in hB (by omega) (by omega)) hdg (fun H1 locs1 g1 g2 g3 => ?_)
  rw [iI_clamp hB, Int.toNat_natCast, uZ_upd] at g1 g2
  exact kk H1 locs1 g1 g2 g3
theorem zr_alen (hx : p.tables.exec = Jvm.exec) (hb : c.code = cc) (hK : va_K D cl tys s) (hP : va_P D cl ws H) (q0 t0 : Nat) {cA : ClassId} {n : Nat} {b : Nat → Int} (ha : ws[q0]? = some (a, zArr cA n b)) (ht : tys[t0]? = some (cA, .int)) (hdg : decode cc pc = .ok (.arraylength, 1))
    (kk : W p l e R s m args below meth c H locs cells slots Q (F0 m (pc + 1) ls (.int (iI n) :: rest))) : W p l e R s m args below meth c H locs cells slots Q (F0 m pc ls (.ref a :: rest)) := va_alen hx hb hK hP q0 t0 ha ht (iI_nI n) hdg kk
end ZR
/-! contracts: a method that only reads; one that writes the cells of its world in place -/
def zP (D : va_G) (cI : ClassId) (ws : va_W) : State → Prop := fun U => va_P D vwCl ws U.heap ∧ va_K D vwCl [(cI, .int)] U
def zPW (D : va_G) (cI : ClassId) (ws : va_W) : State → Prop := fun U => va_P D vwCl ws U.heap ∧ va_K D vwCl [(cI, .int)] U ∧ va_D (fun _ => True) ws
abbrev zRm (fr lo : Nat) : Room := { frames := fr, cells := 0, slots := 0, locals := lo }
def zRi (l : Launch) (y : MethodName) (wds : List Cond) (fr lo : Nat) (D : va_G) (cI : ClassId) (av : List Value) (ws : va_W) (r : Int32) : Prop := Met l y wds (zRm fr lo) (va_Pc av (zP D cI ws)) (vp_Si (fun x => x = r)) 0 0 (fun _ => False)
def zWv {S : Type} (l : Launch) (y : MethodName) (wds : List Cond) (fr lo : Nat) (D : va_G) (cI : ClassId) (av : List Value) (ws : va_W) (post : S → Prop) (out : S → va_W) : Prop := Met l y wds (zRm fr lo) (va_Pc av (zPW D cI ws)) (va_Qv post (fun u t => va_P D vwCl (out u) t.heap) (zA ws)) 0 0 (zA ws)
def zWi {S : Type} (l : Launch) (y : MethodName) (wds : List Cond) (fr lo : Nat) (D : va_G) (cI : ClassId) (av : List Value) (ws : va_W) (post : Int32 → S → Prop) (out : S → va_W) : Prop := Met l y wds (zRm fr lo) (va_Pc av (zPW D cI ws)) (va_Qi post (fun u t => va_P D vwCl (out u) t.heap) (zA ws)) 0 0 (zA ws)
theorem zP_blind {D : va_G} {cI : ClassId} {ws : va_W} {av : List Value} : FrameBlind (va_Pc av (zP D cI ws)) := fun a U g mk q => by
  obtain ⟨q0, qP, qK⟩ := q
  exact ⟨q0, qP, va_K.moved (u := U) (U := U.calling g mk a) (Vm.Alike.refl U.vm) qK⟩
theorem zPW_blind {D : va_G} {cI : ClassId} {ws : va_W} {av : List Value} : FrameBlind (va_Pc av (zPW D cI ws)) := fun a U g mk q => by
  obtain ⟨q0, qP, qK, qD⟩ := q
  exact ⟨q0, qP, va_K.moved (u := U) (U := U.calling g mk a) (Vm.Alike.refl U.vm) qK, qD⟩
abbrev zFix (p : Program) (m : MethodId) (c : Code) (cc : ByteArray) (nL : Nat) (s : State) (args : Array Value) (wds : List Cond) (own : String) : Prop := CallFix p m c cc nL s args wds own
section ZM
variable {l : Launch} {y : MethodName} {wds wds' : List Cond} {fr lo : Nat} {D : va_G} {cI : ClassId} {av : List Value} {ws : va_W} {cc : ByteArray} {maxL : Nat} {rt : FieldType}
theorem zRi_of {r : Int32} (hy : plainName y.cls = true) (hw : wds = Cond.code y cc maxL (some rt) :: wds') (hav : (lg_sl av).length ≤ maxL)
    (body : ∀ p e s m args below meth c ls, zFix p m c cc maxL s args wds y.cls → meth.sig.returnType = some rt → meth.locks = false → va_P D vwCl ws s.heap → va_K D vwCl [(cI, .int)] s → lv_has ls maxL (lv_args 0 av) →
      W p l e (zRm fr lo) s m args below meth c s.heap [] 0 0 (MQ below (vp_Si (fun x => x = r)) args s 0 0 (fun _ => False)) (F0 m 0 ls [])) : zRi l y wds fr lo D cI av ws r := by
  refine Met.ofW (cc := cc) (maxL := maxL) (ret := some rt) hy hw ?_
  intro p e s m args below meth c s₁ B hml hv
  obtain ⟨rfl, hP, hK⟩ := hv
  have hl := lv_entry av (n := maxL) hav
  rw [lg_entry_eq]
  exact body p e s m _ below meth c _ ⟨B.exec, B.bytes, hml, findClass_of_methodNamed B.named, atoms_spec (ws := wds) B.pre⟩ B.returns B.notSynchronized hP hK hl
theorem zWv_of {S : Type} {post : S → Prop} {out : S → va_W} (hy : plainName y.cls = true) (hw : wds = Cond.code y cc maxL none :: wds') (hav : (lg_sl av).length ≤ maxL)
    (body : ∀ p e s m args below meth c ls (A : Nat → Prop), zFix p m c cc maxL s args wds y.cls → meth.sig.returnType = none → meth.locks = false → va_P D vwCl ws s.heap → va_K D vwCl [(cI, .int)] s → va_D A ws → va_S A s.heap s.heap [] → lv_has ls maxL (lv_args 0 av) →
      W p l e (zRm fr lo) s m args below meth c s.heap [] 0 0 (MQ below (va_Qv post (fun u t => va_P D vwCl (out u) t.heap) A) args s 0 0 A) (F0 m 0 ls [])) : zWv l y wds fr lo D cI av ws post out := by
  refine Met.ofW (cc := cc) (maxL := maxL) (ret := none) hy hw ?_
  intro p e s m args below meth c s₁ B hml hv
  obtain ⟨rfl, hP, hK, hD⟩ := hv
  have hl := lv_entry av (n := maxL) hav
  rw [lg_entry_eq]
  exact body p e s m _ below meth c _ (zA ws) ⟨B.exec, B.bytes, hml, findClass_of_methodNamed B.named, atoms_spec (ws := wds) B.pre⟩ B.returns B.notSynchronized hP hK (zA_D hD) va_S.rf hl
theorem zWi_of {S : Type} {post : Int32 → S → Prop} {out : S → va_W} (hy : plainName y.cls = true) (hw : wds = Cond.code y cc maxL (some rt) :: wds') (hav : (lg_sl av).length ≤ maxL)
    (body : ∀ p e s m args below meth c ls (A : Nat → Prop), zFix p m c cc maxL s args wds y.cls → meth.sig.returnType = some rt → meth.locks = false → va_P D vwCl ws s.heap → va_K D vwCl [(cI, .int)] s → va_D A ws → va_S A s.heap s.heap [] → lv_has ls maxL (lv_args 0 av) →
      W p l e (zRm fr lo) s m args below meth c s.heap [] 0 0 (MQ below (va_Qi post (fun u t => va_P D vwCl (out u) t.heap) A) args s 0 0 A) (F0 m 0 ls [])) : zWi l y wds fr lo D cI av ws post out := by
  refine Met.ofW (cc := cc) (maxL := maxL) (ret := some rt) hy hw ?_
  intro p e s m args below meth c s₁ B hml hv
  obtain ⟨rfl, hP, hK, hD⟩ := hv
  have hl := lv_entry av (n := maxL) hav
  rw [lg_entry_eq]
  exact body p e s m _ below meth c _ (zA ws) ⟨B.exec, B.bytes, hml, findClass_of_methodNamed B.named, atoms_spec (ws := wds) B.pre⟩ B.returns B.notSynchronized hP hK (zA_D hD) va_S.rf hl
end ZM
section ZE
variable {p : Program} {l : Launch} {e : Env} {R : Room} {s : State} {m : MethodId} {args : Array Value} {below : List Frame} {meth : Method} {c : Code} {H : Heap} {locs : List Loc} {cells slots : Nat} {cc : ByteArray} {pc : Nat} {ls : Array Slot} {D : va_G} {A : Nat → Prop}
/-- ends -/
theorem zRi_ret {r x : Int32} (hx : p.tables.exec = Jvm.exec) (hb : c.code = cc) (hr : meth.sig.returnType = some .int) (hlocks : meth.locks = false) (hdg : decode cc pc = .ok (.ireturn, 1)) (h : x = r) : W p l e R s m args below meth c s.heap [] cells slots (MQ below (vp_Si (fun x => x = r)) args s cells slots (fun _ => False)) (F0 m pc ls [.int x]) :=
  W.iret hx hb hr (fun t ht _ => ⟨x, rfl, h, ht⟩) (fun q hq => by cases hq) hdg hlocks
theorem zRi_retz {r x : Int32} {ty : FieldType} (hx : p.tables.exec = Jvm.exec) (hb : c.code = cc) (hr : meth.sig.returnType = some ty) (hn : narrow ty (.int x) = .int x) (hlocks : meth.locks = false) (hdg : decode cc pc = .ok (.ireturn, 1)) (h : x = r) : W p l e R s m args below meth c s.heap [] cells slots (MQ below (vp_Si (fun x => x = r)) args s cells slots (fun _ => False)) (F0 m pc ls [.int x]) :=
  W.zret hx hb hr hn (fun t ht _ => ⟨x, rfl, h, ht⟩) (fun q hq => by cases hq) hdg hlocks
theorem zWv_ret {S : Type} {post : S → Prop} {out : S → va_W} (hx : p.tables.exec = Jvm.exec) (hb : c.code = cc) (hr : meth.sig.returnType = none) (hlocks : meth.locks = false) (hS : va_S A s.heap H locs) (hdg : decode cc pc = .ok (.return_, 1)) (u : S) (h : post u) (hP : va_P D vwCl (out u) H) : W p l e R s m args below meth c H locs cells slots (MQ below (va_Qv post (fun u t => va_P D vwCl (out u) t.heap) A) args s cells slots A) (F0 m pc ls []) :=
  W.vret hx hb hr (fun t ht _ => ⟨⟨u, rfl, h, by show va_P D vwCl (out u) t.heap; rw [ht]; exact hP⟩, hS.F ht⟩) hS.2.2 hdg hlocks
theorem zWi_ret {S : Type} {post : Int32 → S → Prop} {out : S → va_W} {x : Int32} (hx : p.tables.exec = Jvm.exec) (hb : c.code = cc) (hr : meth.sig.returnType = some .int) (hlocks : meth.locks = false) (hS : va_S A s.heap H locs) (hdg : decode cc pc = .ok (.ireturn, 1)) (u : S) (h : post x u) (hP : va_P D vwCl (out u) H) : W p l e R s m args below meth c H locs cells slots (MQ below (va_Qi post (fun u t => va_P D vwCl (out u) t.heap) A) args s cells slots A) (F0 m pc ls [.int x]) :=
  W.iret hx hb hr (fun t ht _ => ⟨⟨x, u, rfl, h, by show va_P D vwCl (out u) t.heap; rw [ht]; exact hP⟩, hS.F ht⟩) hS.2.2 hdg hlocks
theorem zWi_retz {S : Type} {post : Int32 → S → Prop} {out : S → va_W} {x : Int32} {ty : FieldType} (hx : p.tables.exec = Jvm.exec) (hb : c.code = cc) (hr : meth.sig.returnType = some ty) (hn : narrow ty (.int x) = .int x) (hlocks : meth.locks = false) (hS : va_S A s.heap H locs) (hdg : decode cc pc = .ok (.ireturn, 1)) (u : S) (h : post x u) (hP : va_P D vwCl (out u) H) : W p l e R s m args below meth c H locs cells slots (MQ below (va_Qi post (fun u t => va_P D vwCl (out u) t.heap) A) args s cells slots A) (F0 m pc ls [.int x]) :=
  W.zret hx hb hr hn (fun t ht _ => ⟨⟨x, u, rfl, h, by show va_P D vwCl (out u) t.heap; rw [ht]; exact hP⟩, hS.F ht⟩) hS.2.2 hdg hlocks
end ZE
/-! calls -/
section ZC
variable {p : Program} {l : Launch} {e : Env} {R : Room} {s : State} {m : MethodId} {args : Array Value} {below : List Frame} {meth : Method} {c : Code} {H : Heap} {locs : List Loc} {cells slots : Nat} {Q : State → Prop}
variable {cc bytes : ByteArray} {pc nL n maxL index fr lo : Nat} {ls : Array Slot} {rest st0 : List Value} {D : va_G} {cI : ClassId} {tys : List (ClassId × FieldType)} {ws wc : va_W} {A : Nat → Prop} {H0 : Heap} {wds Ts : List Cond} {own C : String} {y : MethodName} {ret : Option FieldType} {b ci q0 : Nat} {As : List Value} {fs : List Value} {cq : vw_C}
theorem z_si {post : Int32 → Prop} {a : Array Value} (hr : va_Run p l e R s m args below meth c H locs cells slots 0 0 (F0 m pc ls st0) rest (vp_Si post a) (fun _ => False))
    (kk : ∀ r : Int32, post r → W p l e R s m args below meth c H locs cells slots Q (F0 m (pc + 3) ls (.int r :: rest))) : W p l e R s m args below meth c H locs cells slots Q (F0 m pc ls st0) := by
  intro T hT X
  obtain ⟨v, st₀, t, T', L, h0, X', hL, e1, -, ⟨r, hv, hp, hh⟩, st⟩ := hr T hT X
  cases hv
  obtain ⟨t2, a1, b1⟩ := kk r hp T' (by rw [e1, hh, h0]) (Stand.forget X' (fun q h => (hL q h).elim))
  exact ⟨t2, st t2 a1, b1⟩
theorem z_tys {U : State} (hK : va_K D vwCl tys U) (t0 : Nat) (ht : tys[t0]? = some (cI, .int)) : va_K D vwCl [(cI, .int)] U := hK.sub [t0] (by simp [ht])
/-- invokevirtual of a method that reads -/
theorem zc_ri {r : Int32} (hF : zFix p m c cc nL s args Ts own) (hM : zRi l y wds fr lo D cI (.ref b :: As) wc r) (cw : CallW R s args own C index y bytes maxL ret wds (zRm fr lo) 0 0 n)
    (hK : va_K D vwCl tys s) (hP : va_P D vwCl ws H) (is : List Nat) (hs : is.filterMap (fun i => ws[i]?) = wc) (t0 : Nat) (ht0 : tys[t0]? = some (cI, .int)) (q0 : Nat) (he : wc[q0]? = some (b, .inr (ci, fs))) (hc : vwCl[ci]? = some cq) (hCq : cq.1 = C)
    (hn : As.length = n) (hl : ls.size = nL) (hst : st0 = As.reverse ++ .ref b :: rest) (hW : (rest.map fun v => v.category).sum ≤ 8) (hdg : decode cc pc = .ok (.invokevirtual index, 3)) (hf : cells ≤ R.cells ∧ slots ≤ R.slots)
    (kk : W p l e R s m args below meth c H locs cells slots Q (F0 m (pc + 3) ls (.int r :: rest))) : W p l e R s m args below meth c H locs cells slots Q (F0 m pc ls st0) := by
  subst hCq
  have hPc : va_P D vwCl wc H := hP.sub is hs
  have hKc := z_tys hK t0 ht0
  refine z_si (va_runV (As := As) (rest := rest) hF hM cw ⟨zP_blind, va_recv hK hPc hc he, fun U hU hW => ⟨rfl, by rw [hU]; exact hPc, va_K.moved hW.alike hKc⟩⟩ rfl hn hl hst (lv_room hW) hdg ⟨hf.1, hf.2⟩) (fun r' h => ?_)
  subst h
  exact kk
theorem zc_riS {r : Int32} (hF : zFix p m c cc nL s args Ts own) (hM : zRi l y wds fr lo D cI As wc r) (cw : CallB R s args own index y bytes maxL ret wds (zRm fr lo) 0 0 n ∧ (Cond.static y).before args s = true)
    (hK : va_K D vwCl tys s) (hP : va_P D vwCl ws H) (is : List Nat) (hs : is.filterMap (fun i => ws[i]?) = wc) (t0 : Nat) (ht0 : tys[t0]? = some (cI, .int))
    (hn : As.length = n) (hl : ls.size = nL) (hst : st0 = As.reverse ++ rest) (hW : (rest.map fun v => v.category).sum ≤ 8) (hdg : decode cc pc = .ok (.invokestatic index, 3)) (hf : cells ≤ R.cells ∧ slots ≤ R.slots)
    (kk : W p l e R s m args below meth c H locs cells slots Q (F0 m (pc + 3) ls (.int r :: rest))) : W p l e R s m args below meth c H locs cells slots Q (F0 m pc ls st0) := by
  have hPc : va_P D vwCl wc H := hP.sub is hs
  have hKc := z_tys hK t0 ht0
  refine z_si (va_runS (As := As) (rest := rest) hF hM cw ⟨zP_blind, fun U hU hW => ⟨rfl, by rw [hU]; exact hPc, va_K.moved hW.alike hKc⟩⟩ rfl hn hl hst (lv_room hW) hdg ⟨hf.1, hf.2⟩) (fun r' h => ?_)
  subst h
  exact kk
/-- invokevirtual of a method that writes in place -/
theorem zc_wv {S : Type} {post : S → Prop} {out : S → va_W} (hF : zFix p m c cc nL s args Ts own) (hM : zWv l y wds fr lo D cI (.ref b :: As) wc post out) (cw : CallW R s args own C index y bytes maxL ret wds (zRm fr lo) 0 0 n)
    (hK : va_K D vwCl tys s) (hP : va_P D vwCl ws H) (hD : va_D A ws) (hS : va_S A H0 H locs) (is : List Nat) (hn0 : va_nd is = true) (hs : is.map (fun i => ws[i]?) = wc.map some) (hadr : ∀ u, (out u).map Prod.fst = wc.map Prod.fst) (t0 : Nat) (ht0 : tys[t0]? = some (cI, .int)) (q0 : Nat) (he : wc[q0]? = some (b, .inr (ci, fs))) (hc : vwCl[ci]? = some cq) (hCq : cq.1 = C)
    (hn : As.length = n) (hl : ls.size = nL) (hst : st0 = As.reverse ++ .ref b :: rest) (hW : (rest.map fun v => v.category).sum ≤ 8) (hdg : decode cc pc = .ok (.invokevirtual index, 3)) (hf : cells ≤ R.cells ∧ slots ≤ R.slots)
    (kk : ∀ (u : S) (H1 : Heap) (locs1 : List Loc), post u → va_P D vwCl (zUp ws is (out u)) H1 → va_D A (zUp ws is (out u)) → va_S A H0 H1 locs1 → W p l e R s m args below meth c H1 locs1 cells slots Q (F0 m (pc + 3) ls rest)) : W p l e R s m args below meth c H locs cells slots Q (F0 m pc ls st0) := by
  subst hCq
  have hDc : va_D A wc := hD.sub is hn0 hs
  have hPc : va_P D vwCl wc H := fun k q h => by
    obtain ⟨i, -, h2⟩ := z_at hs h
    exact hP i q h2
  have hKc := z_tys hK t0 ht0
  have hfr := zA_free hD is hs
  refine va_callv (va_runV (As := As) (rest := rest) hF hM cw ⟨zPW_blind, va_recv hK hPc hc he, fun U hU hW => ⟨rfl, by rw [hU]; exact hPc, va_K.moved hW.alike hKc, hDc.weaken (fun _ _ _ _ => trivial)⟩⟩ rfl hn hl hst (lv_room hW) hdg ⟨hf.1, hf.2⟩) hS (fun q _ h => hfr q h) hfr (fun u t H1 locs1 ht hvm hw hB hz1 hk1 hS1 => ?_)
  rw [ht] at hB
  obtain ⟨g1, g2⟩ := z_join hP hD is hs (hadr u) hk1 hB
  exact kk u H1 locs1 hw g1 g2 hS1
theorem zc_wi {S : Type} {post : Int32 → S → Prop} {out : S → va_W} (hF : zFix p m c cc nL s args Ts own) (hM : zWi l y wds fr lo D cI (.ref b :: As) wc post out) (cw : CallW R s args own C index y bytes maxL ret wds (zRm fr lo) 0 0 n)
    (hK : va_K D vwCl tys s) (hP : va_P D vwCl ws H) (hD : va_D A ws) (hS : va_S A H0 H locs) (is : List Nat) (hn0 : va_nd is = true) (hs : is.map (fun i => ws[i]?) = wc.map some) (hadr : ∀ u, (out u).map Prod.fst = wc.map Prod.fst) (t0 : Nat) (ht0 : tys[t0]? = some (cI, .int)) (q0 : Nat) (he : wc[q0]? = some (b, .inr (ci, fs))) (hc : vwCl[ci]? = some cq) (hCq : cq.1 = C)
    (hn : As.length = n) (hl : ls.size = nL) (hst : st0 = As.reverse ++ .ref b :: rest) (hW : (rest.map fun v => v.category).sum ≤ 8) (hdg : decode cc pc = .ok (.invokevirtual index, 3)) (hf : cells ≤ R.cells ∧ slots ≤ R.slots)
    (kk : ∀ (r : Int32) (u : S) (H1 : Heap) (locs1 : List Loc), post r u → va_P D vwCl (zUp ws is (out u)) H1 → va_D A (zUp ws is (out u)) → va_S A H0 H1 locs1 → W p l e R s m args below meth c H1 locs1 cells slots Q (F0 m (pc + 3) ls (.int r :: rest))) : W p l e R s m args below meth c H locs cells slots Q (F0 m pc ls st0) := by
  subst hCq
  have hDc : va_D A wc := hD.sub is hn0 hs
  have hPc : va_P D vwCl wc H := fun k q h => by
    obtain ⟨i, -, h2⟩ := z_at hs h
    exact hP i q h2
  have hKc := z_tys hK t0 ht0
  have hfr := zA_free hD is hs
  refine va_calli (va_runV (As := As) (rest := rest) hF hM cw ⟨zPW_blind, va_recv hK hPc hc he, fun U hU hW => ⟨rfl, by rw [hU]; exact hPc, va_K.moved hW.alike hKc, hDc.weaken (fun _ _ _ _ => trivial)⟩⟩ rfl hn hl hst (lv_room hW) hdg ⟨hf.1, hf.2⟩) hS (fun q _ h => hfr q h) hfr (fun r u t H1 locs1 ht hvm hw hB hz1 hk1 hS1 => ?_)
  rw [ht] at hB
  obtain ⟨g1, g2⟩ := z_join hP hD is hs (hadr u) hk1 hB
  exact kk r u H1 locs1 hw g1 g2 hS1
end ZC
