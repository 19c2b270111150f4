/-! p18: worlds with rows of rows: a few cells at their places, then the rows of int arrays, by an index -/
/-- a table of numbers, changed at one place -/
def u2 (F : Nat → Nat → Int) (a c : Nat) (v : Int) : Nat → Nat → Int := fun i j => if i = a ∧ j = c then v else F i j
theorem u2_s (F : Nat → Nat → Int) (a c : Nat) (v : Int) : u2 F a c v a c = v := if_pos ⟨rfl, rfl⟩
theorem u2_n (F : Nat → Nat → Int) (v : Int) {a c i j : Nat} (h : ¬ (i = a ∧ j = c)) : u2 F a c v i j = F i j := if_neg h
theorem u2_row (F : Nat → Nat → Int) (a c : Nat) (v : Int) (i : Nat) : u2 F a c v i = if i = a then uZ (F a) c v else F i := by
  funext j
  unfold u2
  by_cases h : i = a
  · subst h
    unfold uZ
    by_cases q : j = c <;> simp [q]
  · rw [if_neg (fun q => h q.1), if_neg h]
def qRw (cI : ClassId) (n k : Nat) (R : Nat → Nat) (F : Nat → Nat → Int) : va_W := (List.range n).map (fun i => (R i, zArr cI k (F i)))
abbrev qOut (cO : ClassId) (n : Nat) (R : Nat → Nat) : va_E := .inl (cO, (n, .inr (.inr (.inr (.inr (fun i => if i < n then some (R i) else none))))))
section QW
variable {cI cO : ClassId} {n k : Nat} {R : Nat → Nat} {F G : Nat → Nat → Int} {D : va_G} {cl : List vw_C} {X B : va_W} {H : Heap} {A : Nat → Prop}
theorem qRw_len : (qRw cI n k R F).length = n := by unfold qRw; rw [List.length_map, List.length_range]
theorem qRw_at {i : Nat} (hi : i < n) : (qRw cI n k R F)[i]? = some (R i, zArr cI k (F i)) := by
  unfold qRw
  rw [List.getElem?_map, List.getElem?_range hi]
  rfl
theorem qRw_mem {i : Nat} (hi : i < n) : (R i, zArr cI k (F i)) ∈ qRw cI n k R F := List.mem_of_getElem? (qRw_at hi)
theorem qRw_app {i : Nat} (hi : i < n) : (X ++ qRw cI n k R F)[X.length + i]? = some (R i, zArr cI k (F i)) := by
  rw [List.getElem?_append_right (by omega), Nat.add_sub_cancel_left]
  exact qRw_at hi
theorem qRw_set {i j : Nat} {v : Int} (hi : i < n) : (X ++ qRw cI n k R F).set (X.length + i) (R i, zArr cI k (uZ (F i) j v)) = X ++ qRw cI n k R (u2 F i j v) := by
  apply List.ext_getElem?
  intro q
  by_cases hq : X.length + i = q
  · subst hq
    rw [List.getElem?_set_self (by rw [List.length_append, qRw_len]; omega), qRw_app hi, u2_row, if_pos rfl]
  · rw [List.getElem?_set_ne hq]
    by_cases h1 : q < X.length
    · rw [List.getElem?_append_left h1, List.getElem?_append_left h1]
    · rw [List.getElem?_append_right (by omega), List.getElem?_append_right (by omega)]
      by_cases h2 : q - X.length < n
      · rw [qRw_at h2, qRw_at h2, u2_row, if_neg (by omega)]
      · rw [List.getElem?_eq_none (by rw [qRw_len]; omega), List.getElem?_eq_none (by rw [qRw_len]; omega)]
theorem q_cell {f g : Nat → Int} (h : ∀ j, j < k → f j = g j) : vp_cell cI (k, .inl (fun j => iI (f j))) = vp_cell cI (k, .inl (fun j => iI (g j))) := by
  rw [vp_cell_i, vp_cell_i]
  unfold arrV
  congr 1
  congr 1
  funext j
  show Value.int (iI (f j.val)) = Value.int (iI (g j.val))
  rw [h j.val j.isLt]
theorem qRw_congr (hP : va_P D cl (X ++ qRw cI n k R F) H) (h : ∀ i j, i < n → j < k → F i j = G i j) : va_P D cl (X ++ qRw cI n k R G) H := by
  intro q x hx
  by_cases h1 : q < X.length
  · rw [List.getElem?_append_left h1] at hx
    exact hP q x (by rw [List.getElem?_append_left h1]; exact hx)
  · rw [List.getElem?_append_right (by omega)] at hx
    have h2 : q - X.length < n := by
      have := (List.getElem?_eq_some_iff.mp hx).1
      rwa [qRw_len] at this
    rw [qRw_at h2] at hx
    cases hx
    have h3 := hP q _ (by rw [List.getElem?_append_right (by omega)]; exact qRw_at h2)
    show H[R (q - X.length)]? = some (vp_cell cI (k, .inl (fun j => iI (G (q - X.length) j))))
    rw [← q_cell (fun j hj => h _ j h2 hj)]
    exact h3
theorem q_adr {w w1 : va_W} (h : w1.map Prod.fst = w.map Prod.fst) (hD : va_D A w) : va_D A w1 := by
  refine ⟨fun i j x y hi hj hxy => ?_, fun q x hx => ?_⟩
  · obtain ⟨p1, hp1, e1⟩ := z_adr h hi
    obtain ⟨p2, hp2, e2⟩ := z_adr h hj
    exact hD.1 i j p1 p2 hp1 hp2 (by rw [e1, e2, hxy])
  · obtain ⟨p1, hp1, e1⟩ := z_adr h hx
    rw [← e1]
    exact hD.2 q p1 hp1
theorem qRw_congrD (hD : va_D A (X ++ qRw cI n k R F)) : va_D A (X ++ qRw cI n k R G) := by
  refine q_adr ?_ hD
  rw [List.map_append, List.map_append]
  congr 1
  unfold qRw
  rw [List.map_map, List.map_map]
  rfl
end QW
/-! what the classes of arrays are -/
theorem qKi {D : va_G} {t1 t2 : List (ClassId × FieldType)} {U : State} {c1 c2 : ClassId} (h1 : va_K D vwCl t1 U) (h2 : va_K D vwCl t2 U) (k1 k2 : Nat) (e1 : t1[k1]? = some (c1, .int)) (e2 : t2[k2]? = some (c2, .int)) : c2 = c1 := by
  have a1 := (h1.2 k1 _ e1).2
  have a2 := (h2.2 k2 _ e2).2
  exact Option.some.inj (a2.symm.trans a1)
theorem qKo {D : va_G} {t1 t2 : List (ClassId × FieldType)} {U : State} {c1 c2 : ClassId} (h1 : va_K D vwCl t1 U) (h2 : va_K D vwCl t2 U) (k1 k2 : Nat) (e1 : t1[k1]? = some (c1, .array .int)) (e2 : t2[k2]? = some (c2, .array .int)) : c2 = c1 := by
  have a1 := (h1.2 k1 _ e1).2
  have a2 := (h2.2 k2 _ e2).2
  exact Option.some.inj (a2.symm.trans a1)
theorem qS1 : "[" ++ FieldType.int.toString = "[I" := by decide +kernel
theorem qS2 : "[" ++ (FieldType.array .int).toString = "[[I" := by decide +kernel
theorem qKn {D : va_G} {t1 : List (ClassId × FieldType)} {U : State} {c1 : ClassId} (h1 : va_K D vwCl t1 U) (k1 : Nat) (e1 : t1[k1]? = some (c1, .int)) : U.vm.findClass "[I" = some c1 := by
  have a1 : U.vm.findClass ("[" ++ FieldType.int.toString) = some c1 := (h1.2 k1 _ e1).2
  rw [qS1] at a1
  exact a1
/-! rows -/
section QR
variable {p : Program} {l : Launch} {e : Env} {R0 : Room} {s : State} {m : MethodId} {args : Array Value} {below : List Frame} {meth : Method} {c : Code} {H : Heap} {locs : List Loc} {cells slots : Nat} {Q : State → Prop}
variable {cc : ByteArray} {pc : Nat} {ls : Array Slot} {rest : List Value} {D : va_G} {tys : List (ClassId × FieldType)} {ws X B : va_W} {a k : Nat} {A : Nat → Prop} {H0 : Heap} {cI cO : ClassId}
theorem zq_ald (hx : p.tables.exec = Jvm.exec) (hb : c.code = cc) (hK : va_K D vwCl tys s) (hP : va_P D vwCl ws H) (q0 t0 : Nat) {n : Nat} {R : Nat → Nat} (ha : ws[q0]? = some (a, qOut cO n R)) (ht : tys[t0]? = some (cO, .array .int)) {z : Int} (j : Nat) (hj : z = (j : Int)) (hn : j < n) (hn2 : n ≤ 2147483647) (hdg : decode cc pc = .ok (.aaload, 1))
    (kk : W p l e R0 s m args below meth c H locs cells slots Q (F0 m (pc + 1) ls (.ref (R j) :: rest))) : W p l e R0 s m args below meth c H locs cells slots Q (F0 m pc ls (.int (iI z) :: .ref a :: rest)) := by
  subst hj
  have hB : zB (j : Int) := ⟨by omega, by omega⟩
  refine W.aald (v := .ref (R j)) (ty := .array .int) hx hb (hP q0 _ ha) ((hK.2 t0 _ ht).1 n (fun i => va_rf (if i < n then some (R i) else none))) rfl (fun q => by cases q) (by show ¬ (iI _ < 0 ∨ (arrV _ _ _).slots.size ≤ _); rw [arrV_size]; exact iI_in (n := n) hB (by omega) (by omega)) ?_ rfl rfl hdg kk
  show (arrV cO n _).slots[_]? = _
  rw [iI_clamp hB, Int.toNat_natCast, arrV_read _ _ hn]
  show some (va_rf (if j < n then some (R j) else none)) = _
  rw [if_pos hn]
  rfl
theorem zq_olen (hx : p.tables.exec = Jvm.exec) (hb : c.code = cc) (hK : va_K D vwCl tys s) (hP : va_P D vwCl ws H) (q0 t0 : Nat) {n : Nat} {R : Nat → Nat} (ha : ws[q0]? = some (a, qOut cO n R)) (ht : tys[t0]? = some (cO, .array .int)) (hdg : decode cc pc = .ok (.arraylength, 1))
    (kk : W p l e R0 s m args below meth c H locs cells slots Q (F0 m (pc + 1) ls (.int (iI n) :: rest))) : W p l e R0 s m args below meth c H locs cells slots Q (F0 m pc ls (.ref a :: rest)) := va_alen hx hb hK hP q0 t0 ha ht (iI_nI n) hdg kk
theorem zq_rld (hx : p.tables.exec = Jvm.exec) (hb : c.code = cc) (hK : va_K D vwCl tys s) (hP : va_P D vwCl ws H) (t0 : Nat) {n : Nat} {f : Nat → Int} (hm : (a, zArr cI n f) ∈ ws) (ht : tys[t0]? = some (cI, .int)) {z : Int} (j : Nat) (hj : z = (j : Int)) (hn : j < n) (hn2 : n ≤ 2147483647) (hdg : decode cc pc = .ok (.iaload, 1))
    (kk : W p l e R0 s m args below meth c H locs cells slots Q (F0 m (pc + 1) ls (.int (iI (f j)) :: rest))) : W p l e R0 s m args below meth c H locs cells slots Q (F0 m pc ls (.int (iI z) :: .ref a :: rest)) := by
  obtain ⟨q0, hq⟩ := List.getElem?_of_mem hm
  exact zr_iald hx hb hK hP q0 t0 hq ht j hj hn hn2 hdg kk
theorem zq_rst (hx : p.tables.exec = Jvm.exec) (hb : c.code = cc) (hK : va_K D vwCl tys s) {n n2 : Nat} {R : Nat → Nat} {F : Nat → Nat → Int} (hP : va_P D vwCl (X ++ qRw cI n n2 R F) H) (hD : va_D A (X ++ qRw cI n n2 R F)) (hS : va_S A H0 H locs) (t0 : Nat) (ht : tys[t0]? = some (cI, .int)) (i : Nat) (hi : i < n) {z v : Int} (j : Nat) (hj : z = (j : Int)) (hn : j < n2) (hn2 : n2 ≤ 2147483647) (hdg : decode cc pc = .ok (.iastore, 1))
    (kk : ∀ (H1 : Heap) (locs1 : List Loc), va_P D vwCl (X ++ qRw cI n n2 R (u2 F i j v)) H1 → va_D A (X ++ qRw cI n n2 R (u2 F i j v)) → va_S A H0 H1 locs1 → W p l e R0 s m args below meth c H1 locs1 cells slots Q (F0 m (pc + 1) ls rest)) : W p l e R0 s m args below meth c H locs cells slots Q (F0 m pc ls (.int (iI v) :: .int (iI z) :: .ref (R i) :: rest)) := by
  refine zr_iast hx hb hK hP hD hS (X.length + i) t0 (qRw_app hi) ht j hj hn hn2 hdg (fun H1 locs1 g1 g2 g3 => ?_)
  rw [qRw_set hi] at g1 g2
  exact kk H1 locs1 g1 g2 g3
/-- the same behind other rows -/
theorem zq_rst2 (hx : p.tables.exec = Jvm.exec) (hb : c.code = cc) (hK : va_K D vwCl tys s) {n n2 : Nat} {R : Nat → Nat} {F : Nat → Nat → Int} (hP : va_P D vwCl (X ++ (B ++ qRw cI n n2 R F)) H) (hD : va_D A (X ++ (B ++ qRw cI n n2 R F))) (hS : va_S A H0 H locs) (t0 : Nat) (ht : tys[t0]? = some (cI, .int)) (i : Nat) (hi : i < n) {z v : Int} (j : Nat) (hj : z = (j : Int)) (hn : j < n2) (hn2 : n2 ≤ 2147483647) (hdg : decode cc pc = .ok (.iastore, 1))
    (kk : ∀ (H1 : Heap) (locs1 : List Loc), va_P D vwCl (X ++ (B ++ qRw cI n n2 R (u2 F i j v))) H1 → va_D A (X ++ (B ++ qRw cI n n2 R (u2 F i j v))) → va_S A H0 H1 locs1 → W p l e R0 s m args below meth c H1 locs1 cells slots Q (F0 m (pc + 1) ls rest)) : W p l e R0 s m args below meth c H locs cells slots Q (F0 m pc ls (.int (iI v) :: .int (iI z) :: .ref (R i) :: rest)) := by
  rw [← List.append_assoc] at hP hD
  refine zq_rst hx hb hK hP hD hS t0 ht i hi j hj hn hn2 hdg (fun H1 locs1 g1 g2 g3 => ?_)
  rw [List.append_assoc] at g1 g2
  exact kk H1 locs1 g1 g2 g3
theorem zq_newa (hx : p.tables.exec = Jvm.exec) (hb : c.code = cc) (harr : (Cond.arrayClass .int).before args s = true) (hK : va_K D vwCl [(cI, .int), (cO, .array .int)] s) (hP : va_P D vwCl (X ++ B) H) (hD : va_D A (X ++ B)) (hS : va_S A H0 H locs) (hA : ∀ q, H0.size ≤ q → A q) {z : Int} (N : Nat) (hz : z = (N : Int)) (hN : N ≤ 8) (hc : k + 1 ≤ R0.cells) (hs : 8 * k + 8 ≤ R0.slots) (hdg : decode cc pc = .ok (.newarray .int, 2))
    (kk : ∀ (q : Nat) (H1 : Heap), va_P D vwCl ((X ++ [(q, zArr cI N (fun _ => 0))]) ++ B) H1 → va_D A ((X ++ [(q, zArr cI N (fun _ => 0))]) ++ B) → va_S A H0 H1 locs → W p l e R0 s m args below meth c H1 locs (k + 1) (8 * (k + 1)) Q (F0 m (pc + 2) ls (.ref q :: rest))) : W p l e R0 s m args below meth c H locs k (8 * k) Q (F0 m pc ls (.int (iI z) :: rest)) := by
  subst hz
  have hB : zB (N : Int) := ⟨by omega, by omega⟩
  refine va_newa (atype := .int) (ty := .int) (a0 := (N, .inl (fun _ => iI 0))) hx hb harr rfl hK hP hD hS hA (n := iI (N : Int)) (N' := N) (fun cA => rfl) (fun h => by have h2 := (iI_lt hB zB_0).mp h; omega) ((iI_clamp hB).trans (Int.toNat_natCast N)) (by show N * 4 ≤ _; omega) hc (by omega) hdg (fun q cA H1 hK1 hP1 hD1 hS1 => ?_)
  have e9 : cA = cI := qKi hK hK1 0 2 rfl rfl
  rw [e9] at hP1 hD1
  exact W.widen (k := k + 1) (n := 8 * (k + 1)) (Nat.le_refl _) (by omega) (kk q H1 hP1.swap hD1.swap hS1)
theorem zq_mna (hx : p.tables.exec = Jvm.exec) (hb : c.code = cc) {own : String} {index : Nat} (hown : s.vm.findClass own = some m.cls) (hclink : (Cond.classLink own index "[[I").before args s = true) (hover : va_AOA .int s) (harr : (Cond.arrayClass .int).before args s = true) (hK : va_K D vwCl [(cI, .int), (cO, .array .int)] s) (hP : va_P D vwCl (X ++ B) H) (hD : va_D A (X ++ B)) (hS : va_S A H0 H locs) (hA : ∀ q, H0.size ≤ q → A q) {z y : Int} (N K : Nat) (hz : z = (N : Int)) (hy : y = (K : Int)) (hN : N ≤ 6) (hK6 : K ≤ 6) (hc : k + 7 ≤ R0.cells) (hs : 8 * k + 56 ≤ R0.slots) (hdg : decode cc pc = .ok (.multianewarray index 2, 4))
    (kk : ∀ (q : Nat) (r : Nat → Nat) (H1 : Heap), va_P D vwCl ((X ++ [(q, qOut cO N r)]) ++ (B ++ qRw cI N K r (fun _ _ => 0))) H1 → va_D A ((X ++ [(q, qOut cO N r)]) ++ (B ++ qRw cI N K r (fun _ _ => 0))) → va_S A H0 H1 locs → W p l e R0 s m args below meth c H1 locs (k + 7) (8 * (k + 7)) Q (F0 m (pc + 4) ls (.ref q :: rest))) : W p l e R0 s m args below meth c H locs k (8 * k) Q (F0 m pc ls (.int (iI y) :: .int (iI z) :: rest)) := by
  subst hz
  subst hy
  have hB : zB (N : Int) := ⟨by omega, by omega⟩
  have hB2 : zB (K : Int) := ⟨by omega, by omega⟩
  have hNK : N * K ≤ 36 := Nat.mul_le_mul hN hK6
  have hcy : s.vm.findClass (FieldType.array .int).toString = some cI := (hK.2 0 _ rfl).2
  have hP' : va_P D vwCl ((X ++ B) ++ va_pl [] (fun _ => .inr (0, []))) H := by rw [show va_pl [] (fun _ => (.inr (0, []) : va_E)) = [] from rfl, List.append_nil]; exact hP
  have hD' : va_D A ((X ++ B) ++ va_pl [] (fun _ => .inr (0, []))) := by rw [show va_pl [] (fun _ => (.inr (0, []) : va_E)) = [] from rfl, List.append_nil]; exact hD
  refine va_mna (z := (K, .inl (fun _ => iI 0))) hx hb hown (by rw [qS2]; exact hclink) hover harr hcy hK hP' hD' hS hA (N' := N) (K' := K) (fun h => by have h2 := (iI_lt hB zB_0).mp h; omega) (fun h => by have h2 := (iI_lt hB2 zB_0).mp h; omega) ((iI_clamp hB).trans (Int.toNat_natCast N)) ((iI_clamp hB2).trans (Int.toNat_natCast K)) (by omega) (by show K * 4 ≤ _; omega) (by omega) rfl rfl (by omega) (by omega) (fun c => arrV_new c K (.int 0)) hdg (fun q r cA H1 _ _ hK1 hP1 hD1 hS1 => ?_)
  have e9 : cA = cO := qKo hK hK1 1 2 rfl rfl
  rw [e9] at hP1 hD1
  have er : va_pl ([] ++ (List.range N).map r) (vr_up (fun _ => .inr (0, [])) ((List.range N).map r) (.inl (cI, (K, .inl (fun _ => iI 0))))) = qRw cI N K r (fun _ _ => 0) := by
    rw [← vr_rows (fun a _ h => absurd h List.not_mem_nil)]
    show [] ++ _ = _
    rw [List.nil_append, List.map_map]
    rfl
  rw [er] at hP1 hD1
  have hP2 := vr_lay hP1
  have hD2 := vr_layD hD1
  exact W.widen (k := k + 7) (n := 8 * (k + 7)) (by omega) (by omega) (kk q r H1 hP2 hD2 hS1)
end QR
