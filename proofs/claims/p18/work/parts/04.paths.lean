/-! PURE: sums, swaps, the best giving, no circle brings more -/
def zSum (f : Nat → Int) : Nat → Int
  | 0 => 0
  | n + 1 => zSum f n + f n
theorem zSum_congr {f g : Nat → Int} : ∀ n, (∀ i, i < n → f i = g i) → zSum f n = zSum g n
  | 0, _ => rfl
  | n + 1, h => by
    show zSum f n + f n = zSum g n + g n
    rw [zSum_congr n (fun i hi => h i (by omega)), h n (by omega)]
theorem zSum_upd {f : Nat → Int} {a : Nat} {x : Int} : ∀ n, a < n → zSum (fun i => if i = a then x else f i) n = zSum f n - f a + x
  | 0, h => by omega
  | n + 1, h => by
    show zSum _ n + (if n = a then x else f n) = zSum f n + f n - f a + x
    by_cases hn : n = a
    · subst hn
      rw [if_pos rfl, zSum_congr (g := f) n (fun i hi => if_neg (by omega))]
      omega
    · rw [if_neg hn, zSum_upd n (by omega)]
      omega
theorem zSum_add (f g : Nat → Int) : ∀ n, zSum (fun i => f i + g i) n = zSum f n + zSum g n
  | 0 => rfl
  | n + 1 => by
    show zSum _ n + (f n + g n) = zSum f n + f n + (zSum g n + g n)
    rw [zSum_add f g n]
    omega
theorem zSum_le {f g : Nat → Int} : ∀ n, (∀ i, i < n → f i ≤ g i) → zSum f n ≤ zSum g n
  | 0, _ => Int.le_refl _
  | n + 1, h => by
    show zSum f n + f n ≤ zSum g n + g n
    have h1 := zSum_le n (fun i hi => h i (by omega))
    have h2 := h n (by omega)
    omega
theorem zSum_const (z : Int) : ∀ n : Nat, zSum (fun _ => z) n = z * n
  | 0 => by simp [zSum]
  | n + 1 => by
    show zSum _ n + z = _
    rw [zSum_const z n]
    push_cast
    rw [Int.mul_add, Int.mul_one]
def zPm (n : Nat) (g : Nat → Nat) : Prop := (∀ i, i < n → g i < n) ∧ ∀ i j, i < n → j < n → g i = g j → i = j
def zOpt (n : Nat) (v : Nat → Nat → Int) (g : Nat → Nat) : Prop := zPm n g ∧ ∀ h, zPm n h → zSum (fun i => v i (h i)) n ≤ zSum (fun i => v i (g i)) n
def zSw (a b : Nat) : Nat → Nat := fun x => if x = a then b else if x = b then a else x
theorem zSw_inv (a b x : Nat) : zSw a b (zSw a b x) = x := by
  unfold zSw
  by_cases h1 : x = a
  · by_cases h2 : b = a
    · simp [h1, h2]
    · simp [h1, h2]
  · by_cases h2 : x = b
    · simp [h1, h2]
    · simp [h1, h2]
theorem zSw_lt {a b x n : Nat} (ha : a < n) (hb : b < n) (hx : x < n) : zSw a b x < n := by
  unfold zSw
  split
  · exact hb
  · split
    · exact ha
    · exact hx
theorem zPm_sw {n a b : Nat} {g : Nat → Nat} (h : zPm n g) (ha : a < n) (hb : b < n) : zPm n (fun x => g (zSw a b x)) := by
  refine ⟨fun i hi => h.1 _ (zSw_lt ha hb hi), fun i j hi hj e => ?_⟩
  have e1 := h.2 _ _ (zSw_lt ha hb hi) (zSw_lt ha hb hj) e
  rw [← zSw_inv a b i, ← zSw_inv a b j, e1]
theorem zSum_sw {n a b : Nat} {g : Nat → Nat} {v : Nat → Nat → Int} (ha : a < n) (hb : b < n) (hab : a ≠ b) : zSum (fun i => v i (g (zSw a b i))) n = zSum (fun i => v i (g i)) n - v a (g a) - v b (g b) + v a (g b) + v b (g a) := by
  have e : zSum (fun i => v i (g (zSw a b i))) n = zSum (fun i => if i = a then v a (g b) else (fun i => if i = b then v b (g a) else v i (g i)) i) n := by
    refine zSum_congr n (fun i _ => ?_)
    show v i (g (zSw a b i)) = if i = a then v a (g b) else if i = b then v b (g a) else v i (g i)
    unfold zSw
    by_cases h1 : i = a
    · rw [if_pos h1, if_pos h1, h1]
    · rw [if_neg h1, if_neg h1]
      by_cases h2 : i = b
      · rw [if_pos h2, if_pos h2, h2]
      · rw [if_neg h2, if_neg h2]
  rw [e, zSum_upd n ha, zSum_upd n hb]
  rw [if_neg hab]
  omega
/-! simple ways, by their lodgers -/
def zPath (n : Nat) (p : List Nat) : Prop := p.Nodup ∧ ∀ x, x ∈ p → x < n
def zPw (w : Nat → Nat → Int) : List Nat → Int
  | [] => 0
  | [_] => 0
  | a :: b :: t => w a b + zPw w (b :: t)
theorem zPath_cons {n a : Nat} {p : List Nat} : zPath n (a :: p) ↔ a < n ∧ a ∉ p ∧ zPath n p := by
  unfold zPath
  rw [List.nodup_cons]
  constructor
  · rintro ⟨⟨h1, h2⟩, h3⟩
    exact ⟨h3 a List.mem_cons_self, h1, h2, fun x hx => h3 x (List.mem_cons_of_mem _ hx)⟩
  · rintro ⟨h1, h2, h3, h4⟩
    refine ⟨⟨h2, h3⟩, fun x hx => ?_⟩
    rcases List.mem_cons.mp hx with h | h
    · rw [h]; exact h1
    · exact h4 x h
theorem zPath_len : ∀ (n : Nat) (p : List Nat), zPath n p → p.length ≤ n
  | 0, p, h => by
    cases p with
    | nil => exact Nat.le_refl _
    | cons a p => exact absurd (h.2 a List.mem_cons_self) (by omega)
  | n + 1, p, h => by
    by_cases hn : n ∈ p
    · obtain ⟨s, t, rfl⟩ := List.append_of_mem hn
      obtain ⟨hs, ht, hd⟩ := List.nodup_append.mp h.1
      obtain ⟨ht1, ht2⟩ := List.nodup_cons.mp ht
      have h1 : zPath n (s ++ t) := by
        refine ⟨List.nodup_append.mpr ⟨hs, ht2, fun a ha b hb => hd a ha b (List.mem_cons_of_mem _ hb)⟩, fun x hx => ?_⟩
        have hx1 : x < n + 1 := h.2 x (by
          rcases List.mem_append.mp hx with q | q
          · exact List.mem_append_left _ q
          · exact List.mem_append_right _ (List.mem_cons_of_mem _ q))
        have hx2 : x ≠ n := by
          rintro rfl
          rcases List.mem_append.mp hx with q | q
          · exact hd x q x List.mem_cons_self rfl
          · exact ht1 q
        omega
      have h2 := zPath_len n (s ++ t) h1
      simp only [List.length_append, List.length_cons] at h2 ⊢
      omega
    · have := zPath_len n p ⟨h.1, fun x hx => by
        have h1 := h.2 x hx
        have h2 : x ≠ n := fun e => hn (e ▸ hx)
        omega⟩
      omega
/-- rooms passed on along a way -/
theorem zCyc_aux {n : Nat} {v : Nat → Nat → Int} {g : Nat → Nat} (hg : zPm n g) : ∀ (t : List Nat) (c z : Nat), zPath n (c :: t) → (c :: t).getLast? = some z →
    ∃ h, zPm n h ∧ h z = g c ∧ (∀ x, x ∉ c :: t → h x = g x) ∧ zSum (fun i => v i (h i)) n = zSum (fun i => v i (g i)) n + zPw (fun a b => v a (g b) - v b (g b)) (c :: t) + (v z (g c) - v c (g c))
  | [], c, z, hp, hz => by
    have hc : c = z := by simpa using hz
    subst hc
    refine ⟨g, hg, rfl, fun _ _ => rfl, ?_⟩
    simp only [zPw]
    omega
  | d :: t, c, z, hp, hz => by
    obtain ⟨hc, hcn, hp2⟩ := zPath_cons.mp hp
    have hz2 : (d :: t).getLast? = some z := by simpa using hz
    obtain ⟨h, h1, h2, h3, h4⟩ := zCyc_aux hg t d z hp2 hz2
    have hzm : z ∈ d :: t := List.mem_of_getLast? hz2
    have hzn : z < n := hp2.2 z hzm
    have hcz : c ≠ z := fun e => hcn (e ▸ hzm)
    have hcg : h c = g c := h3 c hcn
    refine ⟨fun x => h (zSw c z x), zPm_sw h1 hc hzn, ?_, fun x hx => ?_, ?_⟩
    · show h (zSw c z z) = g c
      unfold zSw
      rw [if_neg (Ne.symm hcz), if_pos rfl, hcg]
    · show h (zSw c z x) = g x
      have hx1 : x ≠ c := fun e => hx (e ▸ List.mem_cons_self)
      have hx2 : x ∉ d :: t := fun q => hx (List.mem_cons_of_mem _ q)
      have hx3 : x ≠ z := fun e => hx2 (e ▸ hzm)
      unfold zSw
      rw [if_neg hx1, if_neg hx3]
      exact h3 x hx2
    · rw [zSum_sw hc hzn hcz, h4, hcg, h2]
      show _ = _ + (v c (g d) - v d (g d) + zPw _ (d :: t)) + _
      omega
theorem zCyc {n : Nat} {v : Nat → Nat → Int} {g : Nat → Nat} (hg : zOpt n v g) {c z : Nat} {t : List Nat} (hp : zPath n (c :: t)) (hz : (c :: t).getLast? = some z) : zPw (fun a b => v a (g b) - v b (g b)) (c :: t) + (v z (g c) - v c (g c)) ≤ 0 := by
  obtain ⟨h, h1, -, -, h4⟩ := zCyc_aux (v := v) hg.1 t c z hp hz
  have := hg.2 h h1
  omega
/-! the greatest of simple ways from each lodger -/
def zNoC (n : Nat) (w : Nat → Nat → Int) : Prop := ∀ (c z : Nat) (t : List Nat), zPath n (c :: t) → (c :: t).getLast? = some z → zPw w (c :: t) + w z c ≤ 0
theorem zMax {P : Int → Prop} {M : Int} (hM : ∀ x, P x → x ≤ M) : ∀ (k : Nat) (x0 : Int), P x0 → M - x0 ≤ k → ∃ v, P v ∧ ∀ x, P x → x ≤ v
  | 0, x0, h0, hk => ⟨x0, h0, fun x hx => by have := hM x hx; omega⟩
  | k + 1, x0, h0, hk => by
    by_cases h : ∃ x, P x ∧ x0 < x
    · obtain ⟨x, hx, hlt⟩ := h
      exact zMax hM k x hx (by omega)
    · exact ⟨x0, h0, fun x hx => Int.not_lt.mp (fun q => h ⟨x, hx, q⟩)⟩
theorem zPw_bound {w : Nat → Nat → Int} {M : Int} (hM : 0 ≤ M) {n : Nat} (hw : ∀ a b, a < n → b < n → w a b ≤ M) : ∀ p : List Nat, (∀ x, x ∈ p → x < n) → zPw w p ≤ M * p.length
  | [], _ => by simp [zPw]
  | [a], _ => by simp [zPw]; exact hM
  | a :: b :: t, h => by
    have h1 := zPw_bound hM hw (b :: t) (fun x hx => h x (List.mem_cons_of_mem _ hx))
    have h2 := hw a b (h a List.mem_cons_self) (h b (List.mem_cons_of_mem _ List.mem_cons_self))
    show w a b + zPw w (b :: t) ≤ M * (((a :: b :: t).length : Nat) : Int)
    have h3 : M * (((a :: b :: t).length : Nat) : Int) = M * (((b :: t).length : Nat) : Int) + M := by
      simp only [List.length_cons]; push_cast; rw [Int.mul_add, Int.mul_one]
    omega
/-- e is the greatest of simple ways -/
def zIsB (n : Nat) (w : Nat → Nat → Int) (e : Nat → Int) : Prop := ∀ a, a < n → (∃ t, zPath n (a :: t) ∧ zPw w (a :: t) = e a) ∧ ∀ t, zPath n (a :: t) → zPw w (a :: t) ≤ e a
theorem zIsB_ex {n : Nat} {w : Nat → Nat → Int} {M : Int} (hM : 0 ≤ M) (hw : ∀ a b, a < n → b < n → w a b ≤ M) : ∃ e, zIsB n w e := by
  have h : ∀ a, ∃ v : Int, a < n → (∃ t, zPath n (a :: t) ∧ zPw w (a :: t) = v) ∧ ∀ t, zPath n (a :: t) → zPw w (a :: t) ≤ v := by
    intro a
    by_cases ha : a < n
    · have hb : ∀ x, (∃ t, zPath n (a :: t) ∧ zPw w (a :: t) = x) → x ≤ M * n := by
        rintro x ⟨t, ht, rfl⟩
        have h1 := zPw_bound hM hw (a :: t) ht.2
        have h2 := zPath_len n _ ht
        have h3 : M * (((a :: t).length : Nat) : Int) ≤ M * (n : Int) := Int.mul_le_mul_of_nonneg_left (by omega) hM
        omega
      have h0 : zPath n [a] := zPath_cons.mpr ⟨ha, List.not_mem_nil, List.nodup_nil, fun x hx => absurd hx List.not_mem_nil⟩
      obtain ⟨v, ⟨t, ht, hv⟩, h2⟩ := zMax hb (M * n).toNat 0 ⟨[], h0, rfl⟩ (by have : 0 ≤ M * (n : Int) := Int.mul_nonneg hM (by omega); omega)
      exact ⟨v, fun _ => ⟨⟨t, ht, hv⟩, fun t ht => h2 _ ⟨t, ht, rfl⟩⟩⟩
    · exact ⟨0, fun q => absurd q ha⟩
  exact ⟨fun a => Classical.choose (h a), fun a ha => Classical.choose_spec (h a) ha⟩
theorem zIsB_nn {n : Nat} {w : Nat → Nat → Int} {e : Nat → Int} (h : zIsB n w e) {a : Nat} (ha : a < n) : 0 ≤ e a :=
  (h a ha).2 [] (zPath_cons.mpr ⟨ha, List.not_mem_nil, List.nodup_nil, fun x hx => absurd hx List.not_mem_nil⟩)
theorem zIsB_un {n : Nat} {w : Nat → Nat → Int} {e f : Nat → Int} (h : zIsB n w e) (hf : zIsB n w f) {a : Nat} (ha : a < n) : e a = f a := by
  obtain ⟨t, ht, h1⟩ := (h a ha).1
  obtain ⟨q, hq, h2⟩ := (hf a ha).1
  have h3 := (h a ha).2 q hq
  have h4 := (hf a ha).2 t ht
  omega
theorem zPw_app (w : Nat → Nat → Int) : ∀ (s : List Nat) (a : Nat) (t : List Nat), zPw w (s ++ a :: t) = zPw w (s ++ [a]) + zPw w (a :: t)
  | [], a, t => by simp [zPw]
  | [b], a, t => by show w b a + zPw w (a :: t) = w b a + 0 + zPw w (a :: t); omega
  | b :: c :: s, a, t => by
    show w b c + zPw w ((c :: s) ++ a :: t) = w b c + zPw w ((c :: s) ++ [a]) + zPw w (a :: t)
    rw [zPw_app w (c :: s) a t]
    omega
/-- nothing is greater along an edge: no circle brings more -/
theorem zIsB_fix {n : Nat} {w : Nat → Nat → Int} {e : Nat → Int} (hC : zNoC n w) (h : zIsB n w e) {a b : Nat} (ha : a < n) (hb : b < n) : w a b + e b ≤ e a := by
  obtain ⟨t, ht, h1⟩ := (h b hb).1
  by_cases hm : a ∈ b :: t
  · obtain ⟨s, q, hs⟩ := List.append_of_mem hm
    have hpq : zPath n (s ++ a :: q) := hs ▸ ht
    have hq : zPath n (a :: q) := ⟨(List.nodup_append.mp hpq.1).2.1, fun x hx => hpq.2 x (List.mem_append_right _ hx)⟩
    have hsub : List.Sublist (s ++ [a]) (s ++ a :: q) := List.Sublist.append_left (List.Sublist.cons_cons a (List.nil_sublist q)) s
    have hpa : zPath n (s ++ [a]) := ⟨List.Nodup.sublist hsub hpq.1, fun x hx => hpq.2 x (hsub.mem hx)⟩
    have h2 := zPw_app w s a q
    rw [← hs, h1] at h2
    have h3 := (h a ha).2 q hq
    have h4 : zPw w (s ++ [a]) + w a b ≤ 0 := by
      cases s with
      | nil =>
        have hab : b = a := by
          have h9 := congrArg List.head? hs
          simpa using h9
        subst hab
        exact hC b b [] hpa rfl
      | cons c s =>
        have hcb : b = c := by
          have h9 := congrArg List.head? hs
          simpa using h9
        subst hcb
        exact hC b a (s ++ [a]) hpa (List.getLast?_concat (l := b :: s))
    omega
  · have := (h a ha).2 (b :: t) (zPath_cons.mpr ⟨ha, hm, ht⟩)
    have h2 : zPw w (a :: b :: t) = w a b + zPw w (b :: t) := rfl
    omega
/-- what is not raised any more is as great as every way -/
theorem zPw_le {n : Nat} {w : Nat → Nat → Int} {e : Nat → Int} (h0 : ∀ a, a < n → 0 ≤ e a) (hf : ∀ a b, a < n → b < n → w a b + e b ≤ e a) : ∀ (t : List Nat) (a : Nat), zPath n (a :: t) → zPw w (a :: t) ≤ e a
  | [], a, h => h0 a (h.2 a List.mem_cons_self)
  | b :: t, a, h => by
    have h1 := zPath_cons.mp h
    have h2 := zPw_le h0 hf t b h1.2.2
    have h3 := hf a b h1.1 (h1.2.2.2 b List.mem_cons_self)
    show w a b + zPw w (b :: t) ≤ e a
    omega
theorem zIsB_of {n : Nat} {w : Nat → Nat → Int} {e f : Nat → Int} (hB : zIsB n w e) (h0 : ∀ a, a < n → 0 ≤ f a) (hf : ∀ a b, a < n → b < n → w a b + f b ≤ f a) (hle : ∀ a, a < n → f a ≤ e a) : zIsB n w f := by
  intro a ha
  have he : f a = e a := by
    obtain ⟨t, ht, h1⟩ := (hB a ha).1
    have := zPw_le h0 hf t a ht
    have := hle a ha
    omega
  rw [he]
  exact hB a ha
