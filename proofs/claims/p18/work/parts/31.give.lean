/-! p18: the best of the first orders -/
def qL (L : List Nat) : Nat → Nat := fun k => L.getD k 0
def qX (n : Nat) (b : Nat → Int) (i : Nat) : zS := qAc (zV b) 0 none ((qAll n).take i)
theorem qX_0 (n : Nat) (b : Nat → Int) : qX n b 0 = none := rfl
theorem qX_s {n i : Nat} {b : Nat → Int} {L : List Nat} (hL : (qAll n)[i]? = some L) : qX n b (i + 1) = zComb (qX n b i) (qOne (zV b) 0 L) := by
  unfold qX
  rw [List.take_add_one, hL, qAc_app]
  rfl
theorem qX_end {n i : Nat} {b : Nat → Int} (h : (qAll n).length = i) : qX n b i = zD n b 0 := by
  unfold qX
  rw [← h, List.take_length, zD_acc]
set_option maxRecDepth 100000 in
theorem qAll_chk : ∀ n, n < 6 → ((qAll n).all (fun L => L.length == n && L.all (fun x => decide (x < n))) && decide ((qAll n).length ≤ 120) && ((qAll n)[0]? == some (List.range n))) = true := by decide +kernel
theorem qAll_at {n i : Nat} {L : List Nat} (hn : n < 6) (hL : (qAll n)[i]? = some L) : L.length = n ∧ ∀ k, k < n → qL L k < n := by
  have h := qAll_chk n hn
  simp only [Bool.and_eq_true] at h
  have h1 := List.all_eq_true.mp h.1.1 L (List.mem_of_getElem? hL)
  simp only [Bool.and_eq_true, beq_iff_eq] at h1
  refine ⟨h1.1, fun k hk => ?_⟩
  have hk2 : k < L.length := by omega
  have h2 := List.all_eq_true.mp h1.2 (L[k]) (List.getElem_mem hk2)
  have h3 : qL L k = L[k] := by
    unfold qL
    rw [List.getD_eq_getElem?_getD, List.getElem?_eq_getElem hk2]
    rfl
  rw [h3]
  simpa using h2
theorem qAll_i {n i : Nat} {L : List Nat} (hn : n < 6) (hL : (qAll n)[i]? = some L) : i < 120 := by
  have h := qAll_chk n hn
  simp only [Bool.and_eq_true] at h
  have h1 : (qAll n).length ≤ 120 := by simpa using h.1.2
  have h2 := (List.getElem?_eq_some_iff.mp hL).1
  omega
theorem qAll_0 {n : Nat} (hn : n < 6) : (qAll n)[0]? = some (List.range n) := by
  have h := qAll_chk n hn
  simp only [Bool.and_eq_true] at h
  simpa using h.2
theorem qL_range {n k : Nat} (hk : k < n) : qL (List.range n) k = k := by
  unfold qL
  rw [List.getD_eq_getElem?_getD, List.getElem?_range hk]
  rfl
theorem qOne_val {n i : Nat} {b : Nat → Int} {L : List Nat} (hn : n < 6) (hL : (qAll n)[i]? = some L) : qOne (zV b) 0 L = some (zSum (fun k => b (k * 6 + (qL L) k)) n, 1, L) := by
  have h := (qAll_at hn hL).1
  unfold qOne
  rw [zVal_sum, h]
  have e : zSum (fun i => zV b (0 + i) (L.getD i 0)) n = zSum (fun k => b (k * 6 + (qL L) k)) n := zSum_congr n (fun k _ => by show b ((0 + k) * 6 + L.getD k 0) = _; rw [Nat.zero_add]; rfl)
  rw [e]
theorem qX_b {b : Nat → Int} {n : Nat} (hn : n ≤ 5) (hb0 : ∀ k, 0 ≤ b k ∧ b k ≤ 999) (g : Nat → Nat) : 0 ≤ zSum (fun k => b (k * 6 + g k)) n ∧ zSum (fun k => b (k * 6 + g k)) n ≤ 4995 := by
  have h := zSum_b (f := fun k => b (k * 6 + g k)) (M := 999) n (fun j _ => hb0 _)
  have h2 : (999 : Int) * (n : Int) ≤ 4995 := by omega
  omega
/-! the row of a lodger who is left out, and back -/
def qSk (x p : Nat) : Nat := if p < x then p else p + 1
theorem qSk_ne (x p : Nat) : qSk x p ≠ x := by unfold qSk; split <;> omega
theorem qSk_hi {x i : Nat} (h : x < i) : qSk x (i - 1) = i := by unfold qSk; rw [if_neg (by omega)]; omega
theorem qSk_lo {x i : Nat} (h : i < x) : qSk x i = i := if_pos h
theorem qSk_inj {x p q : Nat} (h : qSk x p = qSk x q) : p = q := by unfold qSk at h; split at h <;> split at h <;> omega
theorem qSk_le {x p n : Nat} (h : p < n - 1) : qSk x p < n := by unfold qSk; split <;> omega
/-- what the leaving has laid, up to the cell (i, j) -/
def qLv (n x y : Nat) (b : Nat → Int) (i j : Nat) (F : Nat → Nat → Int) : Prop := ∀ p q, p < n - 1 → q < n - 1 → (qSk x p < i ∨ (qSk x p = i ∧ qSk y q < j)) → F p q = b (qSk x p * 6 + qSk y q)
theorem qLv_put {n x y : Nat} {b : Nat → Int} {i j p0 q0 : Nat} {F : Nat → Nat → Int} (h : qLv n x y b i j F) (hp : qSk x p0 = i) (hq : qSk y q0 = j) : qLv n x y b i (j + 1) (u2 F p0 q0 (b (i * 6 + j))) := by
  intro p q hpn hqn hc
  by_cases e : p = p0 ∧ q = q0
  · rw [e.1, e.2, u2_s, hp, hq]
  · rw [u2_n _ _ e]
    refine h p q hpn hqn ?_
    rcases hc with hc | ⟨h1, h2⟩
    · exact Or.inl hc
    · by_cases h3 : qSk y q = j
      · exact absurd ⟨qSk_inj (h1.trans hp.symm), qSk_inj (h3.trans hq.symm)⟩ e
      · exact Or.inr ⟨h1, by omega⟩
theorem qLv_skip {n x y : Nat} {b : Nat → Int} {i j : Nat} {F : Nat → Nat → Int} (h : qLv n x y b i j F) (hs : i = x ∨ j = y) : qLv n x y b i (j + 1) F := by
  intro p q hpn hqn hc
  refine h p q hpn hqn ?_
  rcases hc with hc | ⟨h1, h2⟩
  · exact Or.inl hc
  · rcases hs with hs | hs
    · exact absurd (h1.trans hs) (qSk_ne x p)
    · by_cases h3 : qSk y q = j
      · exact absurd (h3.trans hs) (qSk_ne y q)
      · exact Or.inr ⟨h1, by omega⟩
theorem qLv_row {n x y : Nat} {b : Nat → Int} {i j : Nat} {F : Nat → Nat → Int} (hj : n ≤ j) (h : qLv n x y b i j F) : qLv n x y b (i + 1) 0 F := by
  intro p q hpn hqn hc
  have h1 : qSk y q < n := qSk_le hqn
  exact h p q hpn hqn (by omega)
theorem qLv_0 {n x y : Nat} {b : Nat → Int} {F : Nat → Nat → Int} : qLv n x y b 0 0 F := by
  intro p q _ _ hc
  omega
theorem qLv_end {n x y i : Nat} {b : Nat → Int} {F : Nat → Nat → Int} (hn : n < 6) (hi : n ≤ i) (h : qLv n x y b i 0 F) : ∀ p q, p < n - 1 → q < n - 1 → F p q = zSh x y (n - 1) b (n - 1) (p * 6 + q) := by
  intro p q hp hq
  have h1 : qSk x p < n := qSk_le hp
  rw [h p q hp hq (by omega), zSh_at (by omega) (n - 1) p q (by omega) (Nat.le_refl _), if_pos ⟨hp, hq⟩]
  rfl
