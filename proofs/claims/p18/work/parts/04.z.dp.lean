/-! PURE: the table over sets of rooms -/
def zV (b : Nat → Int) : Nat → Nat → Int := fun k r => b (k * 6 + r)
def zD (n : Nat) (b : Nat → Int) (u : Nat) : zS := zG n zAll (zV b) (n - zPop u) (zPop u) (zT u)
def zF (n : Nat) (b : Nat → Int) (t r : Nat) : zS := if zT t r = true then none else zShift (zV b (zPop t) r) r (zD n b (t ||| 1 <<< r))
theorem zFold_congr {F G : Nat → zS} : ∀ m, (∀ r, r < m → F r = G r) → zFold F m = zFold G m
  | 0, _ => rfl
  | m + 1, h => by
    show zComb (zFold F m) (F m) = zComb (zFold G m) (G m)
    rw [zFold_congr m (fun r hr => h r (by omega)), h m (by omega)]
theorem zD_fold {n t : Nat} {b : Nat → Int} (hn : n ≤ 6) (ht : t < 2 ^ n) (hf : t ≠ 2 ^ n - 1) : zD n b t = zFold (zF n b t) n := by
  have hp := zT_notfull hn ht hf
  unfold zD
  obtain ⟨d, hd⟩ : ∃ d, n - zPop t = d + 1 := ⟨n - zPop t - 1, by omega⟩
  rw [hd]
  refine zFold_congr n (fun r hr => ?_)
  show (if (zT t r || !zAll (zPop t) r) = true then none else zShift (zV b (zPop t) r) r (zG n zAll (zV b) d (zPop t + 1) (zAdd (zT t) r))) = if zT t r = true then none else zShift (zV b (zPop t) r) r (zG n zAll (zV b) (n - zPop (t ||| 1 <<< r)) (zPop (t ||| 1 <<< r)) (zT (t ||| 1 <<< r)))
  cases hT : zT t r with
  | true => simp
  | false =>
    obtain ⟨-, -, h3⟩ := zT_or hn ht hr hT
    have e : n - (zPop t + 1) = d := by omega
    rw [zT_add, h3, e]
    simp [zAll]
theorem zD_some {n u : Nat} {b : Nat → Int} (hn : n ≤ 6) (hu : u < 2 ^ n) : ∃ x, zD n b u = some x :=
  zG_some _ _ _ (by have := zT_cnt hn hu; omega)
theorem zD_bound {n u : Nat} {b : Nat → Int} (hn : n ≤ 6) (hb0 : ∀ k, 0 ≤ b k ∧ b k ≤ 999) {x : Int × Int × List Nat} (h : zD n b u = some x) : 0 ≤ x.1 ∧ x.1 ≤ 5994 := by
  obtain ⟨h1, h2, -⟩ := (zG_spec n zAll (zV b) (n - zPop u) (zPop u) (zT u)).1 x h
  have h3 := zOk_len h1
  have h4 := zVal_bound (v := zV b) (M := 999) (zPop u) x.2.2 (fun i r _ _ => hb0 _)
  rw [h2, h3] at h4
  omega
theorem zComb_none (X : zS) : zComb X none = X := by cases X <;> rfl
theorem zBW (X : zS) (y : Int × Int × List Nat) (hy : 0 ≤ y.1) : zBest (zComb X (some y)) = (if zBest X < y.1 then y.1 else zBest X) ∧ zWays (zComb X (some y)) = (if zBest X < y.1 then y.2.1 else if zBest X = y.1 then zWays X + y.2.1 else zWays X) := by
  cases X with
  | none =>
    show y.1 = (if (-1 : Int) < y.1 then y.1 else -1) ∧ y.2.1 = (if (-1 : Int) < y.1 then y.2.1 else if (-1 : Int) = y.1 then 0 + y.2.1 else 0)
    rw [if_pos (by omega), if_pos (by omega)]
    exact ⟨rfl, rfl⟩
  | some x =>
    simp only [zComb, zBest, zWays]
    by_cases c1 : x.1 < y.1
    · simp [c1]
    · by_cases c2 : x.1 = y.1
      · simp [c2]
      · simp [c1, c2]
/-- one room more: taken -/
theorem zF_taken {n t r : Nat} {b : Nat → Int} (h : zT t r = true) : zFold (zF n b t) (r + 1) = zFold (zF n b t) r := by
  show zComb (zFold (zF n b t) r) (zF n b t r) = _
  unfold zF
  rw [if_pos h]
  exact zComb_none _
/-- one room more: free -/
theorem zF_free {n t r : Nat} {b : Nat → Int} (hn : n ≤ 6) (hb0 : ∀ k, 0 ≤ b k ∧ b k ≤ 999) (ht : t < 2 ^ n) (hr : r < n) (h : ¬ zT t r = true) : ∃ g, zD n b (t ||| 1 <<< r) = some g ∧ (0 ≤ g.1 ∧ g.1 ≤ 5994) ∧ zBest (zFold (zF n b t) (r + 1)) = (if zBest (zFold (zF n b t) r) < b (zPop t * 6 + r) + g.1 then b (zPop t * 6 + r) + g.1 else zBest (zFold (zF n b t) r)) ∧ zWays (zFold (zF n b t) (r + 1)) = (if zBest (zFold (zF n b t) r) < b (zPop t * 6 + r) + g.1 then g.2.1 else if zBest (zFold (zF n b t) r) = b (zPop t * 6 + r) + g.1 then zWays (zFold (zF n b t) r) + g.2.1 else zWays (zFold (zF n b t) r)) := by
  have hT : zT t r = false := by simpa using h
  obtain ⟨h1, h2, h3⟩ := zT_or hn ht hr hT
  obtain ⟨g, hg⟩ := zD_some (b := b) hn h2
  have hgb := zD_bound hn hb0 hg
  refine ⟨g, hg, hgb, ?_⟩
  have e : zFold (zF n b t) (r + 1) = zComb (zFold (zF n b t) r) (some (b (zPop t * 6 + r) + g.1, g.2.1, r :: g.2.2)) := by
    show zComb (zFold (zF n b t) r) (zF n b t r) = _
    congr 1
    unfold zF
    rw [if_neg h, hg]
    rfl
  rw [e]
  exact zBW _ _ (by have := (hb0 (zPop t * 6 + r)).1; show 0 ≤ b (zPop t * 6 + r) + g.1; omega)
theorem zF_bound {n t : Nat} {b : Nat → Int} (hn : n ≤ 6) (hb0 : ∀ k, 0 ≤ b k ∧ b k ≤ 999) (ht : t < 2 ^ n) : ∀ r, r ≤ n → -1 ≤ zBest (zFold (zF n b t) r) ∧ zBest (zFold (zF n b t) r) ≤ 6993
  | 0, _ => by show (-1 : Int) ≤ -1 ∧ (-1 : Int) ≤ 6993; omega
  | r + 1, hr => by
    have ih := zF_bound hn hb0 ht r (by omega)
    by_cases h : zT t r = true
    · rw [zF_taken h]; exact ih
    · obtain ⟨g, -, hg, e, -⟩ := zF_free hn hb0 ht (by omega : r < n) h
      have := hb0 (zPop t * 6 + r)
      rw [e]
      split <;> omega
/-- the first room of the best -/
def zHd (n : Nat) (b : Nat → Int) (u : Nat) : Nat := (zRooms (zD n b u)).headD 0
theorem zHd_spec {n u : Nat} {b : Nat → Int} (hn : n ≤ 6) (hu : u < 2 ^ n) (hf : u ≠ 2 ^ n - 1) : ∃ y, zHd n b u < n ∧ zT u (zHd n b u) = false ∧ zD n b (u ||| 1 <<< zHd n b u) = some y ∧ b (zPop u * 6 + zHd n b u) + y.1 = zBest (zD n b u) ∧ zRooms (zD n b u) = zHd n b u :: y.2.2 ∧ ∀ q, q < zHd n b u → zT u q = false → b (zPop u * 6 + q) + zBest (zD n b (u ||| 1 <<< q)) ≠ zBest (zD n b u) := by
  have hp := zT_notfull hn hu hf
  obtain ⟨x, hx⟩ := zD_some (b := b) hn hu
  obtain ⟨d, hd⟩ : ∃ d, n - zPop u = d + 1 := ⟨n - zPop u - 1, by omega⟩
  have hx2 : zG n zAll (zV b) (d + 1) (zPop u) (zT u) = some x := by rw [← hd]; exact hx
  obtain ⟨r, y, h1, h2, h3, h4, h5, h6⟩ := zG_head hx2
  have hdn : ∀ q, q < n → zT u q = false → zG n zAll (zV b) d (zPop u + 1) (zAdd (zT u) q) = zD n b (u ||| 1 <<< q) := by
    intro q hq hT
    obtain ⟨-, -, g3⟩ := zT_or hn hu hq hT
    have e : n - (zPop u + 1) = d := by omega
    unfold zD
    rw [zT_add, g3, e]
  have hz : zHd n b u = r := by
    unfold zHd
    rw [hx]
    show (x.2.2).headD 0 = r
    rw [h5]
    rfl
  have hb : zBest (zD n b u) = x.1 := by rw [hx]; rfl
  rw [hz, hb, hx]
  refine ⟨y, h1, h2, ?_, h4, h5, fun q hq hT => ?_⟩
  · rw [← hdn r h1 h2]; exact h3
  · obtain ⟨z, hzz⟩ := zD_some (n := n) (b := b) (u := u ||| 1 <<< q) hn (zT_or hn hu (by omega) hT).2.1
    rw [hzz]
    exact h6 q hq hT z (by rw [hdn q (by omega) hT]; exact hzz)
/-! the house's giving, by its bids -/
theorem zPop_0 : zPop 0 = 0 := by decide
theorem zD_0 (n : Nat) (b : Nat → Int) : zD n b 0 = zG n zAll (zV b) n 0 (fun _ => false) := by
  unfold zD
  rw [zPop_0, zT_0]
  rfl
/-- worth, ways, rooms of a house -/
def zWo (n : Nat) (b : Nat → Int) : Int := zBest (zD n b 0)
def zWy (n : Nat) (b : Nat → Int) : Int := zWays (zD n b 0)
def zRo (n : Nat) (b : Nat → Int) : Nat → Nat := fun k => (zRooms (zD n b 0)).getD k 0
/-! bids that change -/
def zGr (b : Nat → Int) (n : Nat) : Nat → (Nat → Int)
  | 0 => b
  | i + 1 => uZ (uZ (zGr b n i) (n * 6 + i) 0) (i * 6 + n) 0
def zSh1 (x y k : Nat) (b : Nat → Int) : Nat → (Nat → Int)
  | 0 => b
  | r + 1 => uZ (zSh1 x y k b r) (k * 6 + r) (zSh1 x y k b r ((if k < x then k else k + 1) * 6 + (if r < y then r else r + 1)))
def zSh (x y m : Nat) (b : Nat → Int) : Nat → (Nat → Int)
  | 0 => b
  | k + 1 => zSh1 x y k (zSh x y m b k) m
theorem uZ_b {b : Nat → Int} (hb : ∀ k, 0 ≤ b k ∧ b k ≤ 999) (j : Nat) {v : Int} (hv : 0 ≤ v ∧ v ≤ 999) : ∀ k, 0 ≤ uZ b j v k ∧ uZ b j v k ≤ 999 := by
  intro k
  unfold uZ
  split
  · exact hv
  · exact hb k
theorem zGr_b {b : Nat → Int} (hb : ∀ k, 0 ≤ b k ∧ b k ≤ 999) (n : Nat) : ∀ i k, 0 ≤ zGr b n i k ∧ zGr b n i k ≤ 999
  | 0 => hb
  | i + 1 => uZ_b (uZ_b (zGr_b hb n i) _ (by decide)) _ (by decide)
theorem zSh1_b {b : Nat → Int} (x y k : Nat) (hb : ∀ k, 0 ≤ b k ∧ b k ≤ 999) : ∀ r j, 0 ≤ zSh1 x y k b r j ∧ zSh1 x y k b r j ≤ 999
  | 0 => hb
  | r + 1 => uZ_b (zSh1_b x y k hb r) _ (zSh1_b x y k hb r _)
theorem zSh_b {b : Nat → Int} (x y m : Nat) (hb : ∀ k, 0 ≤ b k ∧ b k ≤ 999) : ∀ k j, 0 ≤ zSh x y m b k j ∧ zSh x y m b k j ≤ 999
  | 0 => hb
  | k + 1 => zSh1_b x y k (zSh_b x y m hb k) m
