/-! PURE: what the public calls answer -/
theorem uZ_comm0 (f : Nat → Int) (p q : Nat) : uZ (uZ f p 0) q 0 = uZ (uZ f q 0) p 0 := by
  funext j
  unfold uZ
  by_cases h1 : j = q
  · by_cases h2 : j = p <;> simp [h1, h2]
  · by_cases h2 : j = p <;> simp [h1, h2]
theorem zGr_m (b : Nat → Int) (n i : Nat) : uZ (uZ (zGr b n i) (6 * i + n) 0) (6 * n + i) 0 = zGr b n (i + 1) := by
  show _ = uZ (uZ (zGr b n i) (n * 6 + i) 0) (i * 6 + n) 0
  rw [uZ_comm0, Nat.mul_comm 6 n, Nat.mul_comm 6 i]
theorem zIsB_sum {n : Nat} {w : Nat → Nat → Int} {e f : Nat → Int} (h : zIsB n w e) (hf : zIsB n w f) : zSum e n = zSum f n := zSum_congr n (fun i hi => zIsB_un h hf hi)
def zSh0 (n : Nat) (b : Nat → Int) (rc : Int) (E : Nat → Int) : Int := zShare n (zLeft (zWo n b) rc E n)
def zPo0 (n : Nat) (b : Nat → Int) (rc : Int) (E : Nat → Int) : Int := zPot n (zLeft (zWo n b) rc E n)
def zTo (n : Nat) (b : Nat → Int) (rc : Int) (E : Nat → Int) (w : Nat) : Int := zTot n b (zRo n b) E rc (zSh0 n b rc E) (zPo0 n b rc E) (zWo n b) (zWy n b) w
def zFa (n : Nat) (b : Nat → Int) (rc : Int) (E : Nat → Int) (j w : Nat) : Int := zFact n b (zRo n b) E (zSh0 n b rc E) j w
theorem zLeft_un {n : Nat} {b : Nat → Int} {E e : Nat → Int} (hE : zIsB n (zWt b (zRo n b)) E) (he : zIsB n (zWt b (zRo n b)) e) (wo rc : Int) : zLeft wo rc e n = zLeft wo rc E n := by
  unfold zLeft
  rw [zIsB_sum he hE]
theorem zFact_un {n : Nat} {b : Nat → Int} {rc : Int} {E e : Nat → Int} (hE : zIsB n (zWt b (zRo n b)) E) (he : zIsB n (zWt b (zRo n b)) e) {j : Nat} (hj : j < n) (w : Nat) : zFact n b (zRo n b) e (zShare n (zLeft (zWo n b) rc e n)) j w = zFa n b rc E j w := by
  unfold zFa zSh0
  rw [zLeft_un hE he]
  have h : e j = E j := zIsB_un he hE hj
  match w with
  | 0 => rfl
  | 1 => rfl
  | 2 => show e j + _ = E j + _; rw [h]
  | 3 => show _ - (e j + _) = _ - (E j + _); rw [h]
  | 4 => exact h
  | _ + 5 => rfl
theorem zTot_un {n : Nat} {b : Nat → Int} {rc : Int} {E e : Nat → Int} (hE : zIsB n (zWt b (zRo n b)) E) (he : zIsB n (zWt b (zRo n b)) e) (w : Nat) : zTot n b (zRo n b) e rc (zShare n (zLeft (zWo n b) rc e n)) (zPot n (zLeft (zWo n b) rc e n)) (zWo n b) (zWy n b) w = zTo n b rc E w := by
  unfold zTo zSh0 zPo0
  rw [zLeft_un hE he]
  match w with
  | 0 => rfl
  | 1 => rfl
  | 2 => rfl
  | 3 => show zSum e n + _ = zSum E n + _; rw [zIsB_sum he hE]
  | 4 => rfl
  | 5 => rfl
  | _ + 6 =>
    show zSum _ n = zSum _ n
    refine zSum_congr n (fun i hi => ?_)
    show _ - (e i + _) = _ - (E i + _)
    rw [zIsB_un he hE hi]
/-! the digest -/
def zD1 (f : Nat → Int) (d : Int64) : Nat → Int64
  | 0 => d
  | k + 1 => zD1 f d k * 31 + (iI (f k)).toInt64
def zD2 (n : Nat) (b : Nat → Int) (rc : Int) (E : Nat → Int) (d : Int64) : Nat → Int64
  | 0 => d
  | j + 1 => zD1 (fun r => b (j * 6 + r)) (zD1 (zFa n b rc E j) (zD2 n b rc E d j) 6) n
def zDi (n : Nat) (b : Nat → Int) (rc : Int) (E : Nat → Int) : Int64 := zD2 n b rc E (zD1 (zTo n b rc E) 1301 7) n
/-! which bid brings a room -/
def zGets (n : Nat) (b : Nat → Int) (x y : Nat) (v : Int) : Prop := zRo n (uZ b (x * 6 + y) v) x = y
def zNd (n : Nat) (b : Nat → Int) (x y : Nat) (r : Int) : Prop := (0 ≤ r ∧ r ≤ 999 ∧ zGets n b x y r ∧ ∀ c, 0 ≤ c → c < r → ¬ zGets n b x y c) ∨ (r = -1 ∧ ∀ c, 0 ≤ c → c ≤ 999 → ¬ zGets n b x y c)
theorem zNd_un {n : Nat} {b : Nat → Int} {x y : Nat} {r q : Int} (h : zNd n b x y r) (hq : zNd n b x y q) : r = q := by
  rcases h with ⟨a1, a2, a3, a4⟩ | ⟨a1, a2⟩
  · rcases hq with ⟨b1, b2, b3, b4⟩ | ⟨b1, b2⟩
    · rcases Int.lt_trichotomy r q with h | h | h
      · exact absurd a3 (b4 r a1 h)
      · exact h
      · exact absurd b3 (a4 q b1 h)
    · exact absurd a3 (b2 r a1 a2)
  · rcases hq with ⟨b1, b2, b3, b4⟩ | ⟨b1, b2⟩
    · exact absurd b3 (a2 q b1 b2)
    · rw [a1, b1]
/-- the value of a giving, a lodger's own left out -/
theorem zVal_get (v : Nat → Nat → Int) : ∀ (f : List Nat) (k : Nat), zVal v k f = zSum (fun i => v (k + i) (f.getD i 0)) f.length := zVal_sum v
/-- with a bid: the best of those who give the room, and of the others -/
theorem zGets_main {n : Nat} {b : Nat → Int} {x y : Nat} {mu rest other : Int} (hn : n ≤ 6) (hb0 : ∀ k, 0 ≤ b k ∧ b k ≤ 999) (hx : x < n) (hy : y < n)
    (hr : rest = zBest (zX n b x x y 1)) (ho : other = zBest (zX n b (-1) x y 0)) {v : Int} (hv : 0 ≤ v ∧ v ≤ 999) :
    (other < rest + v → zGets n b x y v) ∧ (zGets n b x y v → other ≤ rest + v) := by
  sorry
