theorem zSum_addc {f g : Nat → Int} {z : Int} : ∀ n, (∀ j, j < n → f j = g j + z) → zSum f n = zSum g n + z * (n : Int)
  | 0, _ => by show (0 : Int) = 0 + z * ((0 : Nat) : Int); simp
  | n + 1, h => by
    show zSum f n + f n = zSum g n + g n + z * ((n + 1 : Nat) : Int)
    rw [zSum_addc n (fun j hj => h j (by omega)), h n (by omega)]
    push_cast
    rw [Int.mul_add, Int.mul_one]
    omega

/-! p18: what the law's own arrays hold, entry by entry -/
theorem q6 {g : Nat → Int} {v0 v1 v2 v3 v4 v5 : Int} (h0 : v0 = g 0) (h1 : v1 = g 1) (h2 : v2 = g 2) (h3 : v3 = g 3) (h4 : v4 = g 4) (h5 : v5 = g 5) : ∀ w, w < 6 → uZ (uZ (uZ (uZ (uZ (uZ (fun _ => 0) 0 v0) 1 v1) 2 v2) 3 v3) 4 v4) 5 v5 w = g w := by
  intro w hw
  rcases (show w = 0 ∨ w = 1 ∨ w = 2 ∨ w = 3 ∨ w = 4 ∨ w = 5 by omega) with rfl | rfl | rfl | rfl | rfl | rfl <;> simp [uZ, h0, h1, h2, h3, h4, h5]
theorem q7 {g : Nat → Int} {v0 v1 v2 v3 v4 v5 v6 : Int} (h0 : v0 = g 0) (h1 : v1 = g 1) (h2 : v2 = g 2) (h3 : v3 = g 3) (h4 : v4 = g 4) (h5 : v5 = g 5) (h6 : v6 = g 6) : ∀ w, w < 7 → uZ (uZ (uZ (uZ (uZ (uZ (uZ (fun _ => 0) 0 v0) 1 v1) 2 v2) 3 v3) 4 v4) 5 v5) 6 v6 w = g w := by
  intro w hw
  rcases (show w = 0 ∨ w = 1 ∨ w = 2 ∨ w = 3 ∨ w = 4 ∨ w = 5 ∨ w = 6 by omega) with rfl | rfl | rfl | rfl | rfl | rfl | rfl <;> simp [uZ, h0, h1, h2, h3, h4, h5, h6]
