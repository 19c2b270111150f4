/-! p18: what the law's checks rest on -/
def qMk (g : Nat → Nat) : Nat → Nat
  | 0 => 0
  | m + 1 => qMk g m ||| 1 <<< g m
theorem zComb_rooms {X Y : zS} {z : Int × Int × List Nat} (h : zComb X Y = some z) : (∃ x, X = some x ∧ x.2.2 = z.2.2) ∨ ∃ y, Y = some y ∧ y.2.2 = z.2.2 := by
  cases X with
  | none => exact Or.inr ⟨z, h, rfl⟩
  | some x =>
    cases Y with
    | none => exact Or.inl ⟨x, rfl, by cases h; rfl⟩
    | some y =>
      rcases Int.lt_trichotomy x.1 y.1 with q | q | q
      · rw [zComb_lt q] at h
        exact Or.inr ⟨y, rfl, by cases h; rfl⟩
      · rw [zComb_eq q] at h
        exact Or.inl ⟨x, rfl, by cases h; rfl⟩
      · rw [zComb_gt q] at h
        exact Or.inl ⟨x, rfl, by cases h; rfl⟩
theorem qAc_rooms {v : Nat → Nat → Int} {k : Nat} : ∀ (t : List (List Nat)) (X : zS) (z : Int × Int × List Nat), qAc v k X t = some z → (∃ x, X = some x ∧ x.2.2 = z.2.2) ∨ z.2.2 ∈ t
  | [], X, z, h => Or.inl ⟨z, h, rfl⟩
  | f :: t, X, z, h => by
    rcases qAc_rooms t (zComb X (qOne v k f)) z h with ⟨y, hy, e⟩ | q
    · rcases zComb_rooms hy with ⟨x, hx, e2⟩ | ⟨x, hx, e2⟩
      · exact Or.inl ⟨x, hx, e2.trans e⟩
      · refine Or.inr ?_
        have e3 : x.2.2 = f := by
          unfold qOne at hx
          cases hx
          rfl
        rw [← e, ← e2, e3]
        exact List.mem_cons_self
    · exact Or.inr (List.mem_cons_of_mem _ q)
theorem qRoL {n : Nat} {b : Nat → Int} (hn : n < 6) : ∃ L, L ∈ qAll n ∧ zRo n b = qL L := by
  obtain ⟨x, hx⟩ := zD_some (b := b) (u := 0) (n := n) (by omega) (zT_full (by omega)).2.1
  have hx2 := hx
  rw [zD_acc] at hx2
  rcases qAc_rooms _ _ _ hx2 with ⟨y, hy, -⟩ | q
  · cases hy
  · exact ⟨x.2.2, q, by unfold zRo qL; rw [hx]; rfl⟩
set_option maxRecDepth 100000 in
theorem qMk_chk : ∀ n, n < 6 → (qAll n).all (fun L => qMk (qL L) n == 2 ^ n - 1) = true := by decide +kernel
theorem qMk_full {n : Nat} {b : Nat → Int} (hn : n < 6) : qMk (zRo n b) n = 2 ^ n - 1 := by
  obtain ⟨L, hL, e⟩ := qRoL (b := b) hn
  rw [e]
  simpa using List.all_eq_true.mp (qMk_chk n hn) L hL
theorem qMk_lt {g : Nat → Nat} {n : Nat} (hg : ∀ k, k < n → g k < 6) : ∀ m, m ≤ n → qMk g m < 64
  | 0, _ => by show 0 < 64; decide
  | m + 1, h => by
    have ih := qMk_lt hg m (by omega)
    have h2 := hg m (by omega)
    show qMk g m ||| 1 <<< g m < 64
    have h3 : 1 <<< g m < 2 ^ 6 := by
      rw [Nat.one_shiftLeft]
      exact Nat.pow_lt_pow_right (by decide) h2
    exact Nat.or_lt_two_pow (n := 6) ih h3
theorem qSetTop {n : Nat} {b : Nat → Int} (hn : n < 6) : iI 1 <<< (iI (n : Int) &&& 31) - iI 1 = iI ((qMk (zRo n b) n : Nat) : Int) := by
  have hp : 1 ≤ 2 ^ n := Nat.one_le_two_pow
  rw [zb_shl (by omega), iI_sub, qMk_full hn]
  congr 1
  omega
theorem qSwap {n : Nat} {b : Nat → Int} (hn : n ≤ 5) {a j : Nat} (ha : a < n) (hj : j < n) : b (a * 6 + zRo n b j) + b (j * 6 + zRo n b a) ≤ b (a * 6 + zRo n b a) + b (j * 6 + zRo n b j) := by
  by_cases e : a = j
  · rw [e]; omega
  · obtain ⟨h1, h2⟩ := zRo_opt (b := b) (n := n) (by omega)
    have h3 := h2 _ (zPm_sw h1 ha hj)
    rw [zSum_sw ha hj e] at h3
    show zV b a (zRo n b j) + zV b j (zRo n b a) ≤ zV b a (zRo n b a) + zV b j (zRo n b j)
    omega
theorem qOwn {n : Nat} {b : Nat → Int} (hn : n ≤ 5) : zWo n b = zSum (fun k => b (k * 6 + zRo n b k)) n := by
  obtain ⟨x, hx⟩ := zD_some (b := b) (u := 0) (n := n) (by omega) (zT_full (by omega)).2.1
  have hx2 := hx
  rw [zD_0] at hx2
  obtain ⟨h1, h2, -⟩ := (zG_spec n zAll (zV b) n 0 (fun _ => false)).1 x hx2
  have h3 := zOk_len h1
  have e1 : zWo n b = x.1 := by unfold zWo; rw [hx]; rfl
  have e2 : zRo n b = qL x.2.2 := by unfold zRo qL; rw [hx]; rfl
  rw [e1, ← h2, zVal_sum, h3, e2]
  exact zSum_congr n (fun k _ => by show b ((0 + k) * 6 + x.2.2.getD k 0) = _; rw [Nat.zero_add]; rfl)
theorem qSh {n : Nat} {z M : Int} (h1 : 1 ≤ n) (hz : z ≤ M) (hM : 0 ≤ M) : 0 ≤ zShare n z ∧ zShare n z ≤ M ∧ zPot n z < (n : Int) ∧ (zPot n z < 0 → zShare n z = 0) := by
  unfold zPot zShare
  by_cases h : 0 < z ∧ 0 < (n : Int)
  · rw [if_pos h]
    have e1 := Int.emod_lt_of_pos z h.2
    have e2 := Int.emod_nonneg z (show (n : Int) ≠ 0 by omega)
    have e3 : z / (n : Int) * (n : Int) = z - z % (n : Int) := by
      rw [Int.emod_def, Int.mul_comm]; omega
    have e4 : 0 ≤ z / (n : Int) := Int.ediv_nonneg (by omega) (by omega)
    have e5 : z / (n : Int) ≤ z := Int.ediv_le_self _ (by omega)
    refine ⟨e4, by omega, by omega, fun q => ?_⟩
    omega
  · rw [if_neg h]
    refine ⟨Int.le_refl _, hM, ?_, fun _ => rfl⟩
    rw [Int.zero_mul]
    omega
def qFa (n : Nat) (b : Nat → Int) (rc : Int) (fr : Nat → Int) : Prop :=
  (0 ≤ zSh0 n b rc fr ∧ zSh0 n b rc fr ≤ 6000) ∧ (∀ a, a < n → 0 ≤ fr a ∧ fr a ≤ 5994) ∧ (0 ≤ zSum fr n ∧ zSum fr n ≤ 29970) ∧ (0 ≤ zSh0 n b rc fr * (n : Int) ∧ zSh0 n b rc fr * (n : Int) ≤ 30000) ∧ (0 ≤ zWo n b ∧ zWo n b ≤ 6000) ∧
  zSum (zPay b (zRo n b) fr (zSh0 n b rc fr)) n + (zSum fr n + zSh0 n b rc fr * (n : Int)) = zWo n b ∧ zPo0 n b rc fr = zWo n b - rc - zSum fr n - zSh0 n b rc fr * (n : Int) ∧ zPo0 n b rc fr < (n : Int) ∧ (zPo0 n b rc fr < 0 → zSh0 n b rc fr = 0)
theorem qFa_of {n : Nat} {b : Nat → Int} {rc : Int} {bo wo ro fr : Nat → Int} {sh po : Int} (h1 : 1 ≤ n) (hn : n ≤ 5) (hb0 : ∀ k, 0 ≤ b k ∧ b k ≤ 999) (hrc : 0 ≤ rc ∧ rc ≤ 5999) (hset : zSet n b rc bo wo ro fr sh po) : qFa n b rc fr := by
  have hfr := zU_le (by omega : n ≤ 6) hb0 hset.2.1
  have hF := zSum_b (f := fr) (M := 5994) n hfr
  have hw := zWo_b (n := n) (by omega) hb0
  have hlf : zLeft (zWo n b) rc fr n = zWo n b - rc - zSum fr n := rfl
  obtain ⟨s1, s2, s3, s4⟩ := qSh (n := n) (z := zLeft (zWo n b) rc fr n) (M := 6000) h1 (by omega) (by decide)
  have eS : zSh0 n b rc fr = zShare n (zLeft (zWo n b) rc fr n) := rfl
  have eP : zPo0 n b rc fr = zPot n (zLeft (zWo n b) rc fr n) := rfl
  have eP2 : zPot n (zLeft (zWo n b) rc fr n) = zLeft (zWo n b) rc fr n - zShare n (zLeft (zWo n b) rc fr n) * (n : Int) := rfl
  rw [← eS] at s1 s2 s4 eP2
  rw [← eP] at s3 s4 eP2
  have hm1 : 0 ≤ zSh0 n b rc fr * (n : Int) := Int.mul_nonneg s1 (by omega)
  have hm2 : zSh0 n b rc fr * (n : Int) ≤ 6000 * 5 := Int.mul_le_mul s2 (by omega) (by omega) (by decide)
  refine ⟨⟨s1, s2⟩, hfr, ⟨hF.1, by omega⟩, ⟨hm1, by omega⟩, hw, ?_, by omega, s3, s4⟩
  have q1 := zSum_add (zPay b (zRo n b) fr (zSh0 n b rc fr)) (fun k => fr k + zSh0 n b rc fr) n
  have q2 := zSum_addc (f := fun k => fr k + zSh0 n b rc fr) (g := fr) (z := zSh0 n b rc fr) n (fun _ _ => rfl)
  have q3 : zSum (fun i => zPay b (zRo n b) fr (zSh0 n b rc fr) i + (fr i + zSh0 n b rc fr)) n = zSum (fun k => b (k * 6 + zRo n b k)) n := zSum_congr n (fun k _ => by show b (k * 6 + zRo n b k) - (fr k + zSh0 n b rc fr) + (fr k + zSh0 n b rc fr) = _; omega)
  rw [qOwn hn, ← q3, q1, q2]
theorem qBack (b : Nat → Int) (p : Nat) (v : Int) : uZ (uZ b p v) p (b p) = b := by
  rw [uZ_uZ]
  funext j
  by_cases h : j = p
  · rw [h, uZ_s]
  · rw [uZ_n _ _ h]
