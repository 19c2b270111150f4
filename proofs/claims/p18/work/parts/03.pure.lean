/-! PURE: givings, tried lodger by lodger; the best, how many, the first -/
abbrev zS : Type := Option (Int × Int × List Nat)
def zComb : zS → zS → zS
  | none, y => y
  | some x, none => some x
  | some x, some y => if x.1 < y.1 then some y else if x.1 = y.1 then some (x.1, x.2.1 + y.2.1, x.2.2) else some x
def zShift (v : Int) (r : Nat) : zS → zS
  | none => none
  | some x => some (v + x.1, x.2.1, r :: x.2.2)
def zFold (f : Nat → zS) : Nat → zS
  | 0 => none
  | m + 1 => zComb (zFold f m) (f m)
def zAdd (T : Nat → Bool) (r : Nat) : Nat → Bool := fun x => T x || x == r
def zG (n : Nat) (al : Nat → Nat → Bool) (v : Nat → Nat → Int) : Nat → Nat → (Nat → Bool) → zS
  | 0, _, _ => some (0, 1, [])
  | d + 1, k, T => zFold (fun r => if T r || !al k r then none else zShift (v k r) r (zG n al v d (k + 1) (zAdd T r))) n
def zBest : zS → Int
  | none => -1
  | some x => x.1
def zWays : zS → Int
  | none => 0
  | some x => x.2.1
def zRooms : zS → List Nat
  | none => []
  | some x => x.2.2
/-- what the trying does to the best so far -/
def zStep (n : Nat) (pre : List Nat) (sum : Int) (X : zS) (w y : Int) (ro : Nat → Int) (w2 y2 : Int) (ro2 : Nat → Int) : Prop :=
  match X with
  | none => w2 = w ∧ y2 = y ∧ ro2 = ro
  | some x => (w < sum + x.1 ∧ w2 = sum + x.1 ∧ y2 = x.2.1 ∧ ∀ j, j < n → ro2 j = (((pre ++ x.2.2).getD j 0 : Nat) : Int)) ∨ (w = sum + x.1 ∧ w2 = w ∧ y2 = y + x.2.1 ∧ ro2 = ro) ∨ (sum + x.1 < w ∧ w2 = w ∧ y2 = y ∧ ro2 = ro)
theorem zStep_comb {n : Nat} {pre : List Nat} {sum : Int} {X Y : zS} {w y : Int} {ro : Nat → Int} {w1 y1 : Int} {ro1 : Nat → Int} {w2 y2 : Int} {ro2 : Nat → Int} (h1 : zStep n pre sum X w y ro w1 y1 ro1) (h2 : zStep n pre sum Y w1 y1 ro1 w2 y2 ro2) : zStep n pre sum (zComb X Y) w y ro w2 y2 ro2 := by
  cases X with
  | none => obtain ⟨rfl, rfl, rfl⟩ := h1; exact h2
  | some a =>
    cases Y with
    | none => obtain ⟨rfl, rfl, rfl⟩ := h2; exact h1
    | some b =>
      obtain ⟨a1, a2, a3⟩ := a
      obtain ⟨b1, b2, b3⟩ := b
      simp only [zStep] at h1 h2
      simp only [zComb]
      by_cases c1 : a1 < b1
      · rw [if_pos c1]
        simp only [zStep]
        rcases h1 with ⟨p1, p2, p3, p4⟩ | ⟨p1, p2, p3, p4⟩ | ⟨p1, p2, p3, p4⟩ <;> rcases h2 with ⟨q1, q2, q3, q4⟩ | ⟨q1, q2, q3, q4⟩ | ⟨q1, q2, q3, q4⟩
        · exact Or.inl ⟨by omega, q2, q3, q4⟩
        · omega
        · omega
        · exact Or.inl ⟨by omega, q2, q3, q4⟩
        · omega
        · omega
        · exact Or.inl ⟨by omega, q2, q3, q4⟩
        · exact Or.inr (Or.inl ⟨by omega, by omega, by omega, by rw [q4, p4]⟩)
        · exact Or.inr (Or.inr ⟨by omega, by omega, by omega, by rw [q4, p4]⟩)
      · rw [if_neg c1]
        by_cases c2 : a1 = b1
        · rw [if_pos c2]
          simp only [zStep]
          rcases h1 with ⟨p1, p2, p3, p4⟩ | ⟨p1, p2, p3, p4⟩ | ⟨p1, p2, p3, p4⟩ <;> rcases h2 with ⟨q1, q2, q3, q4⟩ | ⟨q1, q2, q3, q4⟩ | ⟨q1, q2, q3, q4⟩
          · omega
          · exact Or.inl ⟨by omega, by omega, by omega, by rw [q4]; exact p4⟩
          · omega
          · omega
          · exact Or.inr (Or.inl ⟨by omega, by omega, by omega, by rw [q4, p4]⟩)
          · omega
          · omega
          · omega
          · exact Or.inr (Or.inr ⟨by omega, by omega, by omega, by rw [q4, p4]⟩)
        · rw [if_neg c2]
          simp only [zStep]
          rcases h1 with ⟨p1, p2, p3, p4⟩ | ⟨p1, p2, p3, p4⟩ | ⟨p1, p2, p3, p4⟩ <;> rcases h2 with ⟨q1, q2, q3, q4⟩ | ⟨q1, q2, q3, q4⟩ | ⟨q1, q2, q3, q4⟩
          · omega
          · omega
          · exact Or.inl ⟨by omega, by omega, by omega, by rw [q4]; exact p4⟩
          · omega
          · omega
          · exact Or.inr (Or.inl ⟨by omega, by omega, by omega, by rw [q4, p4]⟩)
          · omega
          · omega
          · exact Or.inr (Or.inr ⟨by omega, by omega, by omega, by rw [q4, p4]⟩)
theorem zStep_deep {n : Nat} {pre : List Nat} {sum v : Int} {r : Nat} {X : zS} {w y : Int} {ro : Nat → Int} {w2 y2 : Int} {ro2 : Nat → Int} (h : zStep n (pre ++ [r]) (sum + v) X w y ro w2 y2 ro2) : zStep n pre sum (zShift v r X) w y ro w2 y2 ro2 := by
  cases X with
  | none => exact h
  | some x =>
    simp only [zStep, zShift] at h ⊢
    rw [List.append_assoc] at h
    rcases h with ⟨p1, p2, p3, p4⟩ | ⟨p1, p2, p3, p4⟩ | ⟨p1, p2, p3, p4⟩
    · exact Or.inl ⟨by omega, by omega, p3, p4⟩
    · exact Or.inr (Or.inl ⟨by omega, p2, p3, p4⟩)
    · exact Or.inr (Or.inr ⟨by omega, p2, p3, p4⟩)
theorem zStep_none {n : Nat} {pre : List Nat} {sum w y : Int} {ro : Nat → Int} : zStep n pre sum none w y ro w y ro := ⟨rfl, rfl, rfl⟩
/-! what the fold is -/
theorem zFold_none {F : Nat → zS} : ∀ m, (∀ r, r < m → F r = none) → zFold F m = none
  | 0, _ => rfl
  | m + 1, h => by
    show zComb (zFold F m) (F m) = none
    rw [zFold_none m (fun r hr => h r (by omega)), h m (by omega)]
    rfl
theorem zFold_isNone {F : Nat → zS} : ∀ m, zFold F m = none → ∀ r, r < m → F r = none
  | 0, _, r, hr => by omega
  | m + 1, h, r, hr => by
    have h1 : zComb (zFold F m) (F m) = none := h
    cases hf : zFold F m with
    | none =>
      rw [hf] at h1
      have h2 : F m = none := h1
      by_cases hm : r = m
      · rw [hm]; exact h2
      · exact zFold_isNone m hf r (by omega)
    | some x =>
      rw [hf] at h1
      cases hm : F m with
      | none => rw [hm] at h1; cases h1
      | some y =>
        rw [hm] at h1
        simp only [zComb] at h1
        split at h1
        · cases h1
        · split at h1 <;> cases h1
/-- the first of the best -/
def zFirst (F : Nat → zS) (m : Nat) (x : Int × Int × List Nat) : Prop := ∃ r, r < m ∧ (∃ y, F r = some y ∧ y.1 = x.1 ∧ y.2.2 = x.2.2) ∧ (∀ q, q < r → ∀ y, F q = some y → y.1 < x.1) ∧ (∀ q, q < m → ∀ y, F q = some y → y.1 ≤ x.1)
theorem zFold_first {F : Nat → zS} : ∀ m x, zFold F m = some x → zFirst F m x
  | 0, x, h => by cases h
  | m + 1, x, h => by
    have h1 : zComb (zFold F m) (F m) = some x := h
    cases hf : zFold F m with
    | none =>
      rw [hf] at h1
      have h2 : F m = some x := h1
      have h3 := zFold_isNone m hf
      refine ⟨m, by omega, ⟨x, h2, rfl, rfl⟩, fun q hq y hy => ?_, fun q hq y hy => ?_⟩
      · rw [h3 q hq] at hy; cases hy
      · by_cases hm : q = m
        · rw [hm, h2] at hy; cases hy; exact Int.le_refl _
        · rw [h3 q (by omega)] at hy; cases hy
    | some a =>
      obtain ⟨r, hr, ⟨y, hy, e1, e2⟩, hlt, hle⟩ := zFold_first m a hf
      rw [hf] at h1
      cases hm : F m with
      | none =>
        rw [hm] at h1
        cases h1
        refine ⟨r, by omega, ⟨y, hy, e1, e2⟩, hlt, fun q hq z hz => ?_⟩
        by_cases hqm : q = m
        · rw [hqm, hm] at hz; cases hz
        · exact hle q (by omega) z hz
      | some b =>
        rw [hm] at h1
        simp only [zComb] at h1
        by_cases c1 : a.1 < b.1
        · rw [if_pos c1] at h1
          cases h1
          refine ⟨m, by omega, ⟨x, hm, rfl, rfl⟩, fun q hq z hz => ?_, fun q hq z hz => ?_⟩
          · have := hle q hq z hz; omega
          · by_cases hqm : q = m
            · rw [hqm, hm] at hz; cases hz; exact Int.le_refl _
            · have := hle q (by omega) z hz; omega
        · rw [if_neg c1] at h1
          have hx : x.1 = a.1 ∧ x.2.2 = a.2.2 := by
            by_cases c2 : a.1 = b.1
            · rw [if_pos c2] at h1; cases h1; exact ⟨rfl, rfl⟩
            · rw [if_neg c2] at h1; cases h1; exact ⟨rfl, rfl⟩
          refine ⟨r, by omega, ⟨y, hy, by rw [e1, hx.1], by rw [e2, hx.2]⟩, fun q hq z hz => ?_, fun q hq z hz => ?_⟩
          · have := hlt q hq z hz; have := hx.1; omega
          · by_cases hqm : q = m
            · rw [hqm, hm] at hz; cases hz; have := hx.1; omega
            · have := hle q (by omega) z hz; have := hx.1; omega
/-! givings as lists: which are ones, what they are worth -/
def zVal (v : Nat → Nat → Int) : Nat → List Nat → Int
  | _, [] => 0
  | k, r :: f => v k r + zVal v (k + 1) f
def zOk (n : Nat) (al : Nat → Nat → Bool) : Nat → Nat → (Nat → Bool) → List Nat → Prop
  | 0, _, _, [] => True
  | d + 1, k, T, r :: f => r < n ∧ T r = false ∧ al k r = true ∧ zOk n al d (k + 1) (zAdd T r) f
  | 0, _, _, _ :: _ => False
  | _ + 1, _, _, [] => False
theorem zG_spec (n : Nat) (al : Nat → Nat → Bool) (v : Nat → Nat → Int) : ∀ d k T, (∀ x, zG n al v d k T = some x → zOk n al d k T x.2.2 ∧ zVal v k x.2.2 = x.1 ∧ ∀ f, zOk n al d k T f → zVal v k f ≤ x.1) ∧ (zG n al v d k T = none → ∀ f, ¬ zOk n al d k T f)
  | 0, k, T => by
    refine ⟨fun x h => ?_, fun h => by cases h⟩
    cases h
    refine ⟨trivial, rfl, fun f hf => ?_⟩
    cases f with
    | nil => exact Int.le_refl _
    | cons r f => exact hf.elim
  | d + 1, k, T => by
    have ih := fun r => zG_spec n al v d (k + 1) (zAdd T r)
    refine ⟨fun x h => ?_, fun h f hf => ?_⟩
    · obtain ⟨r, hr, ⟨y, hy, e1, e2⟩, -, hle⟩ := zFold_first n x h
      dsimp only at hy
      by_cases hc : (T r || !al k r) = true
      · rw [if_pos hc] at hy; cases hy
      · rw [if_neg hc] at hy
        simp only [Bool.or_eq_true, Bool.not_eq_true', not_or, Bool.not_eq_true, Bool.not_eq_false] at hc
        cases hg : zG n al v d (k + 1) (zAdd T r) with
        | none => rw [hg] at hy; cases hy
        | some a =>
          rw [hg] at hy
          cases hy
          obtain ⟨g1, g2, g3⟩ := (ih r).1 a hg
          refine ⟨?_, ?_, fun f hf => ?_⟩
          · rw [← e2]; exact ⟨hr, hc.1, hc.2, g1⟩
          · rw [← e2, ← e1]
            show v k r + zVal v (k + 1) a.2.2 = v k r + a.1
            rw [g2]
          · cases f with
            | nil => exact hf.elim
            | cons q f =>
              obtain ⟨f1, f2, f3, f4⟩ := hf
              cases hq : zG n al v d (k + 1) (zAdd T q) with
              | none => exact absurd f4 ((ih q).2 hq f)
              | some b =>
                have hb := ((ih q).1 b hq).2.2 f f4
                have hF := hle q f1 (v k q + b.1, b.2.1, q :: b.2.2) (by
                  dsimp only
                  rw [if_neg (by rw [f2, f3]; decide), hq]
                  rfl)
                show v k q + zVal v (k + 1) f ≤ x.1
                simp only at hF
                omega
    · cases f with
      | nil => exact hf.elim
      | cons q f =>
        obtain ⟨f1, f2, f3, f4⟩ := hf
        have h1 := zFold_isNone n h q f1
        rw [if_neg (by rw [f2, f3]; decide)] at h1
        cases hq : zG n al v d (k + 1) (zAdd T q) with
        | none => exact (ih q).2 hq f f4
        | some b => rw [hq] at h1; cases h1
theorem zOk_len {n : Nat} {al : Nat → Nat → Bool} : ∀ {d k : Nat} {T : Nat → Bool} {f : List Nat}, zOk n al d k T f → f.length = d
  | 0, _, _, [], _ => rfl
  | d + 1, _, _, r :: f, h => by rw [List.length_cons, zOk_len h.2.2.2]
  | 0, _, _, _ :: _, h => h.elim
  | _ + 1, _, _, [], h => h.elim
theorem zVal_bound {v : Nat → Nat → Int} {M : Int} : ∀ (k : Nat) (f : List Nat), (∀ i r, i < k + f.length → r ∈ f → 0 ≤ v i r ∧ v i r ≤ M) → 0 ≤ zVal v k f ∧ zVal v k f ≤ M * f.length
  | _, [], _ => by simp [zVal]
  | k, r :: f, h => by
    have h1 := h k r (by rw [List.length_cons]; omega) List.mem_cons_self
    have h2 := zVal_bound (k + 1) f (fun i q hi hq => h i q (by rw [List.length_cons]; omega) (List.mem_cons_of_mem _ hq))
    show 0 ≤ v k r + zVal v (k + 1) f ∧ v k r + zVal v (k + 1) f ≤ M * ((r :: f).length : Nat)
    have h3 : M * (((r :: f).length : Nat) : Int) = M * (f.length : Int) + M := by
      rw [List.length_cons]; push_cast; rw [Int.mul_add, Int.mul_one]
    rw [h3]
    omega
/-! there is one, where there are rooms enough -/
def zCnt (T : Nat → Bool) : Nat → Nat
  | 0 => 0
  | m + 1 => zCnt T m + (if T m then 0 else 1)
theorem zCnt_lo {T : Nat → Bool} {r : Nat} : ∀ m, m ≤ r → zCnt (zAdd T r) m = zCnt T m
  | 0, _ => rfl
  | m + 1, h => by
    have h1 : zAdd T r m = T m := by
      have : (m == r) = false := by simp; omega
      simp [zAdd, this]
    show zCnt (zAdd T r) m + _ = zCnt T m + _
    rw [zCnt_lo m (by omega), h1]
theorem zCnt_hi {T : Nat → Bool} {r : Nat} (hT : T r = false) : ∀ m, r < m → zCnt (zAdd T r) m + 1 = zCnt T m
  | 0, h => by omega
  | m + 1, h => by
    show zCnt (zAdd T r) m + _ + 1 = zCnt T m + _
    by_cases hm : m = r
    · subst hm
      rw [zCnt_lo m (Nat.le_refl _), hT]
      simp [zAdd]
    · have h1 : zAdd T r m = T m := by
        have : (m == r) = false := by simp; omega
        simp [zAdd, this]
      have := zCnt_hi hT m (by omega)
      rw [h1]
      omega
theorem zCnt_pos {T : Nat → Bool} : ∀ m, 0 < zCnt T m → ∃ r, r < m ∧ T r = false
  | 0, h => by simp [zCnt] at h
  | m + 1, h => by
    cases hT : T m with
    | false => exact ⟨m, by omega, hT⟩
    | true =>
      have h1 : zCnt T (m + 1) = zCnt T m := by show zCnt T m + _ = _; rw [hT]; rfl
      obtain ⟨r, hr, h2⟩ := zCnt_pos (T := T) m (by omega)
      exact ⟨r, by omega, h2⟩
def zAll : Nat → Nat → Bool := fun _ _ => true
theorem zG_some {n : Nat} {v : Nat → Nat → Int} : ∀ d k T, d ≤ zCnt T n → ∃ x, zG n zAll v d k T = some x
  | 0, k, T, _ => ⟨_, rfl⟩
  | d + 1, k, T, h => by
    obtain ⟨r, hr, hT⟩ := zCnt_pos (T := T) n (by omega)
    obtain ⟨x, hx⟩ := zG_some (n := n) (v := v) d (k + 1) (zAdd T r) (by have := zCnt_hi hT n hr; omega)
    cases hg : zG n zAll v (d + 1) k T with
    | some y => exact ⟨y, rfl⟩
    | none =>
      have h1 := zFold_isNone n hg r hr
      rw [if_neg (by rw [hT]; simp [zAll]), hx] at h1
      cases h1
/-! the walk of the first of the best, room by room -/
theorem zG_head {n : Nat} {v : Nat → Nat → Int} {d k : Nat} {T : Nat → Bool} {x : Int × Int × List Nat} (h : zG n zAll v (d + 1) k T = some x) : ∃ r y, r < n ∧ T r = false ∧ zG n zAll v d (k + 1) (zAdd T r) = some y ∧ v k r + y.1 = x.1 ∧ x.2.2 = r :: y.2.2 ∧ ∀ q, q < r → T q = false → ∀ z, zG n zAll v d (k + 1) (zAdd T q) = some z → v k q + z.1 ≠ x.1 := by
  obtain ⟨r, hr, ⟨y, hy, e1, e2⟩, hlt, -⟩ := zFold_first n x h
  dsimp only at hy
  by_cases hc : (T r || !zAll k r) = true
  · rw [if_pos hc] at hy; cases hy
  · rw [if_neg hc] at hy
    simp only [zAll, Bool.not_true, Bool.or_false, Bool.not_eq_true] at hc
    cases hg : zG n zAll v d (k + 1) (zAdd T r) with
    | none => rw [hg] at hy; cases hy
    | some a =>
      rw [hg] at hy
      cases hy
      refine ⟨r, a, hr, hc, hg, e1, e2.symm, fun q hq hTq z hz => ?_⟩
      have := hlt q hq (v k q + z.1, z.2.1, q :: z.2.2) (by
        dsimp only
        rw [if_neg (by rw [hTq]; simp [zAll]), hz]
        rfl)
      simp only at this
      omega
