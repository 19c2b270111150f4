/-! PURE: all orders of rooms, one behind the other; what they add up to -/
theorem zComb_lt {x y : Int × Int × List Nat} (h : x.1 < y.1) : zComb (some x) (some y) = some y := if_pos h
theorem zComb_eq {x y : Int × Int × List Nat} (h : x.1 = y.1) : zComb (some x) (some y) = some (x.1, x.2.1 + y.2.1, x.2.2) := by
  show (if x.1 < y.1 then some y else if x.1 = y.1 then some (x.1, x.2.1 + y.2.1, x.2.2) else some x) = _
  rw [if_neg (by omega), if_pos h]
theorem zComb_gt {x y : Int × Int × List Nat} (h : y.1 < x.1) : zComb (some x) (some y) = some x := by
  show (if x.1 < y.1 then some y else if x.1 = y.1 then some (x.1, x.2.1 + y.2.1, x.2.2) else some x) = _
  rw [if_neg (by omega), if_neg (by omega)]
theorem zComb_assoc (X Y Z : zS) : zComb (zComb X Y) Z = zComb X (zComb Y Z) := by
  cases X with
  | none => rfl
  | some x =>
    cases Y with
    | none => rfl
    | some y =>
      cases Z with
      | none => rw [zComb_none, zComb_none]
      | some z =>
        rcases Int.lt_trichotomy x.1 y.1 with h | h | h
        · rw [zComb_lt h]
          rcases Int.lt_trichotomy y.1 z.1 with g | g | g
          · rw [zComb_lt g, zComb_lt (by omega)]
          · rw [zComb_eq g, zComb_lt (show x.1 < (y.1, y.2.1 + z.2.1, y.2.2).1 from h)]
          · rw [zComb_gt g, zComb_lt h]
        · rw [zComb_eq h]
          rcases Int.lt_trichotomy y.1 z.1 with g | g | g
          · rw [zComb_lt g, zComb_lt (show (x.1, x.2.1 + y.2.1, x.2.2).1 < z.1 by show x.1 < z.1; omega), zComb_lt (by omega)]
          · rw [zComb_eq g, zComb_eq (show (x.1, x.2.1 + y.2.1, x.2.2).1 = z.1 by show x.1 = z.1; omega), zComb_eq (show x.1 = (y.1, y.2.1 + z.2.1, y.2.2).1 from h)]
            show some (x.1, x.2.1 + y.2.1 + z.2.1, x.2.2) = some (x.1, x.2.1 + (y.2.1 + z.2.1), x.2.2)
            rw [Int.add_assoc]
          · rw [zComb_gt g, zComb_gt (show z.1 < (x.1, x.2.1 + y.2.1, x.2.2).1 by show z.1 < x.1; omega), zComb_eq h]
        · rw [zComb_gt h]
          rcases Int.lt_trichotomy y.1 z.1 with g | g | g
          · rw [zComb_lt g]
          · rw [zComb_eq g, zComb_gt (show z.1 < x.1 by omega), zComb_gt (show (y.1, y.2.1 + z.2.1, y.2.2).1 < x.1 from h)]
          · rw [zComb_gt g, zComb_gt h, zComb_gt (by omega)]
theorem zShift_comb (v : Int) (r : Nat) (X Y : zS) : zShift v r (zComb X Y) = zComb (zShift v r X) (zShift v r Y) := by
  cases X with
  | none => rfl
  | some x =>
    cases Y with
    | none => rfl
    | some y =>
      have e : ∀ z : Int × Int × List Nat, zShift v r (some z) = some (v + z.1, z.2.1, r :: z.2.2) := fun _ => rfl
      rcases Int.lt_trichotomy x.1 y.1 with h | h | h
      · rw [zComb_lt h, e, e, zComb_lt (show v + x.1 < v + y.1 by omega)]
      · rw [zComb_eq h, e, e, e, zComb_eq (show v + x.1 = v + y.1 by omega)]
      · rw [zComb_gt h, e, e, zComb_gt (show v + y.1 < v + x.1 by omega)]
def qOs (n : Nat) : Nat → (Nat → Bool) → List (List Nat)
  | 0, _ => [[]]
  | d + 1, T => (List.range n).flatMap (fun r => if T r then [] else (qOs n d (zAdd T r)).map (fun f => r :: f))
def qOne (v : Nat → Nat → Int) (k : Nat) (f : List Nat) : zS := some (zVal v k f, 1, f)
def qAc (v : Nat → Nat → Int) (k : Nat) : zS → List (List Nat) → zS
  | X, [] => X
  | X, f :: t => qAc v k (zComb X (qOne v k f)) t
theorem qAc_app (v : Nat → Nat → Int) (k : Nat) : ∀ (s t : List (List Nat)) (X : zS), qAc v k X (s ++ t) = qAc v k (qAc v k X s) t
  | [], _, _ => rfl
  | f :: s, t, X => qAc_app v k s t (zComb X (qOne v k f))
theorem qAc_comb (v : Nat → Nat → Int) (k : Nat) : ∀ (t : List (List Nat)) (X : zS), qAc v k X t = zComb X (qAc v k none t)
  | [], X => (zComb_none X).symm
  | f :: t, X => by
    show qAc v k (zComb X (qOne v k f)) t = zComb X (qAc v k (zComb none (qOne v k f)) t)
    rw [qAc_comb v k t (zComb X (qOne v k f)), qAc_comb v k t (zComb none (qOne v k f)), zComb_assoc]
    rfl
theorem qAc_shift (v : Nat → Nat → Int) (k r : Nat) : ∀ t : List (List Nat), qAc v k none (t.map (fun f => r :: f)) = zShift (v k r) r (qAc v (k + 1) none t)
  | [] => rfl
  | f :: t => by
    show qAc v k (zComb none (qOne v k (r :: f))) (t.map (fun f => r :: f)) = zShift (v k r) r (qAc v (k + 1) (zComb none (qOne v (k + 1) f)) t)
    rw [qAc_comb v k _ (zComb none (qOne v k (r :: f))), qAc_comb v (k + 1) t (zComb none (qOne v (k + 1) f)), qAc_shift v k r t, zShift_comb]
    rfl
theorem qAc_fold {v : Nat → Nat → Int} {k : Nat} {F : Nat → zS} {G : Nat → List (List Nat)} (h : ∀ r, F r = qAc v k none (G r)) : ∀ m, zFold F m = qAc v k none ((List.range m).flatMap G)
  | 0 => rfl
  | m + 1 => by
    rw [List.range_succ, List.flatMap_append, qAc_app, qAc_comb]
    show zComb (zFold F m) (F m) = _
    rw [qAc_fold h m, h m]
    simp only [List.flatMap_cons, List.flatMap_nil, List.append_nil]
theorem zG_acc (n : Nat) (v : Nat → Nat → Int) : ∀ d k T, zG n zAll v d k T = qAc v k none (qOs n d T)
  | 0, _, _ => rfl
  | d + 1, k, T => by
    refine qAc_fold (fun r => ?_) n
    cases hT : T r with
    | true => simp [qAc]
    | false =>
      simp only [zAll, Bool.not_true, Bool.or_false, Bool.false_eq_true, if_false]
      rw [qAc_shift, zG_acc n v d (k + 1) (zAdd T r)]
theorem zD_acc (n : Nat) (b : Nat → Int) : zD n b 0 = qAc (zV b) 0 none (qOs n n (fun _ => false)) := by rw [zD_0, zG_acc]
/-! the order behind an order -/
def qAt (f : Nat → Int) : Nat → Nat
  | 0 => 0
  | k + 1 => if f (k + 1) < f k then qAt f k else k + 1
def qBy (f : Nat → Int) (a : Nat) : Nat → Nat
  | 0 => 0
  | m + 1 => if f (m + 1) < f a then qBy f a m else m + 1
def qSwp (f : Nat → Int) (a m : Nat) : Nat → Int := uZ (uZ f a (f m)) m (f a)
def qRv (n a : Nat) (g : Nat → Int) : Nat → Int := fun k => if a < k ∧ k < n then g (n + a - k) else g k
def qNx (n : Nat) (f : Nat → Int) : Nat → Int := qRv n (qAt f (n - 1) - 1) (qSwp f (qAt f (n - 1) - 1) (qBy f (qAt f (n - 1) - 1) (n - 1)))
def qRow (L : List Nat) : Nat → Int := fun k => ((L.getD k 0 : Nat) : Int)
def qEqR (n : Nat) (f g : Nat → Int) : Bool := (List.range n).all (fun k => f k == g k)
def qChk (n : Nat) : List (List Nat) → Bool
  | [] => false
  | [L] => qAt (qRow L) (n - 1) == 0
  | L :: M :: t => qAt (qRow L) (n - 1) != 0 && qEqR n (qNx n (qRow L)) (qRow M) && qChk n (M :: t)
abbrev qAll (n : Nat) : List (List Nat) := qOs n n (fun _ => false)
set_option maxRecDepth 100000 in
theorem qChk_ok : ∀ n, n < 6 → 1 ≤ n → qChk n (qAll n) = true := by decide +kernel
theorem qChk_drop {n : Nat} : ∀ (i : Nat) (O : List (List Nat)), qChk n O = true → i < O.length → qChk n (O.drop i) = true
  | 0, _, h, _ => h
  | i + 1, [], _, hi => absurd hi (Nat.not_lt_zero _)
  | i + 1, [L], _, hi => by simp at hi
  | i + 1, L :: M :: t, h, hi => by
    have h1 : qChk n (M :: t) = true := by
      simp only [qChk, Bool.and_eq_true] at h
      exact h.2
    exact qChk_drop i (M :: t) h1 (by simpa using hi)
/-- the i-th order: either there is a next one, or it was the last -/
theorem qNext {n i : Nat} {L : List Nat} (hn : n < 6) (h1 : 1 ≤ n) (hL : (qAll n)[i]? = some L) : (qAt (qRow L) (n - 1) = 0 ∧ (qAll n).length = i + 1) ∨ (qAt (qRow L) (n - 1) ≠ 0 ∧ ∃ M, (qAll n)[i + 1]? = some M ∧ ∀ k, k < n → qNx n (qRow L) k = qRow M k) := by
  have hi : i < (qAll n).length := (List.getElem?_eq_some_iff.mp hL).1
  have hd := qChk_drop i (qAll n) (qChk_ok n hn h1) hi
  have e0 : ((qAll n).drop i)[0]? = some L := by rw [List.getElem?_drop]; exact hL
  have e1 : ∀ j, ((qAll n).drop i)[j]? = (qAll n)[i + j]? := fun j => List.getElem?_drop
  have hl : ((qAll n).drop i).length = (qAll n).length - i := List.length_drop
  cases hx : (qAll n).drop i with
  | nil => rw [hx] at e0; cases e0
  | cons A t =>
    rw [hx] at hd e0 e1 hl
    cases e0
    cases t with
    | nil =>
      refine Or.inl ⟨by simpa [qChk] using hd, ?_⟩
      simp at hl
      omega
    | cons M t =>
      simp only [qChk, Bool.and_eq_true, bne_iff_ne, ne_eq] at hd
      refine Or.inr ⟨hd.1.1, M, (e1 1).symm, fun k hk => ?_⟩
      have h9 := List.all_eq_true.mp hd.1.2 k (List.mem_range.mpr hk)
      simpa using h9
