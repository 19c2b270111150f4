/-! PURE: what the public calls answer -/
theorem uZ_comm0 (f : Nat → Int) (p q : Nat) : uZ (uZ f p 0) q 0 = uZ (uZ f q 0) p 0 := by
  funext j
  unfold uZ
  by_cases h1 : j = q
  · by_cases h2 : j = p <;> simp [h1, h2]
  · by_cases h2 : j = p <;> simp [h1, h2]
theorem zGr_m (b : Nat → Int) (n i : Nat) : uZ (uZ (zGr b n i) (6 * i + n) 0) (6 * n + i) 0 = zGr b n (i + 1) := by
  show _ = uZ (uZ (zGr b n i) (n * 6 + i) 0) (i * 6 + n) 0
  rw [uZ_comm0, Nat.mul_comm 6 n, Nat.mul_comm 6 i]
theorem zIsB_sum {n : Nat} {w : Nat → Nat → Int} {e f : Nat → Int} (h : zIsB n w e) (hf : zIsB n w f) : zSum e n = zSum f n := zSum_congr n (fun i hi => zIsB_un h hf hi)
def zSh0 (n : Nat) (b : Nat → Int) (rc : Int) (E : Nat → Int) : Int := zShare n (zLeft (zWo n b) rc E n)
def zPo0 (n : Nat) (b : Nat → Int) (rc : Int) (E : Nat → Int) : Int := zPot n (zLeft (zWo n b) rc E n)
def zTo (n : Nat) (b : Nat → Int) (rc : Int) (E : Nat → Int) (w : Nat) : Int := zTot n b (zRo n b) E rc (zSh0 n b rc E) (zPo0 n b rc E) (zWo n b) (zWy n b) w
def zFa (n : Nat) (b : Nat → Int) (rc : Int) (E : Nat → Int) (j w : Nat) : Int := zFact n b (zRo n b) E (zSh0 n b rc E) j w
theorem zLeft_un {n : Nat} {b : Nat → Int} {E e : Nat → Int} (hE : zIsB n (zWt b (zRo n b)) E) (he : zIsB n (zWt b (zRo n b)) e) (wo rc : Int) : zLeft wo rc e n = zLeft wo rc E n := by
  unfold zLeft
  rw [zIsB_sum he hE]
theorem zFact_un {n : Nat} {b : Nat → Int} {rc : Int} {E e : Nat → Int} (hE : zIsB n (zWt b (zRo n b)) E) (he : zIsB n (zWt b (zRo n b)) e) {j : Nat} (hj : j < n) (w : Nat) : zFact n b (zRo n b) e (zShare n (zLeft (zWo n b) rc e n)) j w = zFa n b rc E j w := by
  unfold zFa zSh0
  rw [zLeft_un hE he]
  have h : e j = E j := zIsB_un he hE hj
  match w with
  | 0 => rfl
  | 1 => rfl
  | 2 => show e j + _ = E j + _; rw [h]
  | 3 => show _ - (e j + _) = _ - (E j + _); rw [h]
  | 4 => exact h
  | _ + 5 => rfl
theorem zTot_un {n : Nat} {b : Nat → Int} {rc : Int} {E e : Nat → Int} (hE : zIsB n (zWt b (zRo n b)) E) (he : zIsB n (zWt b (zRo n b)) e) (w : Nat) : zTot n b (zRo n b) e rc (zShare n (zLeft (zWo n b) rc e n)) (zPot n (zLeft (zWo n b) rc e n)) (zWo n b) (zWy n b) w = zTo n b rc E w := by
  unfold zTo zSh0 zPo0
  rw [zLeft_un hE he]
  match w with
  | 0 => rfl
  | 1 => rfl
  | 2 => rfl
  | 3 => show zSum e n + _ = zSum E n + _; rw [zIsB_sum he hE]
  | 4 => rfl
  | 5 => rfl
  | _ + 6 =>
    show zSum _ n = zSum _ n
    refine zSum_congr n (fun i hi => ?_)
    show _ - (e i + _) = _ - (E i + _)
    rw [zIsB_un he hE hi]
/-! the digest -/
def zD1 (f : Nat → Int) (d : Int64) : Nat → Int64
  | 0 => d
  | k + 1 => zD1 f d k * 31 + (iI (f k)).toInt64
def zD2 (n : Nat) (b : Nat → Int) (rc : Int) (E : Nat → Int) (d : Int64) : Nat → Int64
  | 0 => d
  | j + 1 => zD1 (fun r => b (j * 6 + r)) (zD1 (zFa n b rc E j) (zD2 n b rc E d j) 6) n
def zDi (n : Nat) (b : Nat → Int) (rc : Int) (E : Nat → Int) : Int64 := zD2 n b rc E (zD1 (zTo n b rc E) 1301 7) n
/-! which bid brings a room -/
def zGets (n : Nat) (b : Nat → Int) (x y : Nat) (v : Int) : Prop := zRo n (uZ b (x * 6 + y) v) x = y
def zNd (n : Nat) (b : Nat → Int) (x y : Nat) (r : Int) : Prop := (0 ≤ r ∧ r ≤ 999 ∧ zGets n b x y r ∧ ∀ c, 0 ≤ c → c < r → ¬ zGets n b x y c) ∨ (r = -1 ∧ ∀ c, 0 ≤ c → c ≤ 999 → ¬ zGets n b x y c)
theorem zNd_un {n : Nat} {b : Nat → Int} {x y : Nat} {r q : Int} (h : zNd n b x y r) (hq : zNd n b x y q) : r = q := by
  rcases h with ⟨a1, a2, a3, a4⟩ | ⟨a1, a2⟩
  · rcases hq with ⟨b1, b2, b3, b4⟩ | ⟨b1, b2⟩
    · rcases Int.lt_trichotomy r q with h | h | h
      · exact absurd a3 (b4 r a1 h)
      · exact h
      · exact absurd b3 (a4 q b1 h)
    · exact absurd a3 (b2 r a1 a2)
  · rcases hq with ⟨b1, b2, b3, b4⟩ | ⟨b1, b2⟩
    · exact absurd b3 (a2 q b1 b2)
    · rw [a1, b1]
theorem zOk_al {n : Nat} {al : Nat → Nat → Bool} : ∀ {d k : Nat} {T : Nat → Bool} {f : List Nat}, zOk n al d k T f ↔ zOk n zAll d k T f ∧ ∀ i, i < d → al (k + i) (f.getD i 0) = true
  | 0, _, _, [] => ⟨fun _ => ⟨trivial, fun i hi => absurd hi (Nat.not_lt_zero _)⟩, fun _ => trivial⟩
  | 0, _, _, _ :: _ => ⟨fun h => h.elim, fun h => h.1.elim⟩
  | _ + 1, _, _, [] => ⟨fun h => h.elim, fun h => h.1.elim⟩
  | d + 1, k, T, r :: f => by
    constructor
    · rintro ⟨h1, h2, h3, h4⟩
      obtain ⟨g1, g2⟩ := zOk_al.mp h4
      refine ⟨⟨h1, h2, rfl, g1⟩, fun i hi => ?_⟩
      cases i with
      | zero => exact h3
      | succ i =>
        rw [zGetD_s, show k + (i + 1) = k + 1 + i by omega]
        exact g2 i (by omega)
    · rintro ⟨⟨h1, h2, -, h4⟩, h5⟩
      refine ⟨h1, h2, h5 0 (by omega), zOk_al.mpr ⟨h4, fun i hi => ?_⟩⟩
      have := h5 (i + 1) (by omega)
      rw [zGetD_s, show k + (i + 1) = k + 1 + i by omega] at this
      exact this
theorem zAl_1 {x y k r : Nat} : zAl (x : Int) (y : Int) 1 k r = true ↔ (k = x → r = y) := by
  unfold zAl
  by_cases h1 : k = x
  · by_cases h2 : r = y
    · subst h1; subst h2; simp [bZ_t]
    · subst h1
      have h3 : ¬ (r : Int) = (y : Int) := by omega
      simp [bZ_f h3, h2]
  · have h3 : ¬ (k : Int) = (x : Int) := by omega
    simp [h1, h3]
theorem zAl_0 {x y k r : Nat} : zAl (x : Int) (y : Int) 0 k r = true ↔ (k = x → r ≠ y) := by
  unfold zAl
  by_cases h1 : k = x
  · by_cases h2 : r = y
    · subst h1; subst h2; simp [bZ_t]
    · subst h1
      have h3 : ¬ (r : Int) = (y : Int) := by omega
      simp [bZ_f h3, h2]
  · have h3 : ¬ (k : Int) = (x : Int) := by omega
    simp [h1, h3]
/-- a giving's worth with another bid: where it gives that room -/
theorem zVal_y {n : Nat} {b : Nat → Int} {x y : Nat} {v : Int} {f : List Nat} (hn : n ≤ 6) (hx : x < n) (hf : zOk n zAll n 0 (fun _ => false) f) (h : f.getD x 0 = y) : zVal (zV (uZ b (x * 6 + y) v)) 0 f = zVal (zVf b (x : Int)) 0 f + v := by
  rw [zVal_sum, zVal_sum, zOk_len hf]
  obtain ⟨g1, -⟩ := zOk_pm hf
  have e : zSum (fun i => zV (uZ b (x * 6 + y) v) (0 + i) (f.getD i 0)) n = zSum (fun i => if i = x then v else (fun i => zVf b (x : Int) (0 + i) (f.getD i 0)) i) n := by
    refine zSum_congr n (fun i hi => ?_)
    show uZ b (x * 6 + y) v ((0 + i) * 6 + f.getD i 0) = if i = x then v else zVf b (x : Int) (0 + i) (f.getD i 0)
    rw [Nat.zero_add]
    by_cases hix : i = x
    · rw [if_pos hix, hix, h, uZ_s]
    · have h6 := (g1 i hi).1
      have hy := (g1 x hx).1
      rw [h] at hy
      rw [if_neg hix, uZ_n _ _ (by omega)]
      unfold zVf
      rw [if_neg (by omega)]
  have h0 : zVf b (x : Int) (0 + x) (f.getD x 0) = 0 := by unfold zVf; rw [if_pos (by omega)]
  rw [e, zSum_upd n hx, h0]
  omega
/-- and where it doesn't -/
theorem zVal_n {n : Nat} {b : Nat → Int} {x y : Nat} {v : Int} {f : List Nat} (hn : n ≤ 6) (hy : y < n) (hf : zOk n zAll n 0 (fun _ => false) f) (h : f.getD x 0 ≠ y) : zVal (zV (uZ b (x * 6 + y) v)) 0 f = zVal (zVf b (-1)) 0 f := by
  rw [zVal_sum, zVal_sum, zOk_len hf]
  obtain ⟨g1, -⟩ := zOk_pm hf
  refine zSum_congr n (fun i hi => ?_)
  show uZ b (x * 6 + y) v ((0 + i) * 6 + f.getD i 0) = zVf b (-1) (0 + i) (f.getD i 0)
  rw [zVf_none]
  show _ = b ((0 + i) * 6 + f.getD i 0)
  rw [Nat.zero_add]
  have h6 := (g1 i hi).1
  by_cases hix : i = x
  · subst hix
    rw [uZ_n _ _ (by omega)]
  · rw [uZ_n _ _ (by omega)]
/-- with a bid: the best of those who give the room, and of the others -/
theorem zGets_main {n : Nat} {b : Nat → Int} {x y : Nat} (hn : n ≤ 6) (hb0 : ∀ k, 0 ≤ b k ∧ b k ≤ 999) (hx : x < n) (hy : y < n) {v : Int} (hv : 0 ≤ v ∧ v ≤ 999) :
    (zBest (zX n b (-1) x y 0) < zBest (zX n b x x y 1) + v → zGets n b x y v) ∧ (zGets n b x y v → zBest (zX n b (-1) x y 0) ≤ zBest (zX n b x x y 1) + v) := by
  have hb1 : ∀ k, 0 ≤ uZ b (x * 6 + y) v k ∧ uZ b (x * 6 + y) v k ≤ 999 := uZ_b hb0 _ hv
  obtain ⟨q, hq⟩ := zD_some (b := uZ b (x * 6 + y) v) (u := 0) hn (zT_full hn).2.1
  have hgets : zGets n b x y v ↔ q.2.2.getD x 0 = y := by unfold zGets zRo; rw [hq]; exact Iff.rfl
  rw [zD_0] at hq
  obtain ⟨q1, q2, q3⟩ := (zG_spec n zAll (zV (uZ b (x * 6 + y) v)) n 0 (fun _ => false)).1 q hq
  -- somebody gives the room
  have hex : ∃ r, zX n b x x y 1 = some r := by
    cases h : zX n b x x y 1 with
    | some r => exact ⟨r, rfl⟩
    | none =>
      exfalso
      refine (zG_spec n (zAl x y 1) (zVf b x) n 0 (fun _ => false)).2 h (zLh (zSw x y) n 0) (zOk_al.mpr ⟨zLh_ok n 0 _ (fun i _ hi => ⟨zSw_lt hx hy (by omega), rfl⟩) (fun i j _ _ _ _ e => by rw [← zSw_inv x y i, ← zSw_inv x y j, e]), fun i hi => ?_⟩)
      rw [zLh_get _ _ _ _ hi, zAl_1]
      intro hix
      rw [hix]
      unfold zSw
      rw [if_pos rfl]
  obtain ⟨r, hr⟩ := hex
  obtain ⟨r1, r2, r3⟩ := (zG_spec n (zAl x y 1) (zVf b x) n 0 (fun _ => false)).1 r hr
  obtain ⟨r4, r5⟩ := zOk_al.mp r1
  have hrx : r.2.2.getD x 0 = y := by
    have := r5 x hx
    rw [zAl_1] at this
    exact this (Nat.zero_add x)
  have hr0 : 0 ≤ r.1 := (zX_b hn hb0 hr).1
  have e1 := zVal_y (b := b) (v := v) hn hx r4 hrx
  have e2 := q3 _ r4
  have hrest : zBest (zX n b x x y 1) = r.1 := by rw [hr]; rfl
  rw [hrest]
  constructor
  · intro hlt
    rw [hgets]
    refine Classical.byContradiction (fun hne => ?_)
    have hok : zOk n (zAl x y 0) n 0 (fun _ => false) q.2.2 := zOk_al.mpr ⟨q1, fun i hi => by
      rw [zAl_0]
      intro hix
      rw [show i = x by omega]
      exact hne⟩
    have e3 := zVal_n (b := b) (v := v) hn hy q1 hne
    cases ho : zX n b (-1) x y 0 with
    | none => exact (zG_spec n (zAl x y 0) (zVf b (-1)) n 0 (fun _ => false)).2 ho _ hok
    | some o =>
      have e4 := ((zG_spec n (zAl x y 0) (zVf b (-1)) n 0 (fun _ => false)).1 o ho).2.2 _ hok
      rw [ho] at hlt
      have hlt2 : o.1 < r.1 + v := hlt
      omega
  · intro hg
    rw [hgets] at hg
    have hok : zOk n (zAl x y 1) n 0 (fun _ => false) q.2.2 := zOk_al.mpr ⟨q1, fun i hi => by
      rw [zAl_1]
      intro hix
      rw [show i = x by omega]
      exact hg⟩
    have e3 := zVal_y (b := b) (v := v) hn hx q1 hg
    have e4 := r3 _ hok
    cases ho : zX n b (-1) x y 0 with
    | none => show (-1 : Int) ≤ r.1 + v; omega
    | some o =>
      obtain ⟨o1, o2, -⟩ := (zG_spec n (zAl x y 0) (zVf b (-1)) n 0 (fun _ => false)).1 o ho
      obtain ⟨o3, o4⟩ := zOk_al.mp o1
      have hox : o.2.2.getD x 0 ≠ y := by
        have := o4 x hx
        rw [zAl_0] at this
        exact this (Nat.zero_add x)
      have e5 := zVal_n (b := b) (v := v) hn hy o3 hox
      have e6 := q3 _ o3
      show o.1 ≤ r.1 + v
      omega
theorem zRest_b {n : Nat} {b : Nat → Int} {x y : Nat} (hn : n ≤ 6) (hb0 : ∀ k, 0 ≤ b k ∧ b k ≤ 999) : -1 ≤ zBest (zX n b x x y 1) ∧ zBest (zX n b x x y 1) ≤ 5994 ∧ -1 ≤ zBest (zX n b (-1) x y 0) ∧ zBest (zX n b (-1) x y 0) ≤ 5994 := by
  have h1 := zX_best (fe := x) (wh := x) (wi := y) (mu := 1) hn hb0
  have h2 := zX_best (fe := -1) (wh := x) (wi := y) (mu := 0) hn hb0
  omega
/-- who gets it with a bid gets it with a greater one -/
theorem zGets_mono {n : Nat} {b : Nat → Int} {x y : Nat} (hn : n ≤ 6) (hb0 : ∀ k, 0 ≤ b k ∧ b k ≤ 999) (hx : x < n) (hy : y < n) {v w : Int} (hv : 0 ≤ v) (hvw : v < w) (hw : w ≤ 999) (h : zGets n b x y v) : zGets n b x y w := by
  have h1 := (zGets_main hn hb0 hx hy (v := v) ⟨hv, by omega⟩).2 h
  exact (zGets_main hn hb0 hx hy (v := w) ⟨by omega, hw⟩).1 (by omega)
theorem uZ_uZ (b : Nat → Int) (p : Nat) (v w : Int) : uZ (uZ b p v) p w = uZ b p w := by
  funext j
  unfold uZ
  by_cases h : j = p <;> simp [h]
/-! the worth without a lodger -/
theorem zG_congrB {n : Nat} {al al2 : Nat → Nat → Bool} {v v2 : Nat → Nat → Int} (h1 : ∀ k r, r < n → al k r = al2 k r) (h2 : ∀ k r, r < n → v k r = v2 k r) : ∀ d k T, zG n al v d k T = zG n al2 v2 d k T
  | 0, _, _ => rfl
  | d + 1, k, T => by
    refine zFold_congr n (fun r hr => ?_)
    rw [h1 k r hr, h2 k r hr, zG_congrB h1 h2 d (k + 1) (zAdd T r)]
/-- the bids with a lodger's row at 0, up to a room -/
def zRow0 (b : Nat → Int) (x : Nat) : Nat → (Nat → Int)
  | 0 => b
  | r + 1 => uZ (zRow0 b x r) (x * 6 + r) 0
theorem zRow0_at {b : Nat → Int} {x : Nat} : ∀ r k q, q < 6 → r ≤ 6 → zRow0 b x r (k * 6 + q) = if k = x ∧ q < r then 0 else b (k * 6 + q)
  | 0, k, q, _, _ => by rw [if_neg (fun h => absurd h.2 (Nat.not_lt_zero _))]; rfl
  | r + 1, k, q, hq, hr => by
    show uZ (zRow0 b x r) (x * 6 + r) 0 (k * 6 + q) = _
    by_cases h : k = x ∧ q = r
    · rw [h.1, h.2, uZ_s, if_pos ⟨rfl, by omega⟩]
    · rw [uZ_n _ _ (by omega), zRow0_at r k q hq (by omega)]
      by_cases h2 : k = x ∧ q < r
      · rw [if_pos h2, if_pos ⟨h2.1, by omega⟩]
      · rw [if_neg h2, if_neg (by omega)]
theorem zRow0_b {b : Nat → Int} (hb : ∀ k, 0 ≤ b k ∧ b k ≤ 999) (x : Nat) : ∀ r k, 0 ≤ zRow0 b x r k ∧ zRow0 b x r k ≤ 999
  | 0 => hb
  | r + 1 => uZ_b (zRow0_b hb x r) _ (by decide)
theorem zWithout {n : Nat} {b : Nat → Int} {x : Nat} {mu : Int} (hn : n ≤ 6) : zWo n (zRow0 b x n) = zBest (zX n b (x : Int) (-1) (-1) mu) := by
  unfold zWo
  rw [zD_0]
  unfold zX
  rw [zG_congrB (v := zV (zRow0 b x n)) (v2 := zVf b (x : Int)) (al2 := zAl (-1) (-1) mu) (fun k r _ => (zAl_none (-1) mu k r).symm) (fun k r hr => ?_) n 0 _]
  show zRow0 b x n (k * 6 + r) = zVf b (x : Int) k r
  rw [zRow0_at n k r (by omega) hn]
  unfold zVf
  by_cases h : k = x
  · rw [if_pos ⟨h, hr⟩, if_pos (by omega)]
  · rw [if_neg (fun q => h q.1), if_neg (by omega)]
