/-! PURE: the reference's trying -/
def zAl (wh wi mu : Int) (k r : Nat) : Bool := !(decide ((k : Int) = wh) && decide (mu ≠ bZ ((r : Int) = wi)))
def zVf (b : Nat → Int) (fe : Int) (k r : Nat) : Int := if (k : Int) = fe then 0 else b (k * 6 + r)
def zTk (mt : Nat → Int) : Nat → Nat → Bool
  | 0, _ => false
  | k + 1, r => zTk mt k r || decide (mt k = (r : Int))
theorem zTk_congr {mt mu : Nat → Int} : ∀ k, (∀ j, j < k → mt j = mu j) → zTk mt k = zTk mu k
  | 0, _ => rfl
  | k + 1, h => by
    funext r
    show (zTk mt k r || decide (mt k = (r : Int))) = (zTk mu k r || decide (mu k = (r : Int)))
    rw [zTk_congr k (fun j hj => h j (by omega)), h k (by omega)]
theorem zTk_add (mt : Nat → Int) (k r : Nat) : zTk (uZ mt k (r : Int)) (k + 1) = zAdd (zTk mt k) r := by
  funext x
  show (zTk (uZ mt k (r : Int)) k x || decide (uZ mt k (r : Int) k = (x : Int))) = (zTk mt k x || x == r)
  rw [zTk_congr (mt := uZ mt k (r : Int)) (mu := mt) k (fun j hj => uZ_n _ _ (by omega)), uZ_s]
  congr 1
  by_cases h : x = r
  · subst h; simp
  · have h2 : ¬ (r : Int) = (x : Int) := by omega
    simp [h, h2]
theorem zTk_mono (mt : Nat → Int) (r : Nat) {j : Nat} (h : mt j = (r : Int)) : ∀ k, j < k → zTk mt k r = true
  | 0, hk => absurd hk (Nat.not_lt_zero _)
  | k + 1, hk => by
    show (zTk mt k r || decide (mt k = (r : Int))) = true
    by_cases e : j = k
    · rw [← e, h]; simp
    · rw [zTk_mono mt r h k (by omega)]; rfl
theorem zG_congr {n : Nat} {al al2 : Nat → Nat → Bool} {v v2 : Nat → Nat → Int} (h1 : ∀ k r, al k r = al2 k r) (h2 : ∀ k r, v k r = v2 k r) : ∀ d k T, zG n al v d k T = zG n al2 v2 d k T
  | 0, _, _ => rfl
  | d + 1, k, T => by
    refine zFold_congr n (fun r hr => ?_)
    rw [h1, h2, zG_congr h1 h2 d (k + 1) (zAdd T r)]
theorem zAl_none (wi mu : Int) (k r : Nat) : zAl (-1) wi mu k r = zAll k r := by
  have h : ¬ ((k : Int) = -1) := by omega
  unfold zAl zAll
  simp [h]
theorem zVf_none (b : Nat → Int) (k r : Nat) : zVf b (-1) k r = zV b k r := by
  have h : ¬ ((k : Int) = -1) := by omega
  unfold zVf zV
  rw [if_neg h]
theorem zVf_b {b : Nat → Int} (hb0 : ∀ k, 0 ≤ b k ∧ b k ≤ 999) (fe : Int) (k r : Nat) : 0 ≤ zVf b fe k r ∧ zVf b fe k r ≤ 999 := by
  unfold zVf
  split
  · omega
  · exact hb0 _
/-- the reference's givings, all -/
def zX (n : Nat) (b : Nat → Int) (fe wh wi mu : Int) : zS := zG n (zAl wh wi mu) (zVf b fe) n 0 (fun _ => false)
theorem zX_none (n : Nat) (b : Nat → Int) (wi mu : Int) : zX n b (-1) (-1) wi mu = zD n b 0 := by
  rw [zD_0]
  exact zG_congr (zAl_none wi mu) (zVf_none b) n 0 _
theorem zX_b {n : Nat} {b : Nat → Int} {fe wh wi mu : Int} (hn : n ≤ 6) (hb0 : ∀ k, 0 ≤ b k ∧ b k ≤ 999) {x : Int × Int × List Nat} (h : zX n b fe wh wi mu = some x) : 0 ≤ x.1 ∧ x.1 ≤ 5994 := by
  obtain ⟨h1, h2, -⟩ := (zG_spec n (zAl wh wi mu) (zVf b fe) n 0 (fun _ => false)).1 x h
  have h3 := zOk_len h1
  have h4 := zVal_bound (v := zVf b fe) (M := 999) 0 x.2.2 (fun i r _ _ => zVf_b hb0 fe i r)
  rw [h2, h3] at h4
  omega
theorem zX_best {n : Nat} {b : Nat → Int} {fe wh wi mu : Int} (hn : n ≤ 6) (hb0 : ∀ k, 0 ≤ b k ∧ b k ≤ 999) : -1 ≤ zBest (zX n b fe wh wi mu) ∧ zBest (zX n b fe wh wi mu) ≤ 5994 := by
  cases h : zX n b fe wh wi mu with
  | none => show (-1 : Int) ≤ -1 ∧ (-1 : Int) ≤ 5994; omega
  | some x => have := zX_b hn hb0 h; show -1 ≤ x.1 ∧ x.1 ≤ 5994; omega
/-- what stands behind 'give' -/
def zGave (n : Nat) (X : zS) (w y : Int) (ro : Nat → Int) : Prop := w = zBest X ∧ y = zWays X ∧ ∀ x, X = some x → ∀ j, j < n → ro j = ((x.2.2.getD j 0 : Nat) : Int)
theorem zStep_fin {n : Nat} {X : zS} {ro : Nat → Int} {w y : Int} {ro2 : Nat → Int} (h : zStep n [] 0 X (-1) 0 ro w y ro2) (hX : ∀ x, X = some x → 0 ≤ x.1) : zGave n X w y ro2 := by
  cases X with
  | none =>
    obtain ⟨rfl, rfl, rfl⟩ := h
    exact ⟨rfl, rfl, fun x hx => by cases hx⟩
  | some x =>
    have h0 := hX x rfl
    rcases h with ⟨p1, p2, p3, p4⟩ | ⟨p1, -, -, -⟩ | ⟨p1, -, -, -⟩
    · refine ⟨by rw [p2]; show 0 + x.1 = x.1; omega, p3, fun x2 hx j hj => ?_⟩
      cases hx
      exact p4 j hj
    · exfalso; omega
    · exfalso; omega
theorem zStep_leaf {n : Nat} {pre : List Nat} {sum w y : Int} {ro mt : Nat → Int} (hl : pre.length = n) (hpre : ∀ j, j < n → mt j = ((pre.getD j 0 : Nat) : Int)) :
    (w < sum → zStep n pre sum (some (0, 1, [])) w y ro sum 1 (zCpy mt ro n)) ∧ (sum = w → zStep n pre sum (some (0, 1, [])) w y ro w (y + 1) ro) ∧ (sum < w → zStep n pre sum (some (0, 1, [])) w y ro w y ro) := by
  refine ⟨fun h => Or.inl ⟨by show w < sum + 0; omega, by show sum = sum + 0; omega, rfl, fun j hj => ?_⟩, fun h => Or.inr (Or.inl ⟨by show w = sum + 0; omega, rfl, rfl, rfl⟩), fun h => Or.inr (Or.inr ⟨by show sum + 0 < w; omega, rfl, rfl, rfl⟩)⟩
  show zCpy mt ro n j = (((pre ++ []).getD j 0 : Nat) : Int)
  rw [List.append_nil, ← hpre j hj]
  unfold zCpy
  rw [if_pos hj]
/-! what the reference's loops are -/
def zCf (b : Nat → Int) (g : Nat → Nat) (L : Nat → Int) (a : Nat) : Nat → Int
  | 0 => 0
  | k + 1 => if zEn b g a k then max (zCf b g L a k) (L k) else zCf b g L a k
theorem zCf_le {b : Nat → Int} {g : Nat → Nat} {L : Nat → Int} {a : Nat} {M : Int} (hM : 0 ≤ M) : ∀ k, (∀ c, c < k → zEn b g a c → L c ≤ M) → 0 ≤ zCf b g L a k ∧ zCf b g L a k ≤ M
  | 0, _ => ⟨Int.le_refl _, hM⟩
  | k + 1, h => by
    have h1 := zCf_le hM k (fun c hc => h c (by omega))
    show 0 ≤ (if zEn b g a k then max (zCf b g L a k) (L k) else zCf b g L a k) ∧ (if zEn b g a k then max (zCf b g L a k) (L k) else zCf b g L a k) ≤ M
    by_cases q : zEn b g a k
    · rw [if_pos q]; have := h k (by omega) q; omega
    · rw [if_neg q]; exact h1
theorem zCf_ge {b : Nat → Int} {g : Nat → Nat} {L : Nat → Int} {a : Nat} : ∀ k, 0 ≤ zCf b g L a k ∧ ∀ c, c < k → zEn b g a c → L c ≤ zCf b g L a k
  | 0 => ⟨Int.le_refl _, fun c hc => absurd hc (Nat.not_lt_zero _)⟩
  | k + 1 => by
    obtain ⟨h0, h1⟩ := zCf_ge (b := b) (g := g) (L := L) (a := a) k
    show 0 ≤ (if zEn b g a k then max (zCf b g L a k) (L k) else zCf b g L a k) ∧ ∀ c, c < k + 1 → zEn b g a c → L c ≤ (if zEn b g a k then max (zCf b g L a k) (L k) else zCf b g L a k)
    by_cases q : zEn b g a k
    · rw [if_pos q]
      refine ⟨by omega, fun c hc hE => ?_⟩
      by_cases e : c = k
      · rw [e]; omega
      · have := h1 c (by omega) hE; omega
    · rw [if_neg q]
      refine ⟨h0, fun c hc hE => ?_⟩
      by_cases e : c = k
      · rw [e] at hE; exact absurd hE q
      · exact h1 c (by omega) hE
theorem zCf_L {n : Nat} {b : Nat → Int} {g : Nat → Nat} {L : Nat → Int} {a : Nat} (hL : zIsL n b g L) (ha : a < n) : zCf b g L a n + 1 = L a := by
  have h1 := zCf_le (b := b) (g := g) (L := L) (a := a) (M := L a - 1) (by have := (hL.1 a ha).1; omega) n (fun c hc hE => by have := hL.2.1 a c ha hc hE; omega)
  obtain ⟨h2, h3⟩ := zCf_ge (b := b) (g := g) (L := L) (a := a) n
  rcases hL.2.2 a ha with q | ⟨c, hc, hE, q⟩
  · omega
  · have := h3 c hc hE; omega
/-- one more turn of raising -/
def zRs (n : Nat) (w : Nat → Nat → Int) (U e e1 : Nat → Int) (dz : Int) (a c : Nat) : Prop := (∀ j, j < n → e j ≤ e1 j ∧ e1 j ≤ U j) ∧ ((dz = 0 ∧ (∀ j, j < n → e1 j = e j) ∧ (∀ j, j < a → ∀ k, k < n → w j k + e1 k ≤ e1 j) ∧ ∀ k, k < c → w a k + e1 k ≤ e1 a) ∨ (dz = 1 ∧ ∃ j, j < n ∧ e j < e1 j))
theorem zRs_start {n : Nat} {w : Nat → Nat → Int} {U e : Nat → Int} (h : ∀ j, j < n → e j ≤ U j) : zRs n w U e e 0 0 0 :=
  ⟨fun j hj => ⟨Int.le_refl _, h j hj⟩, Or.inl ⟨rfl, fun _ _ => rfl, fun j hj => absurd hj (Nat.not_lt_zero _), fun k hk => absurd hk (Nat.not_lt_zero _)⟩⟩
theorem zRs_row {n : Nat} {w : Nat → Nat → Int} {U e e1 : Nat → Int} {dz : Int} {a c : Nat} (hc : n ≤ c) (h : zRs n w U e e1 dz a c) : zRs n w U e e1 dz (a + 1) 0 := by
  refine ⟨h.1, ?_⟩
  rcases h.2 with ⟨q1, q2, q3, q4⟩ | q
  · refine Or.inl ⟨q1, q2, fun j hj k hk => ?_, fun k hk => absurd hk (Nat.not_lt_zero _)⟩
    by_cases e9 : j = a
    · rw [e9]; exact q4 k (by omega)
    · exact q3 j (by omega) k hk
  · exact Or.inr q
theorem zRs_keep {n : Nat} {w : Nat → Nat → Int} {U e e1 : Nat → Int} {dz : Int} {a c : Nat} (hle : w a c + e1 c ≤ e1 a) (h : zRs n w U e e1 dz a c) : zRs n w U e e1 dz a (c + 1) := by
  refine ⟨h.1, ?_⟩
  rcases h.2 with ⟨q1, q2, q3, q4⟩ | q
  · refine Or.inl ⟨q1, q2, q3, fun k hk => ?_⟩
    by_cases e9 : k = c
    · rw [e9]; exact hle
    · exact q4 k (by omega)
  · exact Or.inr q
theorem zRs_up {n : Nat} {w : Nat → Nat → Int} {U e e1 : Nat → Int} {dz : Int} {a c : Nat} (hfix : ∀ a c, a < n → c < n → w a c + U c ≤ U a) (ha : a < n) (hc : c < n) (hgt : e1 a < w a c + e1 c) (h : zRs n w U e e1 dz a c) : zRs n w U e (uZ e1 a (w a c + e1 c)) 1 a (c + 1) := by
  refine ⟨fun j hj => ?_, Or.inr ⟨rfl, a, ha, ?_⟩⟩
  · by_cases e9 : j = a
    · subst e9
      rw [uZ_s]
      have q1 := h.1 j hj
      have q2 := hfix j c hj hc
      have q3 := (h.1 c hc).2
      omega
    · rw [uZ_n _ _ e9]; exact h.1 j hj
  · rw [uZ_s]
    have q1 := (h.1 a ha).1
    omega
theorem zSum_lt {f g : Nat → Int} {a : Nat} : ∀ n, a < n → (∀ i, i < n → f i ≤ g i) → f a < g a → zSum f n < zSum g n
  | 0, h, _, _ => absurd h (Nat.not_lt_zero _)
  | n + 1, h, hle, hlt => by
    show zSum f n + f n < zSum g n + g n
    by_cases e : a = n
    · have h1 := zSum_le n (fun i hi => hle i (by omega))
      rw [e] at hlt
      omega
    · have h1 := zSum_lt n (by omega) (fun i hi => hle i (by omega)) hlt
      have h2 := hle n (by omega)
      omega
/-- what the reference is, once settled -/
def zMset (n : Nat) (b : Nat → Int) (rc wo wy po : Int) (ro me mq : Nat → Int) : Prop := wo = zWo n b ∧ wy = zWy n b ∧ (∀ j, j < n → ro j = ((zRo n b j : Nat) : Int)) ∧ zIsB n (zWt b (zRo n b)) me ∧ (∀ j, j < n → mq j = me j + zShare n (zLeft (zWo n b) rc me n)) ∧ po = zPot n (zLeft (zWo n b) rc me n)
theorem zGave_ro {n : Nat} {b : Nat → Int} {w y : Int} {ro : Nat → Int} (hn : n ≤ 6) (h : zGave n (zD n b 0) w y ro) : w = zWo n b ∧ y = zWy n b ∧ ∀ j, j < n → ro j = ((zRo n b j : Nat) : Int) := by
  obtain ⟨x, hx⟩ := zD_some (b := b) (u := 0) hn (zT_full hn).2.1
  refine ⟨h.1, h.2.1, fun j hj => ?_⟩
  have h1 := h.2.2 x hx j hj
  unfold zRo
  rw [hx]
  exact h1
