/-! PURE: the greatest ways among all lodgers, one more of them between at a time -/
theorem zMx_ge {f : Nat → Int} : ∀ n, 0 ≤ zMx f n ∧ ∀ i, i < n → f i ≤ zMx f n
  | 0 => ⟨Int.le_refl _, fun i hi => absurd hi (Nat.not_lt_zero _)⟩
  | n + 1 => by
    obtain ⟨h1, h2⟩ := zMx_ge (f := f) n
    show 0 ≤ max (zMx f n) (f n) ∧ ∀ i, i < n + 1 → f i ≤ max (zMx f n) (f n)
    refine ⟨by omega, fun i hi => ?_⟩
    by_cases e : i = n
    · rw [e]; omega
    · have := h2 i (by omega); omega
theorem zMx_at {f : Nat → Int} : ∀ n, zMx f n = 0 ∨ ∃ i, i < n ∧ zMx f n = f i
  | 0 => Or.inl rfl
  | n + 1 => by
    show max (zMx f n) (f n) = 0 ∨ ∃ i, i < n + 1 ∧ max (zMx f n) (f n) = f i
    by_cases h : zMx f n ≤ f n
    · exact Or.inr ⟨n, by omega, by omega⟩
    · rcases zMx_at (f := f) n with q | ⟨i, hi, q⟩
      · exact Or.inl (by omega)
      · exact Or.inr ⟨i, by omega, by omega⟩
def qFw (m : Nat) (D : Nat → Nat → Int) (a c : Nat) : Int := max (D a c) (D a m + D m c)
/-- what stands ahead of the round m -/
def qCl (n : Nat) (w : Nat → Nat → Int) (E : Nat → Int) (m : Nat) (D : Nat → Nat → Int) : Prop :=
  (∀ a c, a < n → c < n → w a c ≤ D a c ∧ D a c ≤ E a - E c) ∧ (∀ a, a < n → 0 ≤ D a a) ∧ ∀ a c d, a < n → c < m → d < n → D a c + D c d ≤ D a d
theorem qCl_0 {n : Nat} {w D : Nat → Nat → Int} {E : Nat → Int} (hw0 : ∀ a, a < n → 0 ≤ w a a) (hfix : ∀ a c, a < n → c < n → w a c + E c ≤ E a) (h : ∀ a c, a < n → c < n → D a c = w a c) : qCl n w E 0 D := by
  refine ⟨fun a c ha hc => ?_, fun a ha => ?_, fun a c d _ hc => absurd hc (Nat.not_lt_zero _)⟩
  · rw [h a c ha hc]
    have := hfix a c ha hc
    omega
  · rw [h a a ha ha]; exact hw0 a ha
theorem qCl_mm {n m : Nat} {w D : Nat → Nat → Int} {E : Nat → Int} (hm : m < n) (h : qCl n w E m D) : D m m = 0 := by
  have h1 := (h.1 m m hm hm).2
  have h2 := h.2.1 m hm
  omega
theorem qCl_s {n m : Nat} {w D D2 : Nat → Nat → Int} {E : Nat → Int} (hm : m < n) (h : qCl n w E m D) (h2 : ∀ a c, a < n → c < n → D2 a c = qFw m D a c) : qCl n w E (m + 1) D2 := by
  have h0 := qCl_mm hm h
  obtain ⟨g1, g2, g3⟩ := h
  unfold qFw at h2
  refine ⟨fun a c ha hc => ?_, fun a ha => ?_, fun a c d ha hc hd => ?_⟩
  · have q1 := g1 a c ha hc
    have q2 := (g1 a m ha hm).2
    have q3 := (g1 m c hm hc).2
    rw [h2 a c ha hc]
    omega
  · have q1 := g2 a ha
    rw [h2 a a ha ha]
    omega
  · have hcn : c < n := by omega
    rw [h2 a c ha hcn, h2 c d hcn hd, h2 a d ha hd]
    by_cases e : c = m
    · subst e
      omega
    · have k1 := g3 a c d ha (by omega) hd
      have k2 := g3 m c d hm (by omega) hd
      have k3 := g3 a c m ha (by omega) hm
      have k4 := g3 m c m hm (by omega) hm
      omega
theorem qCl_end {n : Nat} {w D : Nat → Nat → Int} {E e : Nat → Int} (hB : zIsB n w E) (h : qCl n w E n D) (he : ∀ a, a < n → e a = zMx (D a) n) : zIsB n w e := by
  obtain ⟨g1, -, g3⟩ := h
  refine zIsB_of hB (fun a ha => ?_) (fun a c ha hc => ?_) (fun a ha => ?_)
  · rw [he a ha]; exact (zMx_ge n).1
  · rw [he a ha, he c hc]
    have q1 := (zMx_ge (f := D a) n).2
    have q2 := (g1 a c ha hc).1
    rcases zMx_at (f := D c) n with q | ⟨i, hi, q⟩
    · have := q1 c hc
      omega
    · have q3 := q1 i hi
      have q4 := g3 a c i ha hc hi
      omega
  · rw [he a ha]
    refine (zMx_b (zIsB_nn hB ha) n (fun i hi => ?_)).2
    have q1 := (g1 a i ha hi).2
    have q2 := zIsB_nn hB hi
    omega
/-- within a round: what lies ahead of the place (a, c) is new -/
def qFi (n m : Nat) (D G : Nat → Nat → Int) (a c : Nat) : Prop := ∀ i j, i < n → j < n → G i j = if i < a ∨ (i = a ∧ j < c) then qFw m D i j else D i j
theorem qFi_at {n m a c : Nat} {D G : Nat → Nat → Int} (hm : m < n) (h0 : D m m = 0) (ha : a < n) (hc : c < n) (h : qFi n m D G a c) : G a c = D a c ∧ G a m = D a m ∧ G m c = D m c := by
  have e1 := h a c ha hc
  have e2 := h a m ha hm
  have e3 := h m c hm hc
  rw [if_neg (by omega)] at e1
  unfold qFw at e2 e3
  refine ⟨e1, ?_, ?_⟩
  · split at e2 <;> omega
  · split at e3 <;> omega
theorem qFi_s {n m a c : Nat} {D G : Nat → Nat → Int} (hm : m < n) (h0 : D m m = 0) (ha : a < n) (hc : c < n) (h : qFi n m D G a c) : qFi n m D (u2 G a c (max (G a c) (G a m + G m c))) a (c + 1) := by
  obtain ⟨e1, e2, e3⟩ := qFi_at hm h0 ha hc h
  intro i j hi hj
  by_cases q : i = a ∧ j = c
  · rw [q.1, q.2, u2_s, if_pos (by omega), e1, e2, e3]
    rfl
  · rw [u2_n _ _ q, h i j hi hj]
    by_cases k : i < a ∨ (i = a ∧ j < c)
    · rw [if_pos k, if_pos (by omega)]
    · rw [if_neg k, if_neg (by omega)]
theorem qFi_row {n m a c : Nat} {D G : Nat → Nat → Int} (hc : n ≤ c) (h : qFi n m D G a c) : qFi n m D G (a + 1) 0 := by
  intro i j hi hj
  rw [h i j hi hj]
  by_cases k : i < a ∨ (i = a ∧ j < c)
  · rw [if_pos k, if_pos (by omega)]
  · rw [if_neg k, if_neg (by omega)]
theorem qFi_end {n m a : Nat} {D G : Nat → Nat → Int} (ha : n ≤ a) (h : qFi n m D G a 0) : ∀ i j, i < n → j < n → G i j = qFw m D i j := by
  intro i j hi hj
  rw [h i j hi hj, if_pos (by omega)]
theorem qFi_start {n m : Nat} {D : Nat → Nat → Int} : qFi n m D D 0 0 := by
  intro i j hi hj
  rw [if_neg (by omega)]
/-! the chain of envy, found from 0 on -/
def qChI (n : Nat) (L : Nat → Int) (k m : Nat) (ch : Nat → Int) : Prop := ∀ a, a < n → 0 ≤ ch a ∧ ch a ≤ L a ∧ min (L a) (if a < m then (k : Int) + 1 else (k : Int)) ≤ ch a
theorem qChI_step {n : Nat} {b : Nat → Int} {g : Nat → Nat} {L ch : Nat → Int} {k m : Nat} (hL : zIsL n b g L) (hm : m < n) (h : qChI n L k m ch) : qChI n L k (m + 1) (uZ ch m (zLc b g ch m n)) := by
  obtain ⟨g1, g2⟩ := zLc_ge (b := b) (g := g) (ch := ch) (a := m) n
  have g3 : zLc b g ch m n ≤ L m := zLc_le (hL.1 m hm).1 n (fun c hc hE => by
    have q1 := hL.2.1 m c hm hc hE
    have q2 := (h c hc).2.1
    omega)
  intro a ha
  by_cases ham : a = m
  · subst ham
    rw [uZ_s, if_pos (by omega)]
    refine ⟨by omega, g3, ?_⟩
    rcases hL.2.2 a hm with q | ⟨c, hc, hE, q⟩
    · omega
    · have q1 := g2 c hc hE
      have q2 := (h c hc).2.2
      by_cases hca : c < a
      · rw [if_pos hca] at q2; omega
      · rw [if_neg hca] at q2; omega
  · rw [uZ_n _ _ ham]
    obtain ⟨q1, q2, q3⟩ := h a ha
    refine ⟨q1, q2, ?_⟩
    by_cases q : a < m
    · rw [if_pos q] at q3; rw [if_pos (by omega)]; exact q3
    · rw [if_neg q] at q3; rw [if_neg (by omega)]; exact q3
theorem qChI_round {n : Nat} {L ch : Nat → Int} {k m : Nat} (hm : n ≤ m) (h : qChI n L k m ch) : qChI n L (k + 1) 0 ch := by
  intro a ha
  obtain ⟨q1, q2, q3⟩ := h a ha
  rw [if_pos (by omega)] at q3
  refine ⟨q1, q2, ?_⟩
  rw [if_neg (Nat.not_lt_zero _)]
  push_cast
  exact q3
theorem qChI_start {n : Nat} {b : Nat → Int} {g : Nat → Nat} {L ch : Nat → Int} (hL : zIsL n b g L) (h : ∀ a, a < n → ch a = 0) : qChI n L 0 0 ch := by
  intro a ha
  have := (hL.1 a ha).1
  rw [h a ha, if_neg (Nat.not_lt_zero _)]
  omega
theorem qChI_end {n : Nat} {b : Nat → Int} {g : Nat → Nat} {L ch : Nat → Int} {k : Nat} (hL : zIsL n b g L) (hk : n ≤ k) (h : qChI n L k 0 ch) : ∀ a, a < n → ch a = L a := by
  intro a ha
  obtain ⟨q1, q2, q3⟩ := h a ha
  have := (hL.1 a ha).2
  rw [if_neg (Nat.not_lt_zero _)] at q3
  omega
/-! bids that change, read at a place -/
theorem zGr_at {b : Nat → Int} {n : Nat} (hn : n < 6) : ∀ i a c, a ≤ n → c ≤ n → i ≤ n + 1 → zGr b n i (a * 6 + c) = if (a = n ∧ c < i) ∨ (c = n ∧ a < i) then 0 else b (a * 6 + c)
  | 0, a, c, _, _, _ => by rw [if_neg (by omega)]; rfl
  | i + 1, a, c, ha, hc, hi => by
    show uZ (uZ (zGr b n i) (n * 6 + i) 0) (i * 6 + n) 0 (a * 6 + c) = _
    by_cases q1 : a = i ∧ c = n
    · rw [q1.1, q1.2, uZ_s, if_pos (by omega)]
    · rw [uZ_n _ _ (by omega)]
      by_cases q2 : a = n ∧ c = i
      · rw [q2.1, q2.2, uZ_s, if_pos (by omega)]
      · rw [uZ_n _ _ (by omega), zGr_at hn i a c ha hc (by omega)]
        by_cases q3 : (a = n ∧ c < i) ∨ (c = n ∧ a < i)
        · rw [if_pos q3, if_pos (by omega)]
        · rw [if_neg q3, if_neg (by omega)]
theorem zSh1_at {b : Nat → Int} {x y k m : Nat} (hm : m < 6) : ∀ r a c, c < 6 → r ≤ m → zSh1 x y k b r (a * 6 + c) = if a = k ∧ c < r then b ((if k < x then k else k + 1) * 6 + (if c < y then c else c + 1)) else b (a * 6 + c)
  | 0, a, c, _, _ => by rw [if_neg (by omega)]; rfl
  | r + 1, a, c, hc, hr => by
    show uZ (zSh1 x y k b r) (k * 6 + r) (zSh1 x y k b r ((if k < x then k else k + 1) * 6 + (if r < y then r else r + 1))) (a * 6 + c) = _
    by_cases q : a = k ∧ c = r
    · rw [q.1, q.2, uZ_s, if_pos (show k = k ∧ r < r + 1 from ⟨rfl, by omega⟩), zSh1_at hm r _ _ (by split <;> omega) (by omega), if_neg (fun h => by have h2 := h.2; split at h2 <;> omega)]
    · rw [uZ_n _ _ (by omega), zSh1_at hm r a c hc (by omega)]
      by_cases q3 : a = k ∧ c < r
      · rw [if_pos q3, if_pos (show a = k ∧ c < r + 1 from ⟨q3.1, by omega⟩)]
      · rw [if_neg q3, if_neg (show ¬ (a = k ∧ c < r + 1) from fun h => by omega)]
theorem zSh_at {b : Nat → Int} {x y m : Nat} (hm : m < 6) : ∀ k a c, c < 6 → k ≤ m → zSh x y m b k (a * 6 + c) = if a < k ∧ c < m then b ((if a < x then a else a + 1) * 6 + (if c < y then c else c + 1)) else b (a * 6 + c)
  | 0, a, c, _, _ => by rw [if_neg (by omega)]; rfl
  | k + 1, a, c, hc, hk => by
    show zSh1 x y k (zSh x y m b k) m (a * 6 + c) = _
    rw [zSh1_at hm m a c hc (Nat.le_refl _)]
    by_cases q : a = k ∧ c < m
    · rw [if_pos q, q.1, if_pos (show k < k + 1 ∧ c < m from ⟨by omega, q.2⟩), zSh_at hm k _ _ (by split <;> omega) (by omega), if_neg (fun h => by have h2 := h.1; split at h2 <;> omega)]
    · rw [if_neg q, zSh_at hm k a c hc (by omega)]
      by_cases q3 : a < k ∧ c < m
      · rw [if_pos q3, if_pos (show a < k + 1 ∧ c < m from ⟨by omega, q3.2⟩)]
      · rw [if_neg q3, if_neg (show ¬ (a < k + 1 ∧ c < m) from fun h => by omega)]
