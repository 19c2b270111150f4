/-! PURE: the house's giving is the best; rebates and chains of envy come to an end -/
theorem zSum_shift (f : Nat → Int) : ∀ n, zSum f (n + 1) = f 0 + zSum (fun i => f (i + 1)) n
  | 0 => by show 0 + f 0 = f 0 + 0; omega
  | n + 1 => by
    show zSum f (n + 1) + f (n + 1) = f 0 + (zSum (fun i => f (i + 1)) n + f (n + 1))
    rw [zSum_shift f n]
    omega
theorem zGetD_0 (r : Nat) (f : List Nat) : (r :: f).getD 0 0 = r := rfl
theorem zGetD_s (r : Nat) (f : List Nat) (i : Nat) : (r :: f).getD (i + 1) 0 = f.getD i 0 := rfl
theorem zVal_sum (v : Nat → Nat → Int) : ∀ (f : List Nat) (k : Nat), zVal v k f = zSum (fun i => v (k + i) (f.getD i 0)) f.length
  | [], _ => rfl
  | r :: f, k => by
    show v k r + zVal v (k + 1) f = zSum _ (f.length + 1)
    rw [zSum_shift, zVal_sum v f (k + 1)]
    congr 1
    refine zSum_congr _ (fun i _ => ?_)
    rw [zGetD_s]
    congr 1
    omega
theorem zOk_pm {n : Nat} : ∀ {d k : Nat} {T : Nat → Bool} {f : List Nat}, zOk n zAll d k T f → (∀ i, i < d → f.getD i 0 < n ∧ T (f.getD i 0) = false) ∧ ∀ i j, i < d → j < d → f.getD i 0 = f.getD j 0 → i = j
  | 0, _, _, [], _ => ⟨fun i hi => absurd hi (Nat.not_lt_zero _), fun i j hi => absurd hi (Nat.not_lt_zero _)⟩
  | 0, _, _, _ :: _, h => h.elim
  | _ + 1, _, _, [], h => h.elim
  | d + 1, k, T, r :: f, h => by
    obtain ⟨h1, h2, -, h4⟩ := h
    obtain ⟨g1, g2⟩ := zOk_pm h4
    have key : ∀ i, i < d → T (f.getD i 0) = false ∧ f.getD i 0 ≠ r := by
      intro i hi
      have := (g1 i hi).2
      unfold zAdd at this
      simp only [Bool.or_eq_false_iff, beq_eq_false_iff_ne] at this
      exact this
    refine ⟨fun i hi => ?_, fun i j hi hj e => ?_⟩
    · cases i with
      | zero => exact ⟨h1, h2⟩
      | succ i => rw [zGetD_s]; exact ⟨(g1 i (by omega)).1, (key i (by omega)).1⟩
    · cases i with
      | zero =>
        cases j with
        | zero => rfl
        | succ j => rw [zGetD_0, zGetD_s] at e; exact absurd e.symm (key j (by omega)).2
      | succ i =>
        cases j with
        | zero => rw [zGetD_0, zGetD_s] at e; exact absurd e (key i (by omega)).2
        | succ j => rw [zGetD_s, zGetD_s] at e; rw [g2 i j (by omega) (by omega) e]
def zLh (h : Nat → Nat) : Nat → Nat → List Nat
  | 0, _ => []
  | d + 1, k => h k :: zLh h d (k + 1)
theorem zLh_len (h : Nat → Nat) : ∀ d k, (zLh h d k).length = d
  | 0, _ => rfl
  | d + 1, k => by show (zLh h d (k + 1)).length + 1 = d + 1; rw [zLh_len h d]
theorem zLh_get (h : Nat → Nat) : ∀ d k i, i < d → (zLh h d k).getD i 0 = h (k + i)
  | 0, _, i, hi => absurd hi (Nat.not_lt_zero _)
  | d + 1, k, 0, _ => rfl
  | d + 1, k, i + 1, hi => by
    show (zLh h d (k + 1)).getD i 0 = h (k + (i + 1))
    rw [zLh_get h d (k + 1) i (by omega)]
    congr 1
    omega
theorem zLh_ok {n : Nat} {h : Nat → Nat} : ∀ d k T, (∀ i, k ≤ i → i < k + d → h i < n ∧ T (h i) = false) → (∀ i j, k ≤ i → i < k + d → k ≤ j → j < k + d → h i = h j → i = j) → zOk n zAll d k T (zLh h d k)
  | 0, _, _, _, _ => trivial
  | d + 1, k, T, h1, h2 => by
    refine ⟨(h1 k (Nat.le_refl _) (by omega)).1, (h1 k (Nat.le_refl _) (by omega)).2, rfl, zLh_ok d (k + 1) _ (fun i hi hj => ⟨(h1 i (by omega) (by omega)).1, ?_⟩) (fun i j a b c e => h2 i j (by omega) (by omega) (by omega) (by omega))⟩
    unfold zAdd
    simp only [Bool.or_eq_false_iff, beq_eq_false_iff_ne]
    refine ⟨(h1 i (by omega) (by omega)).2, fun e => ?_⟩
    have := h2 i k (by omega) (by omega) (Nat.le_refl _) (by omega) e
    omega
theorem zRo_opt {n : Nat} {b : Nat → Int} (hn : n ≤ 6) : zOpt n (zV b) (zRo n b) := by
  obtain ⟨x, hx⟩ := zD_some (b := b) (u := 0) hn (zT_full hn).2.1
  have hg : zRo n b = fun k => x.2.2.getD k 0 := by unfold zRo; rw [hx]; rfl
  rw [zD_0] at hx
  obtain ⟨h1, h2, h3⟩ := (zG_spec n zAll (zV b) n 0 (fun _ => false)).1 x hx
  obtain ⟨g1, g2⟩ := zOk_pm h1
  rw [hg]
  refine ⟨⟨fun i hi => (g1 i hi).1, g2⟩, fun h hh => ?_⟩
  have h4 := h3 (zLh h n 0) (zLh_ok n 0 _ (fun i _ hi => ⟨hh.1 i (by omega), rfl⟩) (fun i j _ hi _ hj e => hh.2 i j (by omega) (by omega) e))
  rw [← h2, zVal_sum, zVal_sum, zLh_len, zOk_len h1] at h4
  have e1 : zSum (fun i => zV b i (h i)) n = zSum (fun i => zV b (0 + i) ((zLh h n 0).getD i 0)) n := zSum_congr n (fun i hi => by rw [zLh_get h n 0 i hi, Nat.zero_add])
  have e2 : zSum (fun i => zV b i (x.2.2.getD i 0)) n = zSum (fun i => zV b (0 + i) (x.2.2.getD i 0)) n := zSum_congr n (fun i _ => by rw [Nat.zero_add])
  rw [e1, e2]
  exact h4
theorem zRo_lt {n : Nat} {b : Nat → Int} (hn : n ≤ 6) : ∀ j, j < n → zRo n b j < n := (zRo_opt hn).1.1
theorem zWt_noC {n : Nat} {b : Nat → Int} (hn : n ≤ 6) : zNoC n (zWt b (zRo n b)) := fun c z t hp hz => zCyc (zRo_opt (b := b) hn) hp hz
theorem zWt_le {n : Nat} {b : Nat → Int} (hb0 : ∀ k, 0 ≤ b k ∧ b k ≤ 999) (g : Nat → Nat) : ∀ a c, a < n → c < n → zWt b g a c ≤ 999 := fun a c _ _ => by
  have h1 := hb0 (a * 6 + g c)
  have h2 := hb0 (c * 6 + g c)
  unfold zWt
  omega
/-- the rebates ahead of what is left over: there are some, and they are as asked -/
theorem zU_ex {n : Nat} {b : Nat → Int} (hn : n ≤ 6) (hb0 : ∀ k, 0 ≤ b k ∧ b k ≤ 999) : ∃ U, zIsB n (zWt b (zRo n b)) U := zIsB_ex (M := 999) (by decide) (zWt_le hb0 _)
theorem zU_le {n : Nat} {b : Nat → Int} {g : Nat → Nat} {U : Nat → Int} (hn : n ≤ 6) (hb0 : ∀ k, 0 ≤ b k ∧ b k ≤ 999) (h : zIsB n (zWt b g) U) : ∀ a, a < n → 0 ≤ U a ∧ U a ≤ 5994 := by
  intro a ha
  obtain ⟨t, ht, e⟩ := (h a ha).1
  have h1 := zPw_bound (M := 999) (by decide) (zWt_le (n := n) hb0 g) (a :: t) ht.2
  have h2 := zPath_len n _ ht
  have h3 := zIsB_nn h ha
  omega
/-! rounds of raising -/
theorem zBor_ge (w : Nat → Nat → Int) (e : Nat → Int) (a : Nat) : ∀ m, e a ≤ zBor w e a m ∧ ∀ c, c < m → w a c + e c ≤ zBor w e a m
  | 0 => ⟨Int.le_refl _, fun c hc => absurd hc (Nat.not_lt_zero _)⟩
  | m + 1 => by
    obtain ⟨h1, h2⟩ := zBor_ge w e a m
    show e a ≤ max (zBor w e a m) (w a m + e m) ∧ ∀ c, c < m + 1 → w a c + e c ≤ max (zBor w e a m) (w a m + e m)
    refine ⟨by omega, fun c hc => ?_⟩
    by_cases h : c = m
    · rw [h]; omega
    · have := h2 c (by omega); omega
def zInv (n : Nat) (w : Nat → Nat → Int) (U : Nat → Int) (k m : Nat) (e : Nat → Int) : Prop := (∀ a, a < n → 0 ≤ e a ∧ e a ≤ U a) ∧ ∀ a t, zPath n (a :: t) → (a :: t).length ≤ (if a < m then k + 1 else k) → zPw w (a :: t) ≤ e a
theorem zInv_start {n : Nat} {w : Nat → Nat → Int} {U e : Nat → Int} (hU : ∀ a, a < n → 0 ≤ U a) (h : ∀ a, a < n → e a = 0) : zInv n w U 1 0 e := by
  refine ⟨fun a ha => by rw [h a ha]; exact ⟨Int.le_refl _, hU a ha⟩, fun a t hp hl => ?_⟩
  rw [if_neg (Nat.not_lt_zero _)] at hl
  cases t with
  | nil => rw [h a (hp.2 a List.mem_cons_self)]; exact Int.le_refl _
  | cons c t => simp at hl
theorem zInv_step {n : Nat} {w : Nat → Nat → Int} {U e : Nat → Int} {k m : Nat} (hfix : ∀ a c, a < n → c < n → w a c + U c ≤ U a) (hk : 1 ≤ k) (hm : m < n) (h : zInv n w U k m e) : zInv n w U k (m + 1) (uZ e m (zBor w e m n)) := by
  obtain ⟨h1, h2⟩ := h
  obtain ⟨g1, g2⟩ := zBor_ge w e m n
  have gu : 0 ≤ zBor w e m n ∧ zBor w e m n ≤ U m := zBor_b (h1 m hm) n (fun c hc => by
    have q1 := hfix m c hm hc
    have q2 := (h1 c hc).2
    omega)
  refine ⟨fun a ha => ?_, fun a t hp hl => ?_⟩
  · by_cases ham : a = m
    · rw [ham, uZ_s]; exact gu
    · rw [uZ_n _ _ ham]; exact h1 a ha
  · by_cases ham : a = m
    · subst ham
      rw [uZ_s]
      cases t with
      | nil => show (0 : Int) ≤ _; exact gu.1
      | cons c t =>
        obtain ⟨-, -, hpc⟩ := zPath_cons.mp hp
        have hcn := hpc.2 c List.mem_cons_self
        have q1 := h2 c t hpc (by
          rw [if_pos (by omega)] at hl
          have hl2 : (c :: t).length ≤ k := by simpa using hl
          split <;> omega)
        have q2 := g2 c hcn
        show w a c + zPw w (c :: t) ≤ _
        omega
    · rw [uZ_n _ _ ham]
      refine h2 a t hp ?_
      by_cases q : a < m
      · rw [if_pos q]; rw [if_pos (by omega)] at hl; exact hl
      · rw [if_neg q]; rw [if_neg (by omega)] at hl; exact hl
theorem zInv_round {n : Nat} {w : Nat → Nat → Int} {U e : Nat → Int} {k m : Nat} (hm : n ≤ m) (h : zInv n w U k m e) : zInv n w U (k + 1) 0 e := by
  refine ⟨h.1, fun a t hp hl => h.2 a t hp ?_⟩
  rw [if_neg (Nat.not_lt_zero _)] at hl
  rw [if_pos (Nat.lt_of_lt_of_le (hp.2 a List.mem_cons_self) hm)]
  exact hl
theorem zInv_end {n : Nat} {w : Nat → Nat → Int} {U e : Nat → Int} {k : Nat} (hU : zIsB n w U) (hk : n ≤ k) (h : zInv n w U k 0 e) : zIsB n w e := by
  intro a ha
  obtain ⟨t, ht, e1⟩ := (hU a ha).1
  have h1 := h.2 a t ht (by rw [if_neg (Nat.not_lt_zero _)]; exact Nat.le_trans (zPath_len n _ ht) hk)
  have h2 := (h.1 a ha).2
  have e2 : e a = U a := by omega
  rw [e2]
  exact hU a ha
theorem zSum_b {f : Nat → Int} {M : Int} : ∀ n, (∀ j, j < n → 0 ≤ f j ∧ f j ≤ M) → 0 ≤ zSum f n ∧ zSum f n ≤ M * n
  | 0, _ => by show (0 : Int) ≤ 0 ∧ (0 : Int) ≤ M * ((0 : Nat) : Int); simp
  | n + 1, h => by
    have h1 := zSum_b n (fun j hj => h j (by omega))
    have h2 := h n (by omega)
    show 0 ≤ zSum f n + f n ∧ zSum f n + f n ≤ M * ((n + 1 : Nat) : Int)
    have h3 : M * ((n + 1 : Nat) : Int) = M * (n : Int) + M := by push_cast; rw [Int.mul_add, Int.mul_one]
    omega
/-! what is left over -/
def zLeft (wo rc : Int) (fr : Nat → Int) (n : Nat) : Int := wo - rc - zSum fr n
def zShare (n : Nat) (left : Int) : Int := if 0 < left ∧ 0 < (n : Int) then left / (n : Int) else 0
def zPot (n : Nat) (left : Int) : Int := left - zShare n left * (n : Int)
/-! chains of envy -/
def zWe (b : Nat → Int) (g : Nat → Nat) (a c : Nat) : Int := if zEn b g a c then 1 else -1000
theorem zWe_1 (b : Nat → Int) (g : Nat → Nat) (a c : Nat) : zWe b g a c ≤ 1 := by unfold zWe; split <;> omega
theorem zWe_path (b : Nat → Int) (g : Nat → Nat) : ∀ (t : List Nat) (a z : Nat), (a :: t).getLast? = some z → (zPw (zWe b g) (a :: t) = t.length ∧ (t.length : Int) ≤ zPw (zWt b g) (a :: t) + b (z * 6 + g z) - b (a * 6 + g a)) ∨ zPw (zWe b g) (a :: t) ≤ -1000 + (t.length : Int)
  | [], a, z, hz => by
    have : a = z := by simpa using hz
    subst this
    refine Or.inl ⟨rfl, ?_⟩
    show (0 : Int) ≤ 0 + b (a * 6 + g a) - b (a * 6 + g a)
    omega
  | c :: t, a, z, hz => by
    have hz2 : (c :: t).getLast? = some z := by simpa using hz
    have e0 : zPw (zWe b g) (a :: c :: t) = zWe b g a c + zPw (zWe b g) (c :: t) := rfl
    have e1 : zPw (zWt b g) (a :: c :: t) = zWt b g a c + zPw (zWt b g) (c :: t) := rfl
    have e2 : ((c :: t).length : Int) = (t.length : Int) + 1 := by simp
    have h1 := zWe_1 b g a c
    rw [e0, e1, e2]
    rcases zWe_path b g t c z hz2 with ⟨q1, q2⟩ | q
    · by_cases h : zEn b g a c
      · left
        have e3 : zWe b g a c = 1 := if_pos h
        have e4 : zWt b g a c = b (a * 6 + g c) - b (c * 6 + g c) := rfl
        have h5 : b (a * 6 + g a) < b (a * 6 + g c) := h
        omega
      · right
        have e3 : zWe b g a c = -1000 := if_neg h
        omega
    · right
      omega
theorem zWe_noC {n : Nat} {b : Nat → Int} (hn : n ≤ 6) : zNoC n (zWe b (zRo n b)) := by
  intro c z t hp hz
  have h0 := zWt_noC (b := b) hn c z t hp hz
  have hl := zPath_len n _ hp
  have hl2 : t.length + 1 ≤ n := by simpa using hl
  have h1 := zWe_1 b (zRo n b) z c
  rcases zWe_path b (zRo n b) t c z hz with ⟨q1, q2⟩ | q
  · by_cases h : zEn b (zRo n b) z c
    · exfalso
      have e4 : zWt b (zRo n b) z c = b (z * 6 + zRo n b c) - b (c * 6 + zRo n b c) := rfl
      have h5 : b (z * 6 + zRo n b z) < b (z * 6 + zRo n b c) := h
      omega
    · have e3 : zWe b (zRo n b) z c = -1000 := if_neg h
      omega
  · omega
def zIsL (n : Nat) (b : Nat → Int) (g : Nat → Nat) (L : Nat → Int) : Prop := (∀ a, a < n → 1 ≤ L a ∧ L a ≤ n) ∧ (∀ a c, a < n → c < n → zEn b g a c → L c + 1 ≤ L a) ∧ ∀ a, a < n → L a = 1 ∨ ∃ c, c < n ∧ zEn b g a c ∧ L a = L c + 1
theorem zWe_pw (b : Nat → Int) (g : Nat → Nat) : ∀ (t : List Nat) (a : Nat), zPw (zWe b g) (a :: t) ≤ t.length
  | [], a => Int.le_refl _
  | c :: t, a => by
    have h1 := zWe_1 b g a c
    have h2 := zWe_pw b g t c
    show zWe b g a c + zPw (zWe b g) (c :: t) ≤ (((c :: t).length : Nat) : Int)
    have e2 : ((c :: t).length : Int) = (t.length : Int) + 1 := by simp
    omega
theorem zL_ex {n : Nat} {b : Nat → Int} (hn : n ≤ 6) : ∃ L, zIsL n b (zRo n b) L := by
  obtain ⟨B, hB⟩ := zIsB_ex (n := n) (w := zWe b (zRo n b)) (M := 1) (by decide) (fun a c _ _ => zWe_1 _ _ a c)
  have hb : ∀ a, a < n → 0 ≤ B a ∧ B a + 1 ≤ n := by
    intro a ha
    obtain ⟨t, ht, e⟩ := (hB a ha).1
    have h1 := zWe_pw b (zRo n b) t a
    have h2 := zPath_len n _ ht
    have h3 := zIsB_nn hB ha
    have h4 : t.length + 1 ≤ n := by simpa using h2
    omega
  refine ⟨fun a => B a + 1, fun a ha => by have := hb a ha; show 1 ≤ B a + 1 ∧ B a + 1 ≤ n; omega, fun a c ha hc h => ?_, fun a ha => ?_⟩
  · show B c + 1 + 1 ≤ B a + 1
    have h1 := zIsB_fix (zWe_noC hn) hB ha hc
    have e3 : zWe b (zRo n b) a c = 1 := if_pos h
    omega
  · show B a + 1 = 1 ∨ ∃ c, c < n ∧ zEn b (zRo n b) a c ∧ B a + 1 = B c + 1 + 1
    obtain ⟨t, ht, e⟩ := (hB a ha).1
    cases t with
    | nil =>
      left
      have : (0 : Int) = B a := e
      omega
    | cons c t =>
      right
      have hpc := (zPath_cons.mp ht).2.2
      have hc := hpc.2 c List.mem_cons_self
      have h1 := (hB c hc).2 t hpc
      have h2 : zWe b (zRo n b) a c + zPw (zWe b (zRo n b)) (c :: t) = B a := e
      have h3 := zIsB_fix (zWe_noC hn) hB ha hc
      have h4 := hb a ha
      have h5 := hb c hc
      by_cases h : zEn b (zRo n b) a c
      · have e3 : zWe b (zRo n b) a c = 1 := if_pos h
        exact ⟨c, hc, h, by omega⟩
      · have e3 : zWe b (zRo n b) a c = -1000 := if_neg h
        omega
theorem zLc_ge {b : Nat → Int} {g : Nat → Nat} {ch : Nat → Int} {a : Nat} : ∀ m, 1 ≤ zLc b g ch a m ∧ ∀ c, c < m → zEn b g a c → ch c + 1 ≤ zLc b g ch a m
  | 0 => ⟨Int.le_refl _, fun c hc => absurd hc (Nat.not_lt_zero _)⟩
  | m + 1 => by
    obtain ⟨h1, h2⟩ := zLc_ge (b := b) (g := g) (ch := ch) (a := a) m
    show 1 ≤ (if zEn b g a m then max (zLc b g ch a m) (ch m + 1) else zLc b g ch a m) ∧ ∀ c, c < m + 1 → zEn b g a c → ch c + 1 ≤ (if zEn b g a m then max (zLc b g ch a m) (ch m + 1) else zLc b g ch a m)
    by_cases h : zEn b g a m
    · rw [if_pos h]
      refine ⟨by omega, fun c hc hE => ?_⟩
      by_cases e : c = m
      · rw [e]; omega
      · have := h2 c (by omega) hE; omega
    · rw [if_neg h]
      refine ⟨h1, fun c hc hE => ?_⟩
      by_cases e : c = m
      · rw [e] at hE; exact absurd hE h
      · exact h2 c (by omega) hE
theorem zLc_le {b : Nat → Int} {g : Nat → Nat} {ch : Nat → Int} {a : Nat} {M : Int} (hM : 1 ≤ M) : ∀ m, (∀ c, c < m → zEn b g a c → ch c + 1 ≤ M) → zLc b g ch a m ≤ M
  | 0, _ => hM
  | m + 1, h => by
    have h1 := zLc_le hM m (fun c hc => h c (by omega))
    show (if zEn b g a m then max (zLc b g ch a m) (ch m + 1) else zLc b g ch a m) ≤ M
    by_cases q : zEn b g a m
    · rw [if_pos q]; have := h m (by omega) q; omega
    · rw [if_neg q]; exact h1
def zChI (n : Nat) (L : Nat → Int) (k m : Nat) (ch : Nat → Int) : Prop := ∀ a, a < n → 1 ≤ ch a ∧ ch a ≤ L a ∧ min (L a) (if a < m then (k : Int) + 1 else (k : Int)) ≤ ch a
theorem zChI_step {n : Nat} {b : Nat → Int} {g : Nat → Nat} {L ch : Nat → Int} {k m : Nat} (hL : zIsL n b g L) (hm : m < n) (h : zChI n L k m ch) : zChI n L k (m + 1) (uZ ch m (zLc b g ch m n)) := by
  obtain ⟨g1, g2⟩ := zLc_ge (b := b) (g := g) (ch := ch) (a := m) n
  have g3 : zLc b g ch m n ≤ L m := zLc_le (hL.1 m hm).1 n (fun c hc hE => by
    have q1 := hL.2.1 m c hm hc hE
    have q2 := (h c hc).2.1
    omega)
  intro a ha
  by_cases ham : a = m
  · subst ham
    rw [uZ_s, if_pos (by omega)]
    refine ⟨g1, g3, ?_⟩
    rcases hL.2.2 a hm with q | ⟨c, hc, hE, q⟩
    · omega
    · have q1 := g2 c hc hE
      have q2 := (h c hc).2.2
      by_cases hca : c < a
      · rw [if_pos hca] at q2; omega
      · rw [if_neg hca] at q2; omega
  · rw [uZ_n _ _ ham]
    obtain ⟨q1, q2, q3⟩ := h a ha
    refine ⟨q1, q2, ?_⟩
    by_cases q : a < m
    · rw [if_pos q] at q3; rw [if_pos (by omega)]; exact q3
    · rw [if_neg q] at q3; rw [if_neg (by omega)]; exact q3
theorem zChI_round {n : Nat} {L ch : Nat → Int} {k m : Nat} (hm : n ≤ m) (h : zChI n L k m ch) : zChI n L (k + 1) 0 ch := by
  intro a ha
  obtain ⟨q1, q2, q3⟩ := h a ha
  rw [if_pos (by omega)] at q3
  refine ⟨q1, q2, ?_⟩
  rw [if_neg (Nat.not_lt_zero _)]
  push_cast
  exact q3
theorem zChI_start {n : Nat} {b : Nat → Int} {g : Nat → Nat} {L ch : Nat → Int} (hL : zIsL n b g L) (h : ∀ a, a < n → ch a = 1) : zChI n L 1 0 ch := by
  intro a ha
  have := (hL.1 a ha).1
  rw [h a ha, if_neg (Nat.not_lt_zero _)]
  omega
theorem zChI_end {n : Nat} {b : Nat → Int} {g : Nat → Nat} {L ch : Nat → Int} {k : Nat} (hL : zIsL n b g L) (hk : n ≤ k) (h : zChI n L k 0 ch) : ∀ a, a < n → ch a = L a := by
  intro a ha
  obtain ⟨q1, q2, q3⟩ := h a ha
  have := (hL.1 a ha).2
  rw [if_neg (Nat.not_lt_zero _)] at q3
  omega
def zMx (f : Nat → Int) : Nat → Int
  | 0 => 0
  | m + 1 => max (zMx f m) (f m)
theorem zMx_congr {f g : Nat → Int} : ∀ n, (∀ i, i < n → f i = g i) → zMx f n = zMx g n
  | 0, _ => rfl
  | n + 1, h => by
    show max (zMx f n) (f n) = max (zMx g n) (g n)
    rw [zMx_congr n (fun i hi => h i (by omega)), h n (by omega)]
theorem zMx_b {f : Nat → Int} {M : Int} (hM : 0 ≤ M) : ∀ n, (∀ i, i < n → f i ≤ M) → 0 ≤ zMx f n ∧ zMx f n ≤ M
  | 0, _ => ⟨Int.le_refl _, hM⟩
  | n + 1, h => by
    have h1 := zMx_b hM n (fun i hi => h i (by omega))
    have h2 := h n (by omega)
    show 0 ≤ max (zMx f n) (f n) ∧ max (zMx f n) (f n) ≤ M
    omega
theorem zIsL_un {n : Nat} {b : Nat → Int} {g : Nat → Nat} {L : Nat → Int} (hL : zIsL n b g L) {a : Nat} (ha : a < n) : 1 ≤ L a ∧ L a ≤ n := hL.1 a ha
