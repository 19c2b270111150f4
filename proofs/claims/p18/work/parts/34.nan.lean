/-! p18: the mean of whole numbers is no NaN -/
theorem qNan {p q : Int32} (hq : q ≠ 0) : (FP.ddiv (FP.i2d p) (FP.i2d q)).toNat % 2 ^ 63 ≤ 9218868437227405312 := by
  have h := FP.Core.not_true (FP.Core.ddiv_nan_iff (FP.Core.i2d p) (FP.Core.i2d q)) (by
    rintro (h | h | ⟨s, t, h, h2⟩ | ⟨h, h2⟩)
    · exact (FP.Core.notNaN_iff _).mp (FP.Core.i2d_fin p).notNaN h
    · exact (FP.Core.notNaN_iff _).mp (FP.Core.i2d_fin q).notNaN h
    · exact (FP.Core.i2d_fin p).ne_inf s h
    · exact FP.Core.i2d_ne_zero hq ((FP.Core.zero_bits2 _).mp h2))
  exact (FP.Core.ne_nan _).mp ((FP.Core.notNaN_iff _).mp h)
theorem qVf {p q : Int32} (hq : q ≠ 0) : vf_n64 (FP.ddiv (FP.i2d p) (FP.i2d q)) := by
  have h := qNan (p := p) hq
  unfold vf_n64
  rw [UInt64.le_iff_toNat_le, UInt64.toNat_and]
  show (FP.ddiv (FP.i2d p) (FP.i2d q)).toNat &&& (2 ^ 63 - 1) ≤ 9218868437227405312
  rw [Nat.and_two_pow_sub_one_eq_mod]
  exact h
theorem qN0 {n : Nat} (h1 : 1 ≤ n) (hn : n ≤ 5) : iI (n : Int) ≠ 0 := fun h => by
  have h2 := (iI_eq (a := (n : Int)) (b := 0) ⟨by omega, by omega⟩ zB_0).mp h
  omega
theorem qCmp {p q : Int32} (hq : q ≠ 0) (o : CmpOp) : Op.cmpValue (FP.dcmp (FP.ddiv (FP.i2d p) (FP.i2d q)) (FP.ddiv (FP.i2d p) (FP.i2d q))) o = 0 := by
  have h := qNan (p := p) hq
  have e : FP.dcmp (FP.ddiv (FP.i2d p) (FP.i2d q)) (FP.ddiv (FP.i2d p) (FP.i2d q)) = some .eq := FP.Core.dcmp_self ((FP.Core.ne_nan _).mpr h)
  rw [e]
  rfl
