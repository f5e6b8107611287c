/-! The quotient of two ints, the lower one positive, is a number. -/
theorem fq_32 {r : UInt32} (h : FP.fIsNaN r = false) : vf_n32 r := by
  have h1 : ¬ 2139095040 < r.toNat % 2 ^ 31 := fun g => by
    have h2 := (FP.Core.isNaN_bits32 r).mpr g
    rw [FP.fIsNaN_core] at h
    rw [h] at h2
    cases h2
  show (r &&& 0x7fffffff).toNat ≤ 2139095040
  rw [UInt32.toNat_and, show (0x7fffffff : UInt32).toNat = 2 ^ 31 - 1 from rfl, Nat.and_two_pow_sub_one_eq_mod]
  omega
theorem fq_64 {r : UInt64} (h : FP.dIsNaN r = false) : vf_n64 r := by
  have h1 : ¬ 9218868437227405312 < r.toNat % 2 ^ 63 := fun g => by
    have h2 := (FP.Core.isNaN_bits r).mpr g
    rw [FP.dIsNaN_core] at h
    rw [h] at h2
    cases h2
  show (r &&& 0x7fffffffffffffff).toNat ≤ 9218868437227405312
  rw [UInt64.toNat_and, show (0x7fffffffffffffff : UInt64).toNat = 2 ^ 63 - 1 from rfl, Nat.and_two_pow_sub_one_eq_mod]
  omega
theorem fq_self {a : UInt64} (h : FP.dIsNaN a = false) : FP.dcmp a a = some .eq := by
  rw [FP.dcmp_core]
  refine FP.Core.dcmp_self (fun g => ?_)
  rw [FP.dIsNaN_core] at h
  have h1 := (FP.Core.isNaN_bits a)
  have : FP.Core.dIsNaN a = true := by
    show decide _ = true
    exact decide_eq_true g
  rw [this] at h
  cases h
theorem fq_all (x y : Int32) (hy : 0 < y.toInt) : vf_n32 (FP.fdiv (FP.i2f x) (FP.i2f y)) ∧ vf_n64 (FP.f2d (FP.fdiv (FP.i2f x) (FP.i2f y))) ∧ FP.dcmp (FP.f2d (FP.fdiv (FP.i2f x) (FP.i2f y))) (FP.f2d (FP.fdiv (FP.i2f x) (FP.i2f y))) = some .eq := by
  have h1 := fq_div (x := x) hy
  have h2 : FP.dIsNaN (FP.f2d (FP.fdiv (FP.i2f x) (FP.i2f y))) = false := by rw [FP.f2d_nan]; exact h1
  exact ⟨fq_32 h1, fq_64 h2, fq_self h2⟩
theorem fq_law : ∀ x y : Int32, 0 < y.toInt → vf_n32 (FP.fdiv (FP.i2f x) (FP.i2f y)) ∧ vf_n64 (FP.f2d (FP.fdiv (FP.i2f x) (FP.i2f y))) ∧ Op.cmpValue (FP.dcmp (FP.f2d (FP.fdiv (FP.i2f x) (FP.i2f y))) (FP.f2d (FP.fdiv (FP.i2f x) (FP.i2f y)))) .l = ii_n 0 := by
  intro x y hy
  obtain ⟨h1, h2, h3⟩ := fq_all x y hy
  refine ⟨h1, h2, ?_⟩
  rw [h3]
  rfl
