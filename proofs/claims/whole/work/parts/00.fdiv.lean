/-! The quotient of two ints, the lower one positive, is not NaN (names of the whole library: it stands first, so that the first round reads all parts over it). -/
theorem fq_div {x y : Int32} (hy : 0 < y.toInt) : FP.fIsNaN (FP.fdiv (FP.i2f x) (FP.i2f y)) = false := by
  rw [FP.fIsNaN_core, FP.fdiv_core, FP.i2f_core]
  have hn : FP.Core.fIsNaN (FP.Core.i2f x) = false := by
    cases h : FP.Core.fIsNaN (FP.Core.i2f x) with
    | false => rfl
    | true =>
      have h1 := (FP.Core.isNaN_bits32 _).mp h
      have h2 := FP.Core.i2f_mag x
      omega
  refine FP.Core.fdiv_out hn (FP.Core.i2f_fin y) (fun hz => ?_)
  have hb := FP.Core.i2f_big (v := y) (by omega)
  have h3 := (FP.Core.zero_bits232 (FP.Core.i2f y)).mp hz
  omega
