/-! a name of the whole library, so that a new machine reads this claim over the whole of it from its first part on -/
theorem zz_wide : True := by
  have _h := @FP.Core.mag_le
  trivial
