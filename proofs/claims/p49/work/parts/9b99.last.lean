/-! the last part: nothing is left -/
theorem zz_last : True := trivial
