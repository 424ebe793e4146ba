/-! the last part -/
theorem zz_end : True := trivial
