/-! the last part: small -/
theorem zz_end : True := trivial
