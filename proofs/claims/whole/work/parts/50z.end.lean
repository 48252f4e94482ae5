/-! end of the law's names -/
theorem ln_end : True := trivial
