/-! the clay -/
theorem q_dummy : True := trivial
