/-! the trees of the code -/
