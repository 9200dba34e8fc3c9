/-! pairs that are still owed -/

