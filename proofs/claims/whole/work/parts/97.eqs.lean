theorem eqs : EQs := sorry
