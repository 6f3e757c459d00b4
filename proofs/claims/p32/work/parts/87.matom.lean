/-! the model's reading: what is done, atoms, the whole -/
def upD (rs : Nat → Int) : Nat → Int := upc rs 25 (rs 25 - 1)
