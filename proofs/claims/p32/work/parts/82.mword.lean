/-! the model: word, code, classes, ring -/
def cmM (p n : Nat) : Nat := ctn (fun k => decide (lsM p n k = k)) n
