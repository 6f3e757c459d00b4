/-! Latest: countMends, take -/
def miE (m : Int) (dg : Nat) (lf sf : Nat → Int) (i : Int) : Nat → Nat → Int × Int × Int → Int × Int × Int
  | 0, _, s => s
  | k + 1, v, s => miE m dg lf sf i k (v + 1) (if mdE m dg lf sf v then (s.1 + 1, if s.1 = 0 then i else s.2.1, if s.1 = 0 then (v : Int) else s.2.2) else s)
def moE (m : Int) (dg : Nat) (mk lf : Nat → Int) : Nat → Nat → (Nat → Int) → Int × Int × Int → Int × Int × Int
  | 0, _, _, s => s
  | k + 1, i, sf, s => moE m dg mk lf k (i + 1) (sfE m dg mk sf) (miE m dg lf sf i (m.toNat - 1) 1 s)
