/-! Latest: take -/
def nbE (n : Nat) (bt : Nat → Int) : Nat → Int := fun j => if j < n then bt j else 0
def rsE (m : Int) (dg : Nat) (mk : Nat → Int) : Nat → (Nat → Int) → (Nat → Int)
  | 0, row => row
  | k + 1, row => rsE m dg mk k (lmE m dg mk (dg + k) row)
def ofE (lf : Nat → Int) (i : Nat) : Int := if ∀ j, j < i → lf j = 0 then 0 else 1
def mdsE (m : Int) (dg n : Nat) (mk lf : Nat → Int) : Int × Int × Int := if ofE lf dg = 1 then moE m dg mk lf n 0 oneC (0, -1, -1) else (0, -1, -1)
theorem QE.mono {d mc ms : Nat} {M : MT} {as : List LV} {F : HF} {A : HA} {al : AL} {Post : PO} (h : QE d mc ms M as F A al Post) {Post2 : PO} (e : Post = Post2) : QE d mc ms M as F A al Post2 := e ▸ h
