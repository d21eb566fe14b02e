/-- the kinds of the fields of each class: 0 int, 1 long, 2 reference, 3 boolean. Written by gen.py -/
def dz_FT : List (List Nat) := [[2, 2, 0, 2, 2, 2], [0, 0, 0, 0, 0, 0, 2, 2, 2, 2, 2, 2], [2, 2, 2, 2, 0, 0, 0], [2, 2, 0, 0], [2, 2, 2, 0, 0, 0, 0], [2, 2, 2, 2, 2, 2, 2, 2, 2, 2, 2, 2, 2, 0, 0, 1, 1], [2, 0, 0, 2, 2, 2, 2, 2, 2, 2, 0, 1, 1, 0, 2, 0, 0, 0, 0, 2, 0, 0, 0, 3, 2, 2, 2, 2]]
def dz_ft (ci k : Nat) : Nat := (dz_FT.getD ci []).getD k 2
def dz_nf (ci : Nat) : Nat := (dz_FT.getD ci []).length
