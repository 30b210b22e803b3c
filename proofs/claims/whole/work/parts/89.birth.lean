/-! ===== the two constructors, run ===== -/
def b0 : a_H := ([.inl (8, a_dflt 8)], a_row (fun _ _ => 0) 0 (fun _ => 0))
def r1 : Option (Option Value × a_H) := arun none 3000 mX8_init 0 (a_loc mX8_init [.ref 0]) [] b0
def b1 : a_H := match r1 with
  | some (_, h) => h
  | none => b0
def isN (o : Option (Option Value × a_H)) : Bool := match o with
  | some (none, _) => true
  | _ => false
def b2 : a_H := (b1.1 ++ [.inl (9, a_dflt 9)], a_row b1.2 77 (fun _ => 0))
def r2 : Option (Option Value × a_H) := arun none 6000 mX9_init 0 (a_loc mX9_init [.ref 77]) [] b2
def b3 : a_H := match r2 with
  | some (_, h) => h
  | none => b0
def bT : List (Nat × Nat × Nat × Int32) := [(1, 0, 1, 16), (1, 1, 1, 8), (1, 2, 1, 3), (1, 3, 1, 10), (1, 4, 1, 60), (1, 5, 2, 0), (2, 0, 16, 1), (3, 0, 8, 0), (15, 1, 3, 0), (15, 9, 1, 0), (20, 0, 6, 0), (21, 0, 128, 0), (22, 0, 128, 0), (23, 1, 1, 0), (32, 1, 1, 0), (71, 1, 1, 0), (72, 0, 128, 0), (73, 0, 128, -2), (13, 1, 1, 0), (13, 5, 1, -1), (45, 0, 20, 0), (46, 0, 20, 0), (63, 0, 20, 0), (64, 0, 20, 0), (69, 0, 20, 0), (70, 0, 20, 0), (80, 0, 1, 16), (80, 1, 1, 8), (80, 2, 1, 3), (80, 3, 1, 10), (80, 4, 1, 60), (77, 5, 1, 0), (77, 9, 1, 0), (81, 0, 16, 1), (82, 0, 128, 0), (78, 180, 2, 0), (78, 190, 1, 0), (78, 182, 6, 0), (79, 0, 2, 0), (77, 26, 1, 0), (94, 0, 128, 0), (77, 13, 1, 0), (77, 18, 1, -1)]
def bOk (m : Nat → Nat → Int32) (q : Nat × Nat × Nat × Int32) : Bool := (List.range q.2.2.1).all fun i => decide (m q.1 (q.2.1 + i) = q.2.2.2)
theorem b_all : (isN r1 && decide (b1.1 = a_SH.take 77) && isN r2 && decide (b3.1 = a_SH) && bT.all (bOk b3.2)) = true := by decide +kernel
