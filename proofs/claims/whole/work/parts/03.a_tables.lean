abbrev cls12 : List vw_C := [(RX0, TX0, 16), (RX1, TX1, 5), (RX2, TX2, 3), (RX3, TX3, 3), (RX4, TX4, 6), (RX5, TX5, 1), (RX6, TX6, 3), (RX7, TX7, 9), (RX8, TX8, 8), (RX10, TX10, 15), (RX11, TX11, 29)]
def FT : List (List Nat) := [[0, 13, 10, 0, 10, 10, 10, 11, 0, 13, 10, 10, 0, 10, 6, 2], [0, 15, 10, 10, 10], [0, 10, 10], [10, 10, 0], [14, 0, 0, 14, 14, 0], [10], [2, 0, 0], [0, 0, 0, 0, 10, 10, 10, 10, 10], [12, 0, 0, 0, 0, 1, 5, 0], [2, 2, 3, 3, 4, 4, 2, 2, 2, 2, 10, 10, 2, 14, 14], [0, 10, 0, 0, 10, 10, 13, 0, 0, 13, 10, 10, 10, 0, 13, 13, 10, 10, 0, 0, 0, 10, 10, 10, 10, 0, 11, 10, 1]]
def LN : List (List Nat) := [[0, 7, 7, 0, 8, 8, 8, 8, 0, 4, 4, 4, 0, 12, 0, 0], [0, 40, 40, 40, 40], [0, 8, 8], [1000, 24, 0], [17, 0, 0, 4, 4, 0], [7], [0, 0, 0], [0, 0, 0, 0, 4, 4, 4, 8, 7], [1000, 0, 0, 0, 0, 0, 0, 0], [0, 0, 0, 0, 0, 0, 0, 0, 0, 0, 8, 8, 0, 4, 4], [0, 1000, 0, 0, 1002, 1002, 1002, 0, 0, 28, 140, 2200, 2200, 0, 11, 11, 11, 11, 0, 0, 0, 330, 4, 1100, 1104, 0, 4, 7, 0]]
def CN : List Nat := [2, 2, 5, 2, 1, 9, 1, 23, 1, 1, 1]
def NS : List Nat := [16, 5, 3, 3, 6, 1, 3, 9, 8, 15, 29]
/-- a constant reference in slot k of the i-th object of class c -/
def fref (c k i : Nat) : Nat × Nat :=
  cond (Nat.beq (32 * c + k) 15) (3, i) <|
  cond (Nat.beq (32 * c + k) 192) (8, 0) <|
  cond (Nat.beq (32 * c + k) 288) (8, 0) <|
  cond (Nat.beq (32 * c + k) 289) (6, 0) <|
  cond (Nat.beq (32 * c + k) 294) (7, 0) <|
  cond (Nat.beq (32 * c + k) 295) (7, 1) <|
  cond (Nat.beq (32 * c + k) 296) (4, 0) <|
  cond (Nat.beq (32 * c + k) 297) (2, 0) <|
  cond (Nat.beq (32 * c + k) 300) (5, 0) <|
  (0, 0)
/-- what an array of constant references holds -/
def rcon (f k : Nat) : Nat × Nat :=
  cond (Nat.beq f 160) (7, k + 2) <|
  cond (Nat.beq f 163) (7, k + 19) <|
  cond (Nat.beq f 164) (2, k + 1) <|
  cond (Nat.beq f 333) (5, k + 1) <|
  cond (Nat.beq f 334) (5, k + 5) <|
  (0, 0)
/-- the class of an array of references, by its kind: 4 State 5 Finds 6 Paths 7 Word -/
def acls (f : Nat) : Nat :=
  cond (Nat.beq f 160) 4 <|
  cond (Nat.beq f 163) 4 <|
  cond (Nat.beq f 164) 5 <|
  cond (Nat.beq f 333) 6 <|
  cond (Nat.beq f 334) 6 <|
  7
