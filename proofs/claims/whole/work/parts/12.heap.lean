/-! THE HEAP of the law: the class's cells 1 to 35, the reference's 36 to 52, behind them the states that keep() makes -/
def upA (A : Nat → Nat → Int32) (a : Nat) (f : Nat → Int32) : Nat → Nat → Int32 := fun i => bif Nat.beq i a then f else A i
def upV (V : Nat → Nat → Int32) (a k : Nat) (x : Int32) : Nat → Nat → Int32 := fun i j => bif Nat.beq i a && Nat.beq j k then x else V i j
def hp (L : Nat) (xs : Nat → Int32) (A V : Nat → Nat → Int32) (K : Nat → Option Nat) (T : am_H) : am_H :=
  .inl (0, L, .inl xs) ::
  .inr (8, [.ref 2, .ref 18, .int (V 1 2), .ref 19, .ref 21, .ref 25, .ref 26, .ref 30, .ref 34]) ::
  .inr (6, [.ref 3, .ref 5, .ref 7, .ref 9, .ref 10, .int (V 2 5)]) ::
  .inr (1, [.ref 4]) ::
  .inl (0, 1080, .inl (A 4)) ::
  .inr (1, [.ref 6]) ::
  .inl (0, 1080, .inl (A 6)) ::
  .inr (1, [.ref 8]) ::
  .inl (0, 1080, .inl (A 8)) ::
  .inl (0, 1080, .inl (A 9)) ::
  .inr (4, [.ref 11, .ref 12, .ref 13, .ref 14, .ref 15, .ref 16, .ref 17, .int (V 10 7)]) ::
  .inl (0, 6, .inl (A 11)) ::
  .inl (0, 6, .inl (A 12)) ::
  .inl (0, 18, .inl (A 13)) ::
  .inl (0, 6, .inl (A 14)) ::
  .inl (0, 6, .inl (A 15)) ::
  .inl (0, 6, .inl (A 16)) ::
  .inl (0, 36, .inl (A 17)) ::
  .inl (3, 8, .inr (.inr (.inr (.inr K)))) ::
  .inr (7, [.ref 20, .int (V 19 1)]) ::
  .inl (0, 320, .inl (A 20)) ::
  .inr (2, [.ref 20, .ref 22, .ref 23, .ref 24, .int (V 21 4), .int (V 21 5), .int (V 21 6), .int (V 21 7)]) ::
  .inl (0, 80, .inl (A 22)) ::
  .inl (0, 80, .inl (A 23)) ::
  .inl (0, 80, .inl (A 24)) ::
  .inr (5, [.int (V 25 0), .int (V 25 1), .int (V 25 2)]) ::
  .inr (0, [.ref 2, .ref 10, .ref 27, .ref 28, .ref 29]) ::
  .inl (0, 18, .inl (A 27)) ::
  .inl (0, 18, .inl (A 28)) ::
  .inl (0, 18, .inl (A 29)) ::
  .inr (3, [.ref 10, .ref 31, .ref 32, .ref 33, .int (V 30 4), .int (V 30 5)]) ::
  .inl (0, 1081, .inl (A 31)) ::
  .inl (0, 1080, .inl (A 32)) ::
  .inl (0, 721, .inl (A 33)) ::
  .inr (1, [.ref 35]) ::
  .inl (0, 1080, .inl (A 35)) ::
  .inr (9, [.ref 37, .ref 38, .ref 39, .ref 40, .ref 41, .int (V 36 5), .ref 42, .int (V 36 7), .int (V 36 8), .int (V 36 9), .int (V 36 10), .int (V 36 11), .ref 43, .int (V 36 13), .int (V 36 14), .int (V 36 15), .int (V 36 16), .ref 44, .ref 45, .ref 46, .ref 47, .ref 48, .ref 49, .int (V 36 23), .ref 50, .ref 51, .ref 52]) ::
  .inl (0, 1080, .inl (A 37)) ::
  .inl (0, 1080, .inl (A 38)) ::
  .inl (0, 1080, .inl (A 39)) ::
  .inl (0, 1080, .inl (A 40)) ::
  .inl (0, 258, .inl (A 41)) ::
  .inl (1, 320, .inl (A 42)) ::
  .inl (0, 240, .inl (A 43)) ::
  .inl (0, 4, .inl (A 44)) ::
  .inl (0, 1080, .inl (A 45)) ::
  .inl (0, 1080, .inl (A 46)) ::
  .inl (0, 54, .inl (A 47)) ::
  .inl (0, 1081, .inl (A 48)) ::
  .inl (0, 7, .inl (A 49)) ::
  .inl (0, 8640, .inl (A 50)) ::
  .inl (0, 2064, .inl (A 51)) ::
  .inl (2, 8, .inl (A 52)) :: T
