def jX (f : Nat → Int32) (g : Nat → Nat → Int32) (n2 : Nat → Nat → Int64) (p : Nat → Nat → Int32) (pa : Nat → Nat → Nat → Int32) (s : Nat → Nat → Int32) (sa : Nat → Nat → Nat → Int32) (sw : Bool) (rp : Value) (t : List jE) : List jE :=
  .inr (10, [.ref 1, .int (f 0), .ref (bif sw then 24 else 5), .ref (bif sw then 5 else 24), .ref 43, .ref 49, .ref 55, .ref 61, .int (f 1), .ref 67, .ref 71, .ref 76, .ref 78]) ::
  .inr (5, [.ref 2, rp, .int (f 2), .int (f 3), .int (f 4), .int (f 5), .int (f 6), .int (f 7), .int (f 8)]) ::
  .inr (8, [.ref 3, .ref 4, .int (f 9), .int (f 10), .int (f 11), .int (f 12), .int (f 13)]) ::
  .inl (0, 700, .inl (g 0)) ::
  .inl (0, 22, .inl (g 1)) ::
  .inr (4, [.int (p 0 0), .int (p 0 1), .int (p 0 2), .ref 6, .int (p 0 3), .ref 7, .ref 8, .ref 9, .ref 10, .ref 11, .ref 12, .int (p 0 4), .int (p 0 5), .ref 13, .int (p 0 6), .int (p 0 7), .int (p 0 8), .int (p 0 9), .ref 14]) ::
  .inl (0, 30, .inl (pa 0 0)) ::
  .inl (0, 6, .inl (pa 0 1)) ::
  .inl (0, 6, .inl (pa 0 2)) ::
  .inl (0, 6, .inl (pa 0 3)) ::
  .inl (0, 6, .inl (pa 0 4)) ::
  .inl (0, 6, .inl (pa 0 5)) ::
  .inl (0, 6, .inl (pa 0 6)) ::
  .inl (0, 14, .inl (pa 0 7)) ::
  .inl (3, 3, .inr (.inr (.inr (.inr (fun i => jnth [15, 18, 21] i))))) ::
  .inr (1, [.int (p 0 10), .ref 16, .ref 17]) ::
  .inl (0, 64, .inl (pa 0 8)) ::
  .inl (0, 64, .inl (pa 0 9)) ::
  .inr (1, [.int (p 0 11), .ref 19, .ref 20]) ::
  .inl (0, 64, .inl (pa 0 10)) ::
  .inl (0, 64, .inl (pa 0 11)) ::
  .inr (1, [.int (p 0 12), .ref 22, .ref 23]) ::
  .inl (0, 64, .inl (pa 0 12)) ::
  .inl (0, 64, .inl (pa 0 13)) ::
  .inr (4, [.int (p 1 0), .int (p 1 1), .int (p 1 2), .ref 25, .int (p 1 3), .ref 26, .ref 27, .ref 28, .ref 29, .ref 30, .ref 31, .int (p 1 4), .int (p 1 5), .ref 32, .int (p 1 6), .int (p 1 7), .int (p 1 8), .int (p 1 9), .ref 33]) ::
  .inl (0, 30, .inl (pa 1 0)) ::
  .inl (0, 6, .inl (pa 1 1)) ::
  .inl (0, 6, .inl (pa 1 2)) ::
  .inl (0, 6, .inl (pa 1 3)) ::
  .inl (0, 6, .inl (pa 1 4)) ::
  .inl (0, 6, .inl (pa 1 5)) ::
  .inl (0, 6, .inl (pa 1 6)) ::
  .inl (0, 14, .inl (pa 1 7)) ::
  .inl (3, 3, .inr (.inr (.inr (.inr (fun i => jnth [34, 37, 40] i))))) ::
  .inr (1, [.int (p 1 10), .ref 35, .ref 36]) ::
  .inl (0, 64, .inl (pa 1 8)) ::
  .inl (0, 64, .inl (pa 1 9)) ::
  .inr (1, [.int (p 1 11), .ref 38, .ref 39]) ::
  .inl (0, 64, .inl (pa 1 10)) ::
  .inl (0, 64, .inl (pa 1 11)) ::
  .inr (1, [.int (p 1 12), .ref 41, .ref 42]) ::
  .inl (0, 64, .inl (pa 1 12)) ::
  .inl (0, 64, .inl (pa 1 13)) ::
  .inr (0, [.ref (bif sw then 24 else 5), .ref 44, .ref 46, .ref 47, .ref 48, .int (f 14), .int (f 15)]) ::
  .inr (9, [.int (f 16), .int (f 17), .int (f 18), .int (f 19), .int (f 20), .int (f 21), .int (f 22), .ref 45]) ::
  .inl (0, 9, .inl (g 2)) ::
  .inl (1, 7, .inr (.inl (n2 0))) ::
  .inl (1, 64, .inr (.inl (n2 1))) ::
  .inl (0, 6480, .inl (g 3)) ::
  .inr (6, [.int (s 0 0), .int (s 0 1), .ref 50, .ref 51, .ref 52, .ref 53, .ref 54, .int (s 0 2), .int (s 0 3), .int (s 0 4), .int (s 0 5)]) ::
  .inl (0, 30, .inl (sa 0 0)) ::
  .inl (0, 12, .inl (sa 0 1)) ::
  .inl (0, 6, .inl (sa 0 2)) ::
  .inl (0, 6, .inl (sa 0 3)) ::
  .inl (0, 6, .inl (sa 0 4)) ::
  .inr (6, [.int (s 1 0), .int (s 1 1), .ref 56, .ref 57, .ref 58, .ref 59, .ref 60, .int (s 1 2), .int (s 1 3), .int (s 1 4), .int (s 1 5)]) ::
  .inl (0, 30, .inl (sa 1 0)) ::
  .inl (0, 12, .inl (sa 1 1)) ::
  .inl (0, 6, .inl (sa 1 2)) ::
  .inl (0, 6, .inl (sa 1 3)) ::
  .inl (0, 6, .inl (sa 1 4)) ::
  .inr (6, [.int (s 2 0), .int (s 2 1), .ref 62, .ref 63, .ref 64, .ref 65, .ref 66, .int (s 2 2), .int (s 2 3), .int (s 2 4), .int (s 2 5)]) ::
  .inl (0, 30, .inl (sa 2 0)) ::
  .inl (0, 12, .inl (sa 2 1)) ::
  .inl (0, 6, .inl (sa 2 2)) ::
  .inl (0, 6, .inl (sa 2 3)) ::
  .inl (0, 6, .inl (sa 2 4)) ::
  .inr (7, [.int (f 23), .ref 68, .ref 69, .ref 70]) ::
  .inl (0, 20, .inl (g 4)) ::
  .inl (0, 20, .inl (g 5)) ::
  .inl (0, 20, .inl (g 6)) ::
  .inr (3, [.int (f 24), .int (f 25), .ref 72, .ref 73, .ref 74, .ref 75]) ::
  .inl (0, 24, .inl (g 7)) ::
  .inl (0, 24, .inl (g 8)) ::
  .inl (0, 24, .inl (g 9)) ::
  .inl (0, 24, .inl (g 10)) ::
  .inr (2, [.ref 77, .int (f 26), .int (f 27), .int (f 28), .int (f 29)]) ::
  .inl (0, 4, .inl (g 11)) ::
  .inl (0, 6, .inl (g 12)) :: t
def jY (f : Nat → Int32) (g : Nat → Nat → Int32) (n : Nat → Nat → Int64) (b : Nat → Nat → Int32) (l : Nat → Int64) (t : List jE) : List jE :=
  .inr (11, [.int (f 0), .ref 80, .int (f 1), .ref 81, .ref 82, .ref 83, .ref 84, .ref 85, .ref 86, .ref 87, .ref 88, .ref 89, .ref 90, .ref 91, .ref 92, .ref 93, .int (f 2), .int (f 3), .int (f 4), .int (f 5), .int (f 6), .int (f 7), .int (f 8), .int (f 9), .int (f 10), .int (f 11), .int (f 12), .int (f 13), .int (f 14), .ref 94, .ref 95, .int (f 15), .ref 96, .ref 97, .ref 98, .ref 99, .ref 100, .ref 101, .ref 102, .ref 103, .ref 104, .ref 105, .ref 106, .ref 107, .int (f 16), .int (f 17), .int (f 18), .int (f 19), .int (f 20), .int (f 21), .int (f 22), .ref 108, .ref 109, .long (l 0), .long (l 1), .long (l 2), .long (l 3), .ref 110, .ref 111, .int (f 23), .int (f 24), .ref 112, .ref 113, .ref 114, .ref 115, .ref 116, .ref 117]) ::
  .inl (0, 700, .inl (g 0)) ::
  .inl (0, 22, .inl (g 1)) ::
  .inl (0, 60, .inl (g 2)) ::
  .inl (0, 12, .inl (g 3)) ::
  .inl (0, 12, .inl (g 4)) ::
  .inl (0, 12, .inl (g 5)) ::
  .inl (0, 12, .inl (g 6)) ::
  .inl (0, 12, .inl (g 7)) ::
  .inl (0, 12, .inl (g 8)) ::
  .inl (0, 28, .inl (g 9)) ::
  .inl (0, 6, .inl (g 10)) ::
  .inl (0, 6, .inl (g 11)) ::
  .inl (0, 128, .inl (g 12)) ::
  .inl (0, 128, .inl (g 13)) ::
  .inl (1, 7, .inr (.inl (n 0))) ::
  .inl (1, 64, .inr (.inl (n 1))) ::
  .inl (0, 23, .inl (g 14)) ::
  .inl (0, 23, .inl (g 15)) ::
  .inl (0, 23, .inl (g 16)) ::
  .inl (0, 23, .inl (g 17)) ::
  .inl (0, 23, .inl (g 18)) ::
  .inl (0, 23, .inl (g 19)) ::
  .inl (0, 690, .inl (g 20)) ::
  .inl (0, 276, .inl (g 21)) ::
  .inl (0, 138, .inl (g 22)) ::
  .inl (0, 138, .inl (g 23)) ::
  .inl (0, 138, .inl (g 24)) ::
  .inl (0, 10, .inl (g 25)) ::
  .inl (0, 6, .inl (g 26)) ::
  .inl (0, 4, .inl (g 27)) ::
  .inl (0, 6, .inl (g 28)) ::
  .inl (0, 6, .inl (g 29)) ::
  .inl (0, 24, .inl (g 30)) ::
  .inl (0, 24, .inl (g 31)) ::
  .inl (0, 24, .inl (g 32)) ::
  .inl (2, 24, .inl (b 0)) ::
  .inl (0, 24, .inl (g 33)) ::
  .inl (2, 24, .inl (b 1)) :: t
