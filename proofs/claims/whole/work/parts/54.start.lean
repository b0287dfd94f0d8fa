def in_wf : Nat → Nat → Nat → Nat → Int32
  | 0, _, 0 => in_L [0, 0, 0]
  | 0, _, _ => in_L (List.replicate 40 0)
  | 1, _, 0 => in_L [0, 0, -1, 3, 0, 0, 0]
  | 1, _, _ => in_L (List.replicate 120 0)
  | 2, _, 0 => in_L [0, 0, 0, 0, 5, 0, 0, 0, 0, 0, 0, 0, 0, 1, 0, 0]
  | 2, _, 1 => in_L [50, 50, 50, 50, 50, 50, 50, 50, 50, 50]
  | 2, _, 2 => in_L (List.replicate 10 0)
  | 2, _, 3 => in_L [-1, -1, -1, -1, -1, -1, -1, -1, -1, -1]
  | 2, _, 4 => in_L [5, 5, 5, 5, 5, 5]
  | 2, _, 5 => in_L (List.replicate 8 0)
  | 2, _, 6 => in_L (List.replicate 8 0)
  | 2, _, 7 => in_L (List.replicate 8 0)
  | 2, _, 8 => in_L (List.replicate 8 0)
  | 2, _, 9 => in_L (List.replicate 8 0)
  | 2, _, 10 => in_L [-1, -1, -1, -1, -1, -1, -1, -1, -1, -1]
  | 2, _, _ => in_L (List.replicate 10 0)
  | 3, _, 0 => in_L [0, 0, 0, 0, 0, 0, 0]
  | 3, _, _ => in_L (List.replicate 7 0)
  | 4, _, 0 => in_L [0, 0, 0, 0, 0, 0, 0, 0, 0, 0, 0, 0, 0, 0, 0, 0, 0, 0, 0, 0, 0, 0]
  | 4, _, 1 => in_L [0, 0, 1, 5, 5, 5, 5, 5, 5, 5, 50, 0, -1, 50, 0, -1, 50, 0, -1, 50, 0, -1, 50, 0, -1, 50, 0, -1, 50, 0, -1, 50, 0, -1, 50, 0, -1, 50, 0, -1, 0, 0, 0, 0, 0, 0, 0, 0, 0, 0, 0, 0, 0, 0, 0, 0, 0, 0, 0, 0, 0, 0, 0, 0, 0, 0, 0, 0, 0, 0, 0, 0, 0, 0, 0, 0, 0, 0, 0, 0, -1, -1, -1, -1, -1, -1, -1, -1, -1, -1]
  | 4, _, 2 => in_L (List.replicate 90 0)
  | 4, _, 3 => in_L (List.replicate 90 0)
  | 4, _, 4 => in_L (List.replicate 7 0)
  | 4, _, 5 => in_L (List.replicate 10 0)
  | 4, _, 6 => in_L (List.replicate 8 0)
  | 4, _, 7 => in_L (List.replicate 120 0)
  | 4, _, 8 => in_L [112, 101, 114, 115, 111, 110, 32, 32, 99, 111, 116, 116, 97, 103, 101, 114, 115, 117, 114, 118, 101, 121, 111, 114, 109, 97, 121, 111, 114, 32, 32, 32, 109, 101, 109, 98, 101, 114, 32, 32, 100, 111, 117, 98, 116, 101, 114, 32, 112, 117, 112, 105, 108, 32, 32, 32]
  | 4, _, 9 => in_L [111, 110, 32, 32, 32, 32, 32, 32, 98, 101, 108, 105, 101, 118, 101, 115, 112, 117, 114, 115, 101, 32, 32, 32]
  | 4, _, 10 => in_L [108, 111, 116, 32, 32, 32, 32, 32, 115, 117, 110, 32, 32, 32, 32, 32, 109, 105, 115, 116, 32, 32, 32, 32]
  | 4, _, 11 => in_L [102, 111, 103, 32, 32, 32, 32, 32, 114, 101, 110, 116, 32, 32, 32, 32, 111, 119, 110, 101, 114, 32, 32, 32]
  | 4, _, 12 => in_L (List.replicate 4 0)
  | 4, _, 13 => in_L (List.replicate 4 0)
  | 4, _, 14 => in_L (List.replicate 160 0)
  | 4, _, _ => in_L (List.replicate 40 0)
  | _, _, _ => fun _ => 0
def in_w : fg_W := (fun K i b => in_wf K i b, 0)
def in_g (q3 : Nat) (a3 : Nat → Nat) (q4 : Nat) (a4 : Nat → Nat) : Nat → Nat → Nat → Nat
  | 0, i, b => a3 (40 + 2 * i + b)
  | 1, _, b => a3 (37 + b)
  | 2, i, b => a3 (1 + 12 * i + b)
  | 3, _, 0 => q3
  | 3, _, 1 => a3 48
  | 3, _, _ => a3 39
  | _, _, 0 => q4
  | _, _, b => a4 b
def in_pm : List Nat := [40, 41, 42, 43, 44, 45, 46, 47, 37, 38, 1, 2, 3, 4, 5, 6, 7, 8, 9, 10, 11, 12, 13, 14, 15, 16, 17, 18, 19, 20, 21, 22, 23, 24, 25, 26, 27, 28, 29, 30, 31, 32, 33, 34, 35, 36, 0, 48, 39, 49, 50, 51, 52, 53, 54, 55, 56, 57, 58, 59, 60, 61, 62, 63, 64]
def in_ws (cI cC cS : ClassId) (q3 : Nat) (a3 : Nat → Nat) (q4 : Nat) (a4 : Nat → Nat) : va_W := (in_w3 cI cS q3 a3 ++ in_w4 cI cC q4 a4).set 39 (a3 39, .inl (cS, 4, .inr (.inr (.inr (.inr (fun j => some (a3 (40 + 2 * j))))))))
def in_es (cI cC cS : ClassId) (q3 : Nat) (a3 : Nat → Nat) (q4 : Nat) (a4 : Nat → Nat) : va_W := [(q3, .inr (3, [.ref (a3 1), .ref (a3 13), .ref (a3 25), .int 0, .ref (a3 37), .ref (a3 39), .ref (a3 48)])), ((a3 1), .inr (2, [.ref (a3 2), .ref (a3 3), .ref (a3 4), .ref (a3 5), .int 5, .int 0, .ref (a3 6), .ref (a3 7), .ref (a3 8), .ref (a3 9), .ref (a3 10), .int 0, .int 0, .int 1, .ref (a3 11), .ref (a3 12)])), ((a3 2), .inl (cI, 10, .inl (in_L [50, 50, 50, 50, 50, 50, 50, 50, 50, 50]))), ((a3 3), .inl (cI, 10, .inl (in_L (List.replicate 10 0)))), ((a3 4), .inl (cI, 10, .inl (in_L [-1, -1, -1, -1, -1, -1, -1, -1, -1, -1]))), ((a3 5), .inl (cI, 6, .inl (in_L [5, 5, 5, 5, 5, 5]))), ((a3 6), .inl (cI, 8, .inl (in_L (List.replicate 8 0)))), ((a3 7), .inl (cI, 8, .inl (in_L (List.replicate 8 0)))), ((a3 8), .inl (cI, 8, .inl (in_L (List.replicate 8 0)))), ((a3 9), .inl (cI, 8, .inl (in_L (List.replicate 8 0)))), ((a3 10), .inl (cI, 8, .inl (in_L (List.replicate 8 0)))), ((a3 11), .inl (cI, 10, .inl (in_L [-1, -1, -1, -1, -1, -1, -1, -1, -1, -1]))), ((a3 12), .inl (cI, 10, .inl (in_L (List.replicate 10 0)))), ((a3 13), .inr (2, [.ref (a3 14), .ref (a3 15), .ref (a3 16), .ref (a3 17), .int 5, .int 0, .ref (a3 18), .ref (a3 19), .ref (a3 20), .ref (a3 21), .ref (a3 22), .int 0, .int 0, .int 1, .ref (a3 23), .ref (a3 24)])), ((a3 14), .inl (cI, 10, .inl (in_L [50, 50, 50, 50, 50, 50, 50, 50, 50, 50]))), ((a3 15), .inl (cI, 10, .inl (in_L (List.replicate 10 0)))), ((a3 16), .inl (cI, 10, .inl (in_L [-1, -1, -1, -1, -1, -1, -1, -1, -1, -1]))), ((a3 17), .inl (cI, 6, .inl (in_L [5, 5, 5, 5, 5, 5]))), ((a3 18), .inl (cI, 8, .inl (in_L (List.replicate 8 0)))), ((a3 19), .inl (cI, 8, .inl (in_L (List.replicate 8 0)))), ((a3 20), .inl (cI, 8, .inl (in_L (List.replicate 8 0)))), ((a3 21), .inl (cI, 8, .inl (in_L (List.replicate 8 0)))), ((a3 22), .inl (cI, 8, .inl (in_L (List.replicate 8 0)))), ((a3 23), .inl (cI, 10, .inl (in_L [-1, -1, -1, -1, -1, -1, -1, -1, -1, -1]))), ((a3 24), .inl (cI, 10, .inl (in_L (List.replicate 10 0)))), ((a3 25), .inr (2, [.ref (a3 26), .ref (a3 27), .ref (a3 28), .ref (a3 29), .int 5, .int 0, .ref (a3 30), .ref (a3 31), .ref (a3 32), .ref (a3 33), .ref (a3 34), .int 0, .int 0, .int 1, .ref (a3 35), .ref (a3 36)])), ((a3 26), .inl (cI, 10, .inl (in_L [50, 50, 50, 50, 50, 50, 50, 50, 50, 50]))), ((a3 27), .inl (cI, 10, .inl (in_L (List.replicate 10 0)))), ((a3 28), .inl (cI, 10, .inl (in_L [-1, -1, -1, -1, -1, -1, -1, -1, -1, -1]))), ((a3 29), .inl (cI, 6, .inl (in_L [5, 5, 5, 5, 5, 5]))), ((a3 30), .inl (cI, 8, .inl (in_L (List.replicate 8 0)))), ((a3 31), .inl (cI, 8, .inl (in_L (List.replicate 8 0)))), ((a3 32), .inl (cI, 8, .inl (in_L (List.replicate 8 0)))), ((a3 33), .inl (cI, 8, .inl (in_L (List.replicate 8 0)))), ((a3 34), .inl (cI, 8, .inl (in_L (List.replicate 8 0)))), ((a3 35), .inl (cI, 10, .inl (in_L [-1, -1, -1, -1, -1, -1, -1, -1, -1, -1]))), ((a3 36), .inl (cI, 10, .inl (in_L (List.replicate 10 0)))), ((a3 37), .inr (1, [.ref (a3 38), .int 0, .int (-1), .int 3, .int 0, .int 0, .int 0])), ((a3 38), .inl (cI, 120, .inl (in_L (List.replicate 120 0)))), (a3 39, .inl (cS, 4, .inr (.inr (.inr (.inr (fun j => some (a3 (40 + 2 * j)))))))), ((a3 40), .inr (0, [.int 0, .int 0, .ref (a3 41)])), ((a3 41), .inl (cI, 40, .inl (in_L (List.replicate 40 0)))), ((a3 42), .inr (0, [.int 0, .int 0, .ref (a3 43)])), ((a3 43), .inl (cI, 40, .inl (in_L (List.replicate 40 0)))), ((a3 44), .inr (0, [.int 0, .int 0, .ref (a3 45)])), ((a3 45), .inl (cI, 40, .inl (in_L (List.replicate 40 0)))), ((a3 46), .inr (0, [.int 0, .int 0, .ref (a3 47)])), ((a3 47), .inl (cI, 40, .inl (in_L (List.replicate 40 0)))), (a3 48, .inl (cI, 7, .inl (in_L (List.replicate 7 0)))), (q4, .inr (4, [.ref (a4 1), .ref (a4 2), .ref (a4 3), .int 0, .ref (a4 4), .int 0, .ref (a4 5), .ref (a4 6), .ref (a4 7), .int 0, .int 0, .int 0, .int 0, .long 0, .ref (a4 8), .ref (a4 9), .ref (a4 10), .ref (a4 11), .ref (a4 12), .ref (a4 13), .ref (a4 14), .ref (a4 15)])), ((a4 1), .inl (cI, 90, .inl (in_L [0, 0, 1, 5, 5, 5, 5, 5, 5, 5, 50, 0, -1, 50, 0, -1, 50, 0, -1, 50, 0, -1, 50, 0, -1, 50, 0, -1, 50, 0, -1, 50, 0, -1, 50, 0, -1, 50, 0, -1, 0, 0, 0, 0, 0, 0, 0, 0, 0, 0, 0, 0, 0, 0, 0, 0, 0, 0, 0, 0, 0, 0, 0, 0, 0, 0, 0, 0, 0, 0, 0, 0, 0, 0, 0, 0, 0, 0, 0, 0, -1, -1, -1, -1, -1, -1, -1, -1, -1, -1]))), ((a4 2), .inl (cI, 90, .inl (in_L (List.replicate 90 0)))), ((a4 3), .inl (cI, 90, .inl (in_L (List.replicate 90 0)))), ((a4 4), .inl (cI, 7, .inl (in_L (List.replicate 7 0)))), ((a4 5), .inl (cI, 10, .inl (in_L (List.replicate 10 0)))), ((a4 6), .inl (cI, 8, .inl (in_L (List.replicate 8 0)))), ((a4 7), .inl (cI, 120, .inl (in_L (List.replicate 120 0)))), ((a4 8), .inl (cC, 56, .inl (in_L [112, 101, 114, 115, 111, 110, 32, 32, 99, 111, 116, 116, 97, 103, 101, 114, 115, 117, 114, 118, 101, 121, 111, 114, 109, 97, 121, 111, 114, 32, 32, 32, 109, 101, 109, 98, 101, 114, 32, 32, 100, 111, 117, 98, 116, 101, 114, 32, 112, 117, 112, 105, 108, 32, 32, 32]))), ((a4 9), .inl (cC, 24, .inl (in_L [111, 110, 32, 32, 32, 32, 32, 32, 98, 101, 108, 105, 101, 118, 101, 115, 112, 117, 114, 115, 101, 32, 32, 32]))), ((a4 10), .inl (cC, 24, .inl (in_L [108, 111, 116, 32, 32, 32, 32, 32, 115, 117, 110, 32, 32, 32, 32, 32, 109, 105, 115, 116, 32, 32, 32, 32]))), ((a4 11), .inl (cC, 24, .inl (in_L [102, 111, 103, 32, 32, 32, 32, 32, 114, 101, 110, 116, 32, 32, 32, 32, 111, 119, 110, 101, 114, 32, 32, 32]))), ((a4 12), .inl (cI, 4, .inl (in_L (List.replicate 4 0)))), ((a4 13), .inl (cI, 4, .inl (in_L (List.replicate 4 0)))), ((a4 14), .inl (cI, 160, .inl (in_L (List.replicate 160 0)))), ((a4 15), .inl (cI, 40, .inl (in_L (List.replicate 40 0))))]
def in_fs (cI cC cS : ClassId) (q3 : Nat) (a3 : Nat → Nat) (q4 : Nat) (a4 : Nat → Nat) : va_W := [((a3 40), .inr (0, [.int 0, .int 0, .ref (a3 41)])), ((a3 41), .inl (cI, 40, .inl (in_L (List.replicate 40 0)))), ((a3 42), .inr (0, [.int 0, .int 0, .ref (a3 43)])), ((a3 43), .inl (cI, 40, .inl (in_L (List.replicate 40 0)))), ((a3 44), .inr (0, [.int 0, .int 0, .ref (a3 45)])), ((a3 45), .inl (cI, 40, .inl (in_L (List.replicate 40 0)))), ((a3 46), .inr (0, [.int 0, .int 0, .ref (a3 47)])), ((a3 47), .inl (cI, 40, .inl (in_L (List.replicate 40 0)))), ((a3 37), .inr (1, [.ref (a3 38), .int 0, .int (-1), .int 3, .int 0, .int 0, .int 0])), ((a3 38), .inl (cI, 120, .inl (in_L (List.replicate 120 0)))), ((a3 1), .inr (2, [.ref (a3 2), .ref (a3 3), .ref (a3 4), .ref (a3 5), .int 5, .int 0, .ref (a3 6), .ref (a3 7), .ref (a3 8), .ref (a3 9), .ref (a3 10), .int 0, .int 0, .int 1, .ref (a3 11), .ref (a3 12)])), ((a3 2), .inl (cI, 10, .inl (in_L [50, 50, 50, 50, 50, 50, 50, 50, 50, 50]))), ((a3 3), .inl (cI, 10, .inl (in_L (List.replicate 10 0)))), ((a3 4), .inl (cI, 10, .inl (in_L [-1, -1, -1, -1, -1, -1, -1, -1, -1, -1]))), ((a3 5), .inl (cI, 6, .inl (in_L [5, 5, 5, 5, 5, 5]))), ((a3 6), .inl (cI, 8, .inl (in_L (List.replicate 8 0)))), ((a3 7), .inl (cI, 8, .inl (in_L (List.replicate 8 0)))), ((a3 8), .inl (cI, 8, .inl (in_L (List.replicate 8 0)))), ((a3 9), .inl (cI, 8, .inl (in_L (List.replicate 8 0)))), ((a3 10), .inl (cI, 8, .inl (in_L (List.replicate 8 0)))), ((a3 11), .inl (cI, 10, .inl (in_L [-1, -1, -1, -1, -1, -1, -1, -1, -1, -1]))), ((a3 12), .inl (cI, 10, .inl (in_L (List.replicate 10 0)))), ((a3 13), .inr (2, [.ref (a3 14), .ref (a3 15), .ref (a3 16), .ref (a3 17), .int 5, .int 0, .ref (a3 18), .ref (a3 19), .ref (a3 20), .ref (a3 21), .ref (a3 22), .int 0, .int 0, .int 1, .ref (a3 23), .ref (a3 24)])), ((a3 14), .inl (cI, 10, .inl (in_L [50, 50, 50, 50, 50, 50, 50, 50, 50, 50]))), ((a3 15), .inl (cI, 10, .inl (in_L (List.replicate 10 0)))), ((a3 16), .inl (cI, 10, .inl (in_L [-1, -1, -1, -1, -1, -1, -1, -1, -1, -1]))), ((a3 17), .inl (cI, 6, .inl (in_L [5, 5, 5, 5, 5, 5]))), ((a3 18), .inl (cI, 8, .inl (in_L (List.replicate 8 0)))), ((a3 19), .inl (cI, 8, .inl (in_L (List.replicate 8 0)))), ((a3 20), .inl (cI, 8, .inl (in_L (List.replicate 8 0)))), ((a3 21), .inl (cI, 8, .inl (in_L (List.replicate 8 0)))), ((a3 22), .inl (cI, 8, .inl (in_L (List.replicate 8 0)))), ((a3 23), .inl (cI, 10, .inl (in_L [-1, -1, -1, -1, -1, -1, -1, -1, -1, -1]))), ((a3 24), .inl (cI, 10, .inl (in_L (List.replicate 10 0)))), ((a3 25), .inr (2, [.ref (a3 26), .ref (a3 27), .ref (a3 28), .ref (a3 29), .int 5, .int 0, .ref (a3 30), .ref (a3 31), .ref (a3 32), .ref (a3 33), .ref (a3 34), .int 0, .int 0, .int 1, .ref (a3 35), .ref (a3 36)])), ((a3 26), .inl (cI, 10, .inl (in_L [50, 50, 50, 50, 50, 50, 50, 50, 50, 50]))), ((a3 27), .inl (cI, 10, .inl (in_L (List.replicate 10 0)))), ((a3 28), .inl (cI, 10, .inl (in_L [-1, -1, -1, -1, -1, -1, -1, -1, -1, -1]))), ((a3 29), .inl (cI, 6, .inl (in_L [5, 5, 5, 5, 5, 5]))), ((a3 30), .inl (cI, 8, .inl (in_L (List.replicate 8 0)))), ((a3 31), .inl (cI, 8, .inl (in_L (List.replicate 8 0)))), ((a3 32), .inl (cI, 8, .inl (in_L (List.replicate 8 0)))), ((a3 33), .inl (cI, 8, .inl (in_L (List.replicate 8 0)))), ((a3 34), .inl (cI, 8, .inl (in_L (List.replicate 8 0)))), ((a3 35), .inl (cI, 10, .inl (in_L [-1, -1, -1, -1, -1, -1, -1, -1, -1, -1]))), ((a3 36), .inl (cI, 10, .inl (in_L (List.replicate 10 0)))), (q3, .inr (3, [.ref (a3 1), .ref (a3 13), .ref (a3 25), .int 0, .ref (a3 37), .ref (a3 39), .ref (a3 48)])), (a3 48, .inl (cI, 7, .inl (in_L (List.replicate 7 0)))), (a3 39, .inl (cS, 4, .inr (.inr (.inr (.inr (fun j => some (a3 (40 + 2 * j)))))))), (q4, .inr (4, [.ref (a4 1), .ref (a4 2), .ref (a4 3), .int 0, .ref (a4 4), .int 0, .ref (a4 5), .ref (a4 6), .ref (a4 7), .int 0, .int 0, .int 0, .int 0, .long 0, .ref (a4 8), .ref (a4 9), .ref (a4 10), .ref (a4 11), .ref (a4 12), .ref (a4 13), .ref (a4 14), .ref (a4 15)])), ((a4 1), .inl (cI, 90, .inl (in_L [0, 0, 1, 5, 5, 5, 5, 5, 5, 5, 50, 0, -1, 50, 0, -1, 50, 0, -1, 50, 0, -1, 50, 0, -1, 50, 0, -1, 50, 0, -1, 50, 0, -1, 50, 0, -1, 50, 0, -1, 0, 0, 0, 0, 0, 0, 0, 0, 0, 0, 0, 0, 0, 0, 0, 0, 0, 0, 0, 0, 0, 0, 0, 0, 0, 0, 0, 0, 0, 0, 0, 0, 0, 0, 0, 0, 0, 0, 0, 0, -1, -1, -1, -1, -1, -1, -1, -1, -1, -1]))), ((a4 2), .inl (cI, 90, .inl (in_L (List.replicate 90 0)))), ((a4 3), .inl (cI, 90, .inl (in_L (List.replicate 90 0)))), ((a4 4), .inl (cI, 7, .inl (in_L (List.replicate 7 0)))), ((a4 5), .inl (cI, 10, .inl (in_L (List.replicate 10 0)))), ((a4 6), .inl (cI, 8, .inl (in_L (List.replicate 8 0)))), ((a4 7), .inl (cI, 120, .inl (in_L (List.replicate 120 0)))), ((a4 8), .inl (cC, 56, .inl (in_L [112, 101, 114, 115, 111, 110, 32, 32, 99, 111, 116, 116, 97, 103, 101, 114, 115, 117, 114, 118, 101, 121, 111, 114, 109, 97, 121, 111, 114, 32, 32, 32, 109, 101, 109, 98, 101, 114, 32, 32, 100, 111, 117, 98, 116, 101, 114, 32, 112, 117, 112, 105, 108, 32, 32, 32]))), ((a4 9), .inl (cC, 24, .inl (in_L [111, 110, 32, 32, 32, 32, 32, 32, 98, 101, 108, 105, 101, 118, 101, 115, 112, 117, 114, 115, 101, 32, 32, 32]))), ((a4 10), .inl (cC, 24, .inl (in_L [108, 111, 116, 32, 32, 32, 32, 32, 115, 117, 110, 32, 32, 32, 32, 32, 109, 105, 115, 116, 32, 32, 32, 32]))), ((a4 11), .inl (cC, 24, .inl (in_L [102, 111, 103, 32, 32, 32, 32, 32, 114, 101, 110, 116, 32, 32, 32, 32, 111, 119, 110, 101, 114, 32, 32, 32]))), ((a4 12), .inl (cI, 4, .inl (in_L (List.replicate 4 0)))), ((a4 13), .inl (cI, 4, .inl (in_L (List.replicate 4 0)))), ((a4 14), .inl (cI, 160, .inl (in_L (List.replicate 160 0)))), ((a4 15), .inl (cI, 40, .inl (in_L (List.replicate 40 0))))]
set_option maxRecDepth 100000 in
set_option maxHeartbeats 400000 in
theorem in_e1 (cI cC cS : ClassId) (q3 : Nat) (a3 : Nat → Nat) (q4 : Nat) (a4 : Nat → Nat) : in_ws cI cC cS q3 a3 q4 a4 = in_es cI cC cS q3 a3 q4 a4 := rfl
set_option maxRecDepth 100000 in
set_option maxHeartbeats 400000 in
theorem in_e2 (cI cC cS : ClassId) (q3 : Nat) (a3 : Nat → Nat) (q4 : Nat) (a4 : Nat → Nat) : in_pm.map (fun i => (in_es cI cC cS q3 a3 q4 a4)[i]?) = (in_fs cI cC cS q3 a3 q4 a4).map some := rfl
set_option maxRecDepth 100000 in
set_option maxHeartbeats 400000 in
theorem in_e3 (cI cC cS : ClassId) (q3 : Nat) (a3 : Nat → Nat) (q4 : Nat) (a4 : Nat → Nat) : in_pm.filterMap (fun i => (in_es cI cC cS q3 a3 q4 a4)[i]?) = in_fs cI cC cS q3 a3 q4 a4 := rfl
set_option maxRecDepth 100000 in
set_option maxHeartbeats 400000 in
theorem in_e4 (cI cC cS : ClassId) (q3 : Nat) (a3 : Nat → Nat) (q4 : Nat) (a4 : Nat → Nat) (ad av : Nat → Nat) : fg_cells (in_g q3 a3 q4 a4, cI, cC, cS, ad, av) in_w = in_fs cI cC cS q3 a3 q4 a4 := rfl
theorem in_pm1 (cI cC cS : ClassId) (q3 : Nat) (a3 : Nat → Nat) (q4 : Nat) (a4 ad av : Nat → Nat) : in_pm.filterMap (fun i => (in_ws cI cC cS q3 a3 q4 a4)[i]?) = fg_cells (in_g q3 a3 q4 a4, cI, cC, cS, ad, av) in_w := by rw [in_e1, in_e4]; exact in_e3 cI cC cS q3 a3 q4 a4
theorem in_pm2 (cI cC cS : ClassId) (q3 : Nat) (a3 : Nat → Nat) (q4 : Nat) (a4 ad av : Nat → Nat) : in_pm.map (fun i => (in_ws cI cC cS q3 a3 q4 a4)[i]?) = (fg_cells (in_g q3 a3 q4 a4, cI, cC, cS, ad, av) in_w).map some := by rw [in_e1, in_e4]; exact in_e2 cI cC cS q3 a3 q4 a4
theorem in_sh (cS : ClassId) (a3 : Nat → Nat) : vp_cell cS (4, .inr (.inr (.inr (.inr (va_up (va_up (va_up (va_up (fun _ => none) 0 (some (a3 40))) 1 (some (a3 42))) 2 (some (a3 44))) 3 (some (a3 46))))))) = vp_cell cS (4, .inr (.inr (.inr (.inr (fun j => some (a3 (40 + 2 * j))))))) := by
  simp only [vp_cell, arrV]
  congr 2
  funext j
  obtain ⟨j, hj⟩ := j
  rcases (show j = 0 ∨ j = 1 ∨ j = 2 ∨ j = 3 by omega) with rfl | rfl | rfl | rfl <;> rfl
theorem in_start {D : va_G} {H0 H : Heap} {locs : List Loc} {cI cC cS : ClassId} {q3 q4 : Nat} {a3 a4 : Nat → Nat} (ad av : Nat → Nat) (h : in_H D (fun q => H0.size ≤ q) H0 (in_w3 cI cS q3 a3 ++ in_w4 cI cC q4 a4) H locs) : fg_H D (in_g q3 a3 q4 a4, cI, cC, cS, ad, av) H0 in_w H locs ∧ ∀ q, fg_A (in_g q3 a3 q4 a4, cI, cC, cS, ad, av) H0.size q → H0.size ≤ q := by
  have h39 : (in_w3 cI cS q3 a3 ++ in_w4 cI cC q4 a4)[39]? = some (a3 39, .inl (cS, 4, .inr (.inr (.inr (.inr (va_up (va_up (va_up (va_up (fun _ => none) 0 (some (a3 40))) 1 (some (a3 42))) 2 (some (a3 44))) 3 (some (a3 46)))))))) := rfl
  have e39 : H[a3 39]? = some (vp_cell cS (4, .inr (.inr (.inr (.inr (va_up (va_up (va_up (va_up (fun _ => none) 0 (some (a3 40))) 1 (some (a3 42))) 2 (some (a3 44))) 3 (some (a3 46)))))))) := h.1 39 _ h39
  have hP : va_P D vwCl (in_ws cI cC cS q3 a3 q4 a4) H := by
    refine h.1.set h.2.1 h39 ?_ (fun _ _ => rfl)
    show H[a3 39]? = some (vp_cell cS _)
    rw [e39, in_sh]
  have hD : va_D (fun q => H0.size ≤ q) (in_ws cI cC cS q3 a3 q4 a4) := h.2.1.set h39
  have hP2 := hP.sub in_pm (in_pm1 cI cC cS q3 a3 q4 a4 ad av)
  have hD2 := hD.sub in_pm (by decide +kernel) (in_pm2 cI cC cS q3 a3 q4 a4 ad av)
  have hA : ∀ q, fg_A (in_g q3 a3 q4 a4, cI, cC, cS, ad, av) H0.size q → H0.size ≤ q := by
    intro q hq
    rcases hq with ⟨p, hp, rfl⟩ | hq
    · obtain ⟨i, hi⟩ := List.mem_iff_getElem?.mp hp
      exact hD2.2 i _ (by rw [fg_cells, List.getElem?_map, hi]; rfl)
    · exact hq
  exact ⟨⟨hP2, hD2.weaken (fun _ _ _ z => Or.inr z), h.2.2.1.1, fun q h1 h2 => h.2.2.1.2.1 q h1 (fun z => h2 (Or.inr z)), fun q hq => Or.inr (h.2.2.1.2.2 q hq)⟩, hA⟩
theorem in_rm0 : rm in_w (in_w.1 2 0) := by
  refine ⟨⟨?_, ?_, ?_, ?_, ?_⟩, ?_, ?_, ?_, ?_⟩
  · decide +kernel
  · decide +kernel
  · decide +kernel
  · decide +kernel
  · decide +kernel
  · decide +kernel
  · have h : ∀ f, f < 3 → ∀ p, p < 10 → in_w.1 4 0 1 (10 + 3 * p + f) = in_w.1 2 0 (1 + f) p := by decide +kernel
    exact fun f p hf hp => h f hf p hp
  · have h : ∀ f, f < 5 → ∀ k, k < 8 → in_w.1 4 0 1 (40 + 5 * k + f) = in_w.1 2 0 (5 + f) k := by decide +kernel
    exact fun f k hf hk => h f hf k hk
  · decide +kernel
theorem in_bk0 : bk_I (in_w.1 2 0) 0 := by
  refine ⟨⟨by decide +kernel, by decide⟩, ?_, ?_, ⟨0, by decide, by decide +kernel⟩, ?_, ?_, ?_, ?_, ?_, ?_⟩
  · have h : ∀ k, k < 8 → in_w.1 2 0 6 k = nI 0 := by decide +kernel
    exact fun k hk => Or.inr ⟨0, by decide, h k hk⟩
  · have h : ∀ p, p < 10 → in_w.1 2 0 3 p = -1 := by decide +kernel
    exact fun p hp => Or.inl (h p hp)
  · have h : ∀ k, k < 8 → in_w.1 2 0 5 k = nI 0 := by decide +kernel
    exact fun k hk => ⟨0, by decide, h k hk⟩
  · have h : ∀ k, k < 8 → in_w.1 2 0 7 k = nI 0 := by decide +kernel
    exact fun k hk => ⟨0, by decide, h k hk⟩
  · have h : ∀ k, k < 8 → in_w.1 2 0 8 k = nI 0 := by decide +kernel
    exact fun k hk => ⟨0, by decide, h k hk⟩
  · have h : ∀ k, k < 8 → in_w.1 2 0 9 k = nI 0 := by decide +kernel
    exact fun k hk => ⟨0, by decide, h k hk⟩
  · have h : ∀ k, k < 10 → in_w.1 2 0 2 k = nI 0 := by decide +kernel
    exact fun k hk => ⟨0, by decide, h k hk⟩
  · have h : ∀ p, p < 10 → in_w.1 2 0 10 p = -1 := by decide +kernel
    exact fun p hp => Or.inl (h p hp)
theorem in_rr : rr in_w := by
  refine ⟨0, in_rm0, in_bk0, by decide +kernel, ?_, ?_, ?_, ?_, ?_, ?_, ?_, ?_⟩
  · exact ⟨by decide +kernel, Or.inl (by decide +kernel)⟩
  · have h : ∀ j, j < 7 → in_w.1 3 0 1 j = in_w.1 4 0 4 j := by decide +kernel
    exact h
  · exact ⟨0, by decide, by decide +kernel, by decide +kernel, fun j hj => absurd hj (Nat.not_lt_zero j)⟩
  · have h1 : ∀ s, s < 4 → in_w.1 0 s 0 0 = in_w.1 4 0 12 s ∧ in_w.1 0 s 0 1 = in_w.1 4 0 13 s ∧ in_w.1 4 0 12 s = 0 ∧ in_w.1 4 0 13 s = nI 0 := by decide +kernel
    have h2 : ∀ s, s < 4 → ∀ j, j < 40 → in_w.1 0 s 1 j = in_w.1 4 0 14 (40 * s + j) := by decide +kernel
    exact fun s hs => ⟨(h1 s hs).1, (h1 s hs).2.1, Or.inl (h1 s hs).2.2.1, ⟨0, by decide, (h1 s hs).2.2.2⟩, h2 s hs⟩
  · decide +kernel
  · decide +kernel
  · decide +kernel
  · decide +kernel
