/-! the world behind the constructors is that of the pure machine -/
abbrev TU : Type := (Nat → Nat) × (Nat → Int64) × (Nat → Nat) × (Nat → Nat) × (Nat → Nat) × (Nat → Nat) × (Nat → Int32) × (Nat → Int32) × (Nat → Nat) × (Nat → Nat) × (Nat → Nat) × (Nat → Nat) × (Nat → Int32) × (Nat → Int32)
def LX (aC : Nat → ClassId) (h0 : Nat) (u : TU) : va_W := [(h0, .inr (10, [.ref (u.1 0), .ref (u.1 3), .ref (u.1 4), .ref (u.1 6), .ref (u.1 19), .ref (u.1 32), .ref (u.1 35), .ref (u.1 38), .ref (u.1 41), .ref (u.1 103), .ref (u.1 116), .int 0, .ref (u.1 117), .ref (u.1 118), .ref (u.1 123), .long 0])), ((u.1 0), .inr (7, [.int 0, .int 0, .ref (u.1 1), .ref (u.1 2), .int 0, .int 0, .int 0, .long 0, .int 0, .int 0])), ((u.1 1), .inl (aC 2, 1000, .inl (fun _ => 0))), ((u.1 2), .inl (aC 1, 28, .inr (.inl u.2.1))), ((u.1 3), .inr (9, [.ref (u.1 0)])), ((u.1 4), .inr (2, [.ref (u.1 5), .int 0, .ref (u.1 0)])), ((u.1 5), .inl (aC 0, 160, .inl (fun _ => 0))), ((u.1 6), .inr (8, [.ref (u.1 7), .ref (u.1 8), .ref (u.1 9), .ref (u.1 10), .ref (u.1 11), .int 0, .int 5, .ref (u.1 12), .ref (u.1 13), .ref (u.1 14), .ref (u.1 15), .ref (u.1 16)])), ((u.1 7), .inl (aC 0, 5, .inl (fun _ => 0))), ((u.2.2.1 0), .inl (aC 0, 4, .inl (fun _ => 0))), ((u.2.2.1 1), .inl (aC 0, 4, .inl (fun _ => 0))), ((u.2.2.1 2), .inl (aC 0, 4, .inl (fun _ => 0))), ((u.2.2.1 3), .inl (aC 0, 4, .inl (fun _ => 0))), ((u.2.2.1 4), .inl (aC 0, 4, .inl (fun _ => 0))), ((u.2.2.1 5), .inl (aC 0, 4, .inl (fun _ => 0))), ((u.2.2.1 6), .inl (aC 0, 4, .inl (fun _ => 0))), ((u.2.2.1 7), .inl (aC 0, 4, .inl (fun _ => 0))), ((u.2.2.1 8), .inl (aC 0, 4, .inl (fun _ => 0))), ((u.2.2.1 9), .inl (aC 0, 4, .inl (fun _ => 0))), ((u.1 8), .inl (aC 6, 10, .inr (.inr (.inr (.inr (fun i => if i < 10 then some (u.2.2.1 i) else none)))))), ((u.2.2.2.1 0), .inl (aC 0, 2, .inl (fun _ => 0))), ((u.2.2.2.1 1), .inl (aC 0, 2, .inl (fun _ => 0))), ((u.2.2.2.1 2), .inl (aC 0, 2, .inl (fun _ => 0))), ((u.2.2.2.1 3), .inl (aC 0, 2, .inl (fun _ => 0))), ((u.1 9), .inl (aC 6, 4, .inr (.inr (.inr (.inr (fun i => if i < 4 then some (u.2.2.2.1 i) else none)))))), ((u.2.2.2.2.1 0), .inl (aC 0, 4, .inl (fun _ => 0))), ((u.2.2.2.2.1 1), .inl (aC 0, 4, .inl (fun _ => 0))), ((u.2.2.2.2.1 2), .inl (aC 0, 4, .inl (fun _ => 0))), ((u.2.2.2.2.1 3), .inl (aC 0, 4, .inl (fun _ => 0))), ((u.2.2.2.2.1 4), .inl (aC 0, 4, .inl (fun _ => 0))), ((u.1 10), .inl (aC 6, 5, .inr (.inr (.inr (.inr (fun i => if i < 5 then some (u.2.2.2.2.1 i) else none)))))), ((u.2.2.2.2.2.1 0), .inl (aC 0, 2, .inl (fun _ => 0))), ((u.2.2.2.2.2.1 1), .inl (aC 0, 2, .inl (fun _ => 0))), ((u.2.2.2.2.2.1 2), .inl (aC 0, 2, .inl (fun _ => 0))), ((u.2.2.2.2.2.1 3), .inl (aC 0, 2, .inl (fun _ => 0))), ((u.1 11), .inl (aC 6, 4, .inr (.inr (.inr (.inr (fun i => if i < 4 then some (u.2.2.2.2.2.1 i) else none)))))), ((u.1 12), .inr (4, [.ref (u.1 17), .int 1, .ref (u.1 18)])), ((u.1 17), .inl (aC 0, 1000, .inl u.2.2.2.2.2.2.1)), ((u.1 18), .inl (aC 0, 24, .inl (fun _ => 0))), ((u.1 13), .inl (aC 1, 25, .inr (.inl (fun _ => 0)))), ((u.1 14), .inl (aC 0, 5, .inl (fun _ => 0))), ((u.1 15), .inl (aC 0, 30, .inl u.2.2.2.2.2.2.2.1)), ((u.1 16), .inl (aC 0, 10, .inl (fun _ => 0))), ((u.1 19), .inr (8, [.ref (u.1 20), .ref (u.1 21), .ref (u.1 22), .ref (u.1 23), .ref (u.1 24), .int 0, .int 5, .ref (u.1 25), .ref (u.1 26), .ref (u.1 27), .ref (u.1 28), .ref (u.1 29)])), ((u.1 20), .inl (aC 0, 5, .inl (fun _ => 0))), ((u.2.2.2.2.2.2.2.2.1 0), .inl (aC 0, 4, .inl (fun _ => 0))), ((u.2.2.2.2.2.2.2.2.1 1), .inl (aC 0, 4, .inl (fun _ => 0))), ((u.2.2.2.2.2.2.2.2.1 2), .inl (aC 0, 4, .inl (fun _ => 0))), ((u.2.2.2.2.2.2.2.2.1 3), .inl (aC 0, 4, .inl (fun _ => 0))), ((u.2.2.2.2.2.2.2.2.1 4), .inl (aC 0, 4, .inl (fun _ => 0))), ((u.2.2.2.2.2.2.2.2.1 5), .inl (aC 0, 4, .inl (fun _ => 0))), ((u.2.2.2.2.2.2.2.2.1 6), .inl (aC 0, 4, .inl (fun _ => 0))), ((u.2.2.2.2.2.2.2.2.1 7), .inl (aC 0, 4, .inl (fun _ => 0))), ((u.2.2.2.2.2.2.2.2.1 8), .inl (aC 0, 4, .inl (fun _ => 0))), ((u.2.2.2.2.2.2.2.2.1 9), .inl (aC 0, 4, .inl (fun _ => 0))), ((u.1 21), .inl (aC 6, 10, .inr (.inr (.inr (.inr (fun i => if i < 10 then some (u.2.2.2.2.2.2.2.2.1 i) else none)))))), ((u.2.2.2.2.2.2.2.2.2.1 0), .inl (aC 0, 2, .inl (fun _ => 0))), ((u.2.2.2.2.2.2.2.2.2.1 1), .inl (aC 0, 2, .inl (fun _ => 0))), ((u.2.2.2.2.2.2.2.2.2.1 2), .inl (aC 0, 2, .inl (fun _ => 0))), ((u.2.2.2.2.2.2.2.2.2.1 3), .inl (aC 0, 2, .inl (fun _ => 0))), ((u.1 22), .inl (aC 6, 4, .inr (.inr (.inr (.inr (fun i => if i < 4 then some (u.2.2.2.2.2.2.2.2.2.1 i) else none)))))), ((u.2.2.2.2.2.2.2.2.2.2.1 0), .inl (aC 0, 4, .inl (fun _ => 0))), ((u.2.2.2.2.2.2.2.2.2.2.1 1), .inl (aC 0, 4, .inl (fun _ => 0))), ((u.2.2.2.2.2.2.2.2.2.2.1 2), .inl (aC 0, 4, .inl (fun _ => 0))), ((u.2.2.2.2.2.2.2.2.2.2.1 3), .inl (aC 0, 4, .inl (fun _ => 0))), ((u.2.2.2.2.2.2.2.2.2.2.1 4), .inl (aC 0, 4, .inl (fun _ => 0))), ((u.1 23), .inl (aC 6, 5, .inr (.inr (.inr (.inr (fun i => if i < 5 then some (u.2.2.2.2.2.2.2.2.2.2.1 i) else none)))))), ((u.2.2.2.2.2.2.2.2.2.2.2.1 0), .inl (aC 0, 2, .inl (fun _ => 0))), ((u.2.2.2.2.2.2.2.2.2.2.2.1 1), .inl (aC 0, 2, .inl (fun _ => 0))), ((u.2.2.2.2.2.2.2.2.2.2.2.1 2), .inl (aC 0, 2, .inl (fun _ => 0))), ((u.2.2.2.2.2.2.2.2.2.2.2.1 3), .inl (aC 0, 2, .inl (fun _ => 0))), ((u.1 24), .inl (aC 6, 4, .inr (.inr (.inr (.inr (fun i => if i < 4 then some (u.2.2.2.2.2.2.2.2.2.2.2.1 i) else none)))))), ((u.1 25), .inr (4, [.ref (u.1 30), .int 1, .ref (u.1 31)])), ((u.1 30), .inl (aC 0, 1000, .inl u.2.2.2.2.2.2.2.2.2.2.2.2.1)), ((u.1 31), .inl (aC 0, 24, .inl (fun _ => 0))), ((u.1 26), .inl (aC 1, 25, .inr (.inl (fun _ => 0)))), ((u.1 27), .inl (aC 0, 5, .inl (fun _ => 0))), ((u.1 28), .inl (aC 0, 30, .inl u.2.2.2.2.2.2.2.2.2.2.2.2.2)), ((u.1 29), .inl (aC 0, 10, .inl (fun _ => 0))), ((u.1 32), .inr (6, [.int 0, .ref (u.1 33), .ref (u.1 34), .int 0, .int 0, .int 0])), ((u.1 33), .inl (aC 0, 5, .inl (fun _ => 0))), ((u.1 34), .inl (aC 0, 4, .inl (fun _ => 0))), ((u.1 35), .inr (6, [.int 0, .ref (u.1 36), .ref (u.1 37), .int 0, .int 0, .int 0])), ((u.1 36), .inl (aC 0, 5, .inl (fun _ => 0))), ((u.1 37), .inl (aC 0, 4, .inl (fun _ => 0))), ((u.1 38), .inr (5, [.ref (u.1 39), .int 0, .int 0, .ref (u.1 40), .int 0])), ((u.1 39), .inl (aC 0, 160, .inl (fun _ => 0))), ((u.1 40), .inl (aC 0, 8, .inl (fun _ => 0))), ((u.1 41), .inr (1, [.int 0, .int 0, .ref (u.1 42)])), ((u.1 43), .inr (6, [.int 0, .ref (u.1 44), .ref (u.1 45), .int 0, .int 0, .int 0])), ((u.1 44), .inl (aC 0, 5, .inl (fun _ => 0))), ((u.1 45), .inl (aC 0, 4, .inl (fun _ => 0))), ((u.1 46), .inr (6, [.int 0, .ref (u.1 47), .ref (u.1 48), .int 0, .int 0, .int 0])), ((u.1 47), .inl (aC 0, 5, .inl (fun _ => 0))), ((u.1 48), .inl (aC 0, 4, .inl (fun _ => 0))), ((u.1 49), .inr (6, [.int 0, .ref (u.1 50), .ref (u.1 51), .int 0, .int 0, .int 0])), ((u.1 50), .inl (aC 0, 5, .inl (fun _ => 0))), ((u.1 51), .inl (aC 0, 4, .inl (fun _ => 0))), ((u.1 52), .inr (6, [.int 0, .ref (u.1 53), .ref (u.1 54), .int 0, .int 0, .int 0])), ((u.1 53), .inl (aC 0, 5, .inl (fun _ => 0))), ((u.1 54), .inl (aC 0, 4, .inl (fun _ => 0))), ((u.1 55), .inr (6, [.int 0, .ref (u.1 56), .ref (u.1 57), .int 0, .int 0, .int 0])), ((u.1 56), .inl (aC 0, 5, .inl (fun _ => 0))), ((u.1 57), .inl (aC 0, 4, .inl (fun _ => 0))), ((u.1 58), .inr (6, [.int 0, .ref (u.1 59), .ref (u.1 60), .int 0, .int 0, .int 0])), ((u.1 59), .inl (aC 0, 5, .inl (fun _ => 0))), ((u.1 60), .inl (aC 0, 4, .inl (fun _ => 0))), ((u.1 61), .inr (6, [.int 0, .ref (u.1 62), .ref (u.1 63), .int 0, .int 0, .int 0])), ((u.1 62), .inl (aC 0, 5, .inl (fun _ => 0))), ((u.1 63), .inl (aC 0, 4, .inl (fun _ => 0))), ((u.1 64), .inr (6, [.int 0, .ref (u.1 65), .ref (u.1 66), .int 0, .int 0, .int 0])), ((u.1 65), .inl (aC 0, 5, .inl (fun _ => 0))), ((u.1 66), .inl (aC 0, 4, .inl (fun _ => 0))), ((u.1 67), .inr (6, [.int 0, .ref (u.1 68), .ref (u.1 69), .int 0, .int 0, .int 0])), ((u.1 68), .inl (aC 0, 5, .inl (fun _ => 0))), ((u.1 69), .inl (aC 0, 4, .inl (fun _ => 0))), ((u.1 70), .inr (6, [.int 0, .ref (u.1 71), .ref (u.1 72), .int 0, .int 0, .int 0])), ((u.1 71), .inl (aC 0, 5, .inl (fun _ => 0))), ((u.1 72), .inl (aC 0, 4, .inl (fun _ => 0))), ((u.1 73), .inr (6, [.int 0, .ref (u.1 74), .ref (u.1 75), .int 0, .int 0, .int 0])), ((u.1 74), .inl (aC 0, 5, .inl (fun _ => 0))), ((u.1 75), .inl (aC 0, 4, .inl (fun _ => 0))), ((u.1 76), .inr (6, [.int 0, .ref (u.1 77), .ref (u.1 78), .int 0, .int 0, .int 0])), ((u.1 77), .inl (aC 0, 5, .inl (fun _ => 0))), ((u.1 78), .inl (aC 0, 4, .inl (fun _ => 0))), ((u.1 79), .inr (6, [.int 0, .ref (u.1 80), .ref (u.1 81), .int 0, .int 0, .int 0])), ((u.1 80), .inl (aC 0, 5, .inl (fun _ => 0))), ((u.1 81), .inl (aC 0, 4, .inl (fun _ => 0))), ((u.1 82), .inr (6, [.int 0, .ref (u.1 83), .ref (u.1 84), .int 0, .int 0, .int 0])), ((u.1 83), .inl (aC 0, 5, .inl (fun _ => 0))), ((u.1 84), .inl (aC 0, 4, .inl (fun _ => 0))), ((u.1 85), .inr (6, [.int 0, .ref (u.1 86), .ref (u.1 87), .int 0, .int 0, .int 0])), ((u.1 86), .inl (aC 0, 5, .inl (fun _ => 0))), ((u.1 87), .inl (aC 0, 4, .inl (fun _ => 0))), ((u.1 88), .inr (6, [.int 0, .ref (u.1 89), .ref (u.1 90), .int 0, .int 0, .int 0])), ((u.1 89), .inl (aC 0, 5, .inl (fun _ => 0))), ((u.1 90), .inl (aC 0, 4, .inl (fun _ => 0))), ((u.1 42), .inl (aC 4, 16, .inr (.inr (.inr (.inr (va_up (va_up (va_up (va_up (va_up (va_up (va_up (va_up (va_up (va_up (va_up (va_up (va_up (va_up (va_up (va_up (fun _ => none) 0 (some (u.1 43))) 1 (some (u.1 46))) 2 (some (u.1 49))) 3 (some (u.1 52))) 4 (some (u.1 55))) 5 (some (u.1 58))) 6 (some (u.1 61))) 7 (some (u.1 64))) 8 (some (u.1 67))) 9 (some (u.1 70))) 10 (some (u.1 73))) 11 (some (u.1 76))) 12 (some (u.1 79))) 13 (some (u.1 82))) 14 (some (u.1 85))) 15 (some (u.1 88)))))))), ((u.1 91), .inr (6, [.int 0, .ref (u.1 92), .ref (u.1 93), .int 0, .int 0, .int 0])), ((u.1 92), .inl (aC 0, 5, .inl (fun _ => 0))), ((u.1 93), .inl (aC 0, 4, .inl (fun _ => 0))), ((u.1 94), .inr (6, [.int 0, .ref (u.1 95), .ref (u.1 96), .int 0, .int 0, .int 0])), ((u.1 95), .inl (aC 0, 5, .inl (fun _ => 0))), ((u.1 96), .inl (aC 0, 4, .inl (fun _ => 0))), ((u.1 97), .inr (6, [.int 0, .ref (u.1 98), .ref (u.1 99), .int 0, .int 0, .int 0])), ((u.1 98), .inl (aC 0, 5, .inl (fun _ => 0))), ((u.1 99), .inl (aC 0, 4, .inl (fun _ => 0))), ((u.1 100), .inr (6, [.int 0, .ref (u.1 101), .ref (u.1 102), .int 0, .int 0, .int 0])), ((u.1 101), .inl (aC 0, 5, .inl (fun _ => 0))), ((u.1 102), .inl (aC 0, 4, .inl (fun _ => 0))), ((u.1 103), .inl (aC 4, 4, .inr (.inr (.inr (.inr (va_up (va_up (va_up (va_up (fun _ => none) 0 (some (u.1 91))) 1 (some (u.1 94))) 2 (some (u.1 97))) 3 (some (u.1 100)))))))), ((u.1 104), .inr (5, [.ref (u.1 105), .int 0, .int 0, .ref (u.1 106), .int 0])), ((u.1 105), .inl (aC 0, 160, .inl (fun _ => 0))), ((u.1 106), .inl (aC 0, 8, .inl (fun _ => 0))), ((u.1 107), .inr (5, [.ref (u.1 108), .int 0, .int 0, .ref (u.1 109), .int 0])), ((u.1 108), .inl (aC 0, 160, .inl (fun _ => 0))), ((u.1 109), .inl (aC 0, 8, .inl (fun _ => 0))), ((u.1 110), .inr (5, [.ref (u.1 111), .int 0, .int 0, .ref (u.1 112), .int 0])), ((u.1 111), .inl (aC 0, 160, .inl (fun _ => 0))), ((u.1 112), .inl (aC 0, 8, .inl (fun _ => 0))), ((u.1 113), .inr (5, [.ref (u.1 114), .int 0, .int 0, .ref (u.1 115), .int 0])), ((u.1 114), .inl (aC 0, 160, .inl (fun _ => 0))), ((u.1 115), .inl (aC 0, 8, .inl (fun _ => 0))), ((u.1 116), .inl (aC 5, 4, .inr (.inr (.inr (.inr (va_up (va_up (va_up (va_up (fun _ => none) 0 (some (u.1 104))) 1 (some (u.1 107))) 2 (some (u.1 110))) 3 (some (u.1 113)))))))), ((u.1 117), .inl (aC 0, 5, .inl (fun _ => 0))), ((u.1 118), .inr (3, [.int 0, .ref (u.1 119), .ref (u.1 120), .ref (u.1 121), .ref (u.1 122)])), ((u.1 119), .inl (aC 0, 7, .inl (fun _ => 0))), ((u.1 120), .inl (aC 0, 128, .inl (fun _ => 0))), ((u.1 121), .inl (aC 0, 128, .inl (fun _ => 0))), ((u.1 122), .inl (aC 1, 128, .inr (.inl (fun _ => 0)))), ((u.1 123), .inr (0, [.ref (u.1 124), .int 0])), ((u.1 124), .inl (aC 0, 1024, .inl (fun _ => 0)))]
def LM (aC : Nat → ClassId) (h0 : Nat) (u : Nat → Nat) : va_W := [(h0, .inr (11, [.int 0, .int 0, .ref (u 0), .int 0, .int 0, .int 0, .int 0, .long 0, .int 0, .int 0, .ref (u 1), .ref (u 2), .ref (u 3), .ref (u 4), .ref (u 5), .ref (u 6), .ref (u 7), .ref (u 8), .ref (u 9), .ref (u 10), .ref (u 11), .ref (u 12), .ref (u 13), .ref (u 14), .ref (u 15), .ref (u 16), .ref (u 17), .ref (u 18), .ref (u 19), .ref (u 20), .ref (u 21), .int 0, .int 0, .ref (u 22), .ref (u 23), .ref (u 24), .ref (u 25), .ref (u 26), .ref (u 27), .ref (u 28), .ref (u 29), .ref (u 30), .ref (u 31), .ref (u 32), .ref (u 33), .int 0, .ref (u 34), .ref (u 35), .ref (u 36), .ref (u 37), .ref (u 38), .ref (u 39), .ref (u 40), .ref (u 41), .ref (u 42), .ref (u 43), .ref (u 44), .ref (u 45), .ref (u 46), .ref (u 47), .int 0, .ref (u 48), .ref (u 49), .ref (u 50), .int 0, .ref (u 51), .ref (u 52), .ref (u 53), .int 0, .int 0, .int 0, .ref (u 54), .ref (u 55), .long 0])), ((u 0), .inl (aC 0, 1000, .inl (fun _ => 0))), ((u 1), .inl (aC 0, 14, .inl (fun _ => 0))), ((u 2), .inl (aC 1, 10, .inr (.inl (fun _ => 0)))), ((u 3), .inl (aC 1, 8, .inr (.inl (fun _ => 0)))), ((u 4), .inl (aC 1, 10, .inr (.inl (fun _ => 0)))), ((u 5), .inl (aC 1, 8, .inr (.inl (fun _ => 0)))), ((u 6), .inl (aC 0, 10, .inl (fun _ => 0))), ((u 7), .inl (aC 0, 20, .inl (fun _ => 0))), ((u 8), .inl (aC 0, 20, .inl (fun _ => 0))), ((u 9), .inl (aC 0, 20, .inl (fun _ => 0))), ((u 10), .inl (aC 0, 20, .inl (fun _ => 0))), ((u 11), .inl (aC 0, 8, .inl (fun _ => 0))), ((u 12), .inl (aC 0, 8, .inl (fun _ => 0))), ((u 13), .inl (aC 0, 10, .inl (fun _ => 0))), ((u 14), .inl (aC 0, 10, .inl (fun _ => 0))), ((u 15), .inl (aC 0, 10, .inl (fun _ => 0))), ((u 16), .inl (aC 0, 10, .inl (fun _ => 0))), ((u 17), .inl (aC 0, 8, .inl (fun _ => 0))), ((u 18), .inl (aC 0, 8, .inl (fun _ => 0))), ((u 19), .inl (aC 0, 2, .inl (fun _ => 0))), ((u 20), .inl (aC 0, 2, .inl (fun _ => 0))), ((u 21), .inl (aC 0, 2000, .inl (fun _ => 0))), ((u 22), .inl (aC 0, 7, .inl (fun _ => 0))), ((u 23), .inl (aC 3, 7, .inl (fun _ => 0))), ((u 24), .inl (aC 0, 7, .inl (fun _ => 0))), ((u 25), .inl (aC 0, 7, .inl (fun _ => 0))), ((u 26), .inl (aC 0, 7, .inl (fun _ => 0))), ((u 27), .inl (aC 0, 7, .inl (fun _ => 0))), ((u 28), .inl (aC 0, 7, .inl (fun _ => 0))), ((u 29), .inl (aC 0, 7, .inl (fun _ => 0))), ((u 30), .inl (aC 0, 7, .inl (fun _ => 0))), ((u 31), .inl (aC 0, 7, .inl (fun _ => 0))), ((u 32), .inl (aC 0, 7, .inl (fun _ => 0))), ((u 33), .inl (aC 0, 20, .inl (fun _ => 0))), ((u 34), .inl (aC 0, 6, .inl (fun _ => 0))), ((u 35), .inl (aC 0, 240, .inl (fun _ => 0))), ((u 36), .inl (aC 0, 240, .inl (fun _ => 0))), ((u 37), .inl (aC 0, 240, .inl (fun _ => 0))), ((u 38), .inl (aC 0, 240, .inl (fun _ => 0))), ((u 39), .inl (aC 0, 5, .inl (fun _ => 0))), ((u 40), .inl (aC 0, 40, .inl (fun _ => 0))), ((u 41), .inl (aC 0, 40, .inl (fun _ => 0))), ((u 42), .inl (aC 3, 40, .inl (fun _ => 0))), ((u 43), .inl (aC 0, 13, .inl (fun _ => 0))), ((u 44), .inl (aC 0, 13, .inl (fun _ => 0))), ((u 45), .inl (aC 0, 52, .inl (fun _ => 0))), ((u 46), .inl (aC 0, 208, .inl (fun _ => 0))), ((u 47), .inl (aC 3, 4, .inl (fun _ => 0))), ((u 48), .inl (aC 0, 30, .inl (fun _ => 0))), ((u 49), .inl (aC 3, 5120, .inl (fun _ => 0))), ((u 50), .inl (aC 0, 4, .inl (fun _ => 0))), ((u 51), .inl (aC 0, 10, .inl (fun _ => 0))), ((u 52), .inl (aC 0, 10, .inl (fun _ => 0))), ((u 53), .inl (aC 0, 4, .inl (fun _ => 0))), ((u 54), .inl (aC 0, 10, .inl (fun _ => 0))), ((u 55), .inl (aC 0, 1024, .inl (fun _ => 0)))]
def adl0 (h0 q0 : Nat) (u : TU) (w : Nat → Nat) : List Nat := [h0, (u.1 0), (u.1 1), (u.1 2), (u.1 3), (u.1 4), (u.1 5), (u.1 6), (u.1 7), (u.2.2.1 0), (u.2.2.1 1), (u.2.2.1 2), (u.2.2.1 3), (u.2.2.1 4), (u.2.2.1 5), (u.2.2.1 6)]
def adl1 (h0 q0 : Nat) (u : TU) (w : Nat → Nat) : List Nat := [(u.2.2.1 7), (u.2.2.1 8), (u.2.2.1 9), (u.1 8), (u.2.2.2.1 0), (u.2.2.2.1 1), (u.2.2.2.1 2), (u.2.2.2.1 3), (u.1 9), (u.2.2.2.2.1 0), (u.2.2.2.2.1 1), (u.2.2.2.2.1 2), (u.2.2.2.2.1 3), (u.2.2.2.2.1 4), (u.1 10), (u.2.2.2.2.2.1 0)]
def adl2 (h0 q0 : Nat) (u : TU) (w : Nat → Nat) : List Nat := [(u.2.2.2.2.2.1 1), (u.2.2.2.2.2.1 2), (u.2.2.2.2.2.1 3), (u.1 11), (u.1 12), (u.1 17), (u.1 18), (u.1 13), (u.1 14), (u.1 15), (u.1 16), (u.1 19), (u.1 20), (u.2.2.2.2.2.2.2.2.1 0), (u.2.2.2.2.2.2.2.2.1 1), (u.2.2.2.2.2.2.2.2.1 2)]
def adl3 (h0 q0 : Nat) (u : TU) (w : Nat → Nat) : List Nat := [(u.2.2.2.2.2.2.2.2.1 3), (u.2.2.2.2.2.2.2.2.1 4), (u.2.2.2.2.2.2.2.2.1 5), (u.2.2.2.2.2.2.2.2.1 6), (u.2.2.2.2.2.2.2.2.1 7), (u.2.2.2.2.2.2.2.2.1 8), (u.2.2.2.2.2.2.2.2.1 9), (u.1 21), (u.2.2.2.2.2.2.2.2.2.1 0), (u.2.2.2.2.2.2.2.2.2.1 1), (u.2.2.2.2.2.2.2.2.2.1 2), (u.2.2.2.2.2.2.2.2.2.1 3), (u.1 22), (u.2.2.2.2.2.2.2.2.2.2.1 0), (u.2.2.2.2.2.2.2.2.2.2.1 1), (u.2.2.2.2.2.2.2.2.2.2.1 2)]
def adl4 (h0 q0 : Nat) (u : TU) (w : Nat → Nat) : List Nat := [(u.2.2.2.2.2.2.2.2.2.2.1 3), (u.2.2.2.2.2.2.2.2.2.2.1 4), (u.1 23), (u.2.2.2.2.2.2.2.2.2.2.2.1 0), (u.2.2.2.2.2.2.2.2.2.2.2.1 1), (u.2.2.2.2.2.2.2.2.2.2.2.1 2), (u.2.2.2.2.2.2.2.2.2.2.2.1 3), (u.1 24), (u.1 25), (u.1 30), (u.1 31), (u.1 26), (u.1 27), (u.1 28), (u.1 29), (u.1 32)]
def adl5 (h0 q0 : Nat) (u : TU) (w : Nat → Nat) : List Nat := [(u.1 33), (u.1 34), (u.1 35), (u.1 36), (u.1 37), (u.1 38), (u.1 39), (u.1 40), (u.1 41), (u.1 43), (u.1 44), (u.1 45), (u.1 46), (u.1 47), (u.1 48), (u.1 49)]
def adl6 (h0 q0 : Nat) (u : TU) (w : Nat → Nat) : List Nat := [(u.1 50), (u.1 51), (u.1 52), (u.1 53), (u.1 54), (u.1 55), (u.1 56), (u.1 57), (u.1 58), (u.1 59), (u.1 60), (u.1 61), (u.1 62), (u.1 63), (u.1 64), (u.1 65)]
def adl7 (h0 q0 : Nat) (u : TU) (w : Nat → Nat) : List Nat := [(u.1 66), (u.1 67), (u.1 68), (u.1 69), (u.1 70), (u.1 71), (u.1 72), (u.1 73), (u.1 74), (u.1 75), (u.1 76), (u.1 77), (u.1 78), (u.1 79), (u.1 80), (u.1 81)]
def adl8 (h0 q0 : Nat) (u : TU) (w : Nat → Nat) : List Nat := [(u.1 82), (u.1 83), (u.1 84), (u.1 85), (u.1 86), (u.1 87), (u.1 88), (u.1 89), (u.1 90), (u.1 42), (u.1 91), (u.1 92), (u.1 93), (u.1 94), (u.1 95), (u.1 96)]
def adl9 (h0 q0 : Nat) (u : TU) (w : Nat → Nat) : List Nat := [(u.1 97), (u.1 98), (u.1 99), (u.1 100), (u.1 101), (u.1 102), (u.1 103), (u.1 104), (u.1 105), (u.1 106), (u.1 107), (u.1 108), (u.1 109), (u.1 110), (u.1 111), (u.1 112)]
def adl10 (h0 q0 : Nat) (u : TU) (w : Nat → Nat) : List Nat := [(u.1 113), (u.1 114), (u.1 115), (u.1 116), (u.1 117), (u.1 118), (u.1 119), (u.1 120), (u.1 121), (u.1 122), (u.1 123), (u.1 124), q0, (w 0), (w 1), (w 2)]
def adl11 (h0 q0 : Nat) (u : TU) (w : Nat → Nat) : List Nat := [(w 3), (w 4), (w 5), (w 6), (w 7), (w 8), (w 9), (w 10), (w 11), (w 12), (w 13), (w 14), (w 15), (w 16), (w 17), (w 18)]
def adl12 (h0 q0 : Nat) (u : TU) (w : Nat → Nat) : List Nat := [(w 19), (w 20), (w 21), (w 22), (w 23), (w 24), (w 25), (w 26), (w 27), (w 28), (w 29), (w 30), (w 31), (w 32), (w 33), (w 34)]
def adl13 (h0 q0 : Nat) (u : TU) (w : Nat → Nat) : List Nat := [(w 35), (w 36), (w 37), (w 38), (w 39), (w 40), (w 41), (w 42), (w 43), (w 44), (w 45), (w 46), (w 47), (w 48), (w 49), (w 50)]
def adl14 (h0 q0 : Nat) (u : TU) (w : Nat → Nat) : List Nat := [(w 51), (w 52), (w 53), (w 54), (w 55)]
def adls (h0 q0 : Nat) (u : TU) (w : Nat → Nat) : List (List Nat) := [adl0 h0 q0 u w, adl1 h0 q0 u w, adl2 h0 q0 u w, adl3 h0 q0 u w, adl4 h0 q0 u w, adl5 h0 q0 u w, adl6 h0 q0 u w, adl7 h0 q0 u w, adl8 h0 q0 u w, adl9 h0 q0 u w, adl10 h0 q0 u w, adl11 h0 q0 u w, adl12 h0 q0 u w, adl13 h0 q0 u w, adl14 h0 q0 u w]
def adW (aM : Nat → Nat) (h0 q0 : Nat) (u : TU) (w : Nat → Nat) (k : Nat) : Nat := if k < 1000 then (((adls h0 q0 u w)[k / 16]?).getD [])[k % 16]?.getD 0 else aM (k - 1000)
theorem adW_ad {aM : Nat → Nat} {h0 q0 : Nat} {u : TU} {w : Nat → Nat} : pm_ad aM (adW aM h0 q0 u w) := by
  intro i hi
  unfold adW
  rw [if_neg (by omega), Nat.add_sub_cancel_left]
theorem up_map {ad : Nat → Nat} {f : Nat → Option Nat} {k : Nat} {v : Option Nat} : (fun j => (va_up f k v j).map ad) = va_up (fun j => (f j).map ad) k (v.map ad) := by
  funext j
  unfold va_up
  split <;> rfl
theorem eRow {aC ad : Nat → Nat} {a k b n : Nat} {r : Nat → Nat} (ha : ad k = a) (hr : ∀ i, i < n → ad (b + i) = r i) : some (a, (.inl (aC 6, n, .inr (.inr (.inr (.inr (fun i => if i < n then some (r i) else none))))) : va_E)) = some (ad k, pm_e aC ad (.inl (6, n, .inr (.inr (.inr (.inr (fun i => if i < n then some (b + i) else none))))))) := by
  have e : (fun i => if i < n then some (r i) else none) = fun j => ((fun i => if i < n then some (b + i) else none) j : Option Nat).map ad := by
    funext i
    dsimp only
    by_cases hi : i < n
    · rw [if_pos hi, if_pos hi, Option.map_some, hr i hi]
    · rw [if_neg hi, if_neg hi]
      rfl
  rw [e, ← ha]
  rfl
theorem eNest {aC ad : Nat → Nat} {t n a k : Nat} {f f' : Nat → Option Nat} (ha : ad k = a) (hf : (fun j => (f' j).map ad) = f) : some (a, (.inl (aC t, n, .inr (.inr (.inr (.inr f)))) : va_E)) = some (ad k, pm_e aC ad (.inl (t, n, .inr (.inr (.inr (.inr f')))))) := by
  rw [← hf, ← ha]
  rfl
set_option maxHeartbeats 4000000 in
set_option maxRecDepth 16384 in
theorem w0_0 (aC : Nat → ClassId) (aM : Nat → Nat) (h0 q0 : Nat) (u : TU) (w : Nat → Nat) : ∀ j, j < 16 → (LX aC h0 u ++ LM aC q0 w)[0 + j]? = some (adW aM h0 q0 u w (0 + j), pm_e aC (adW aM h0 q0 u w) ((hW u.2.1 u.2.2.2.2.2.2.1 u.2.2.2.2.2.2.2.1 u.2.2.2.2.2.2.2.2.2.2.2.2.1 u.2.2.2.2.2.2.2.2.2.2.2.2.2) (0 + j))) := by
  intro j hj
  have : j = 0 ∨ j = 1 ∨ j = 2 ∨ j = 3 ∨ j = 4 ∨ j = 5 ∨ j = 6 ∨ j = 7 ∨ j = 8 ∨ j = 9 ∨ j = 10 ∨ j = 11 ∨ j = 12 ∨ j = 13 ∨ j = 14 ∨ j = 15 := by omega
  rcases this with rfl | rfl | rfl | rfl | rfl | rfl | rfl | rfl | rfl | rfl | rfl | rfl | rfl | rfl | rfl | rfl
  · rfl
  · rfl
  · rfl
  · rfl
  · rfl
  · rfl
  · rfl
  · rfl
  · rfl
  · rfl
  · rfl
  · rfl
  · rfl
  · rfl
  · rfl
  · rfl
set_option maxHeartbeats 4000000 in
set_option maxRecDepth 16384 in
theorem w0_1 (aC : Nat → ClassId) (aM : Nat → Nat) (h0 q0 : Nat) (u : TU) (w : Nat → Nat) : ∀ j, j < 16 → (LX aC h0 u ++ LM aC q0 w)[16 + j]? = some (adW aM h0 q0 u w (16 + j), pm_e aC (adW aM h0 q0 u w) ((hW u.2.1 u.2.2.2.2.2.2.1 u.2.2.2.2.2.2.2.1 u.2.2.2.2.2.2.2.2.2.2.2.2.1 u.2.2.2.2.2.2.2.2.2.2.2.2.2) (16 + j))) := by
  intro j hj
  have : j = 0 ∨ j = 1 ∨ j = 2 ∨ j = 3 ∨ j = 4 ∨ j = 5 ∨ j = 6 ∨ j = 7 ∨ j = 8 ∨ j = 9 ∨ j = 10 ∨ j = 11 ∨ j = 12 ∨ j = 13 ∨ j = 14 ∨ j = 15 := by omega
  rcases this with rfl | rfl | rfl | rfl | rfl | rfl | rfl | rfl | rfl | rfl | rfl | rfl | rfl | rfl | rfl | rfl
  · rfl
  · rfl
  · rfl
  · exact eRow (k := 19) (n := 10) (b := 9) (r := u.2.2.1) rfl (fun i hi => by
      have : i = 0 ∨ i = 1 ∨ i = 2 ∨ i = 3 ∨ i = 4 ∨ i = 5 ∨ i = 6 ∨ i = 7 ∨ i = 8 ∨ i = 9 := by omega
      rcases this with rfl | rfl | rfl | rfl | rfl | rfl | rfl | rfl | rfl | rfl <;> rfl)
  · rfl
  · rfl
  · rfl
  · rfl
  · exact eRow (k := 24) (n := 4) (b := 20) (r := u.2.2.2.1) rfl (fun i hi => by
      have : i = 0 ∨ i = 1 ∨ i = 2 ∨ i = 3 := by omega
      rcases this with rfl | rfl | rfl | rfl <;> rfl)
  · rfl
  · rfl
  · rfl
  · rfl
  · rfl
  · exact eRow (k := 30) (n := 5) (b := 25) (r := u.2.2.2.2.1) rfl (fun i hi => by
      have : i = 0 ∨ i = 1 ∨ i = 2 ∨ i = 3 ∨ i = 4 := by omega
      rcases this with rfl | rfl | rfl | rfl | rfl <;> rfl)
  · rfl
set_option maxHeartbeats 4000000 in
set_option maxRecDepth 16384 in
theorem w0_2 (aC : Nat → ClassId) (aM : Nat → Nat) (h0 q0 : Nat) (u : TU) (w : Nat → Nat) : ∀ j, j < 16 → (LX aC h0 u ++ LM aC q0 w)[32 + j]? = some (adW aM h0 q0 u w (32 + j), pm_e aC (adW aM h0 q0 u w) ((hW u.2.1 u.2.2.2.2.2.2.1 u.2.2.2.2.2.2.2.1 u.2.2.2.2.2.2.2.2.2.2.2.2.1 u.2.2.2.2.2.2.2.2.2.2.2.2.2) (32 + j))) := by
  intro j hj
  have : j = 0 ∨ j = 1 ∨ j = 2 ∨ j = 3 ∨ j = 4 ∨ j = 5 ∨ j = 6 ∨ j = 7 ∨ j = 8 ∨ j = 9 ∨ j = 10 ∨ j = 11 ∨ j = 12 ∨ j = 13 ∨ j = 14 ∨ j = 15 := by omega
  rcases this with rfl | rfl | rfl | rfl | rfl | rfl | rfl | rfl | rfl | rfl | rfl | rfl | rfl | rfl | rfl | rfl
  · rfl
  · rfl
  · rfl
  · exact eRow (k := 35) (n := 4) (b := 31) (r := u.2.2.2.2.2.1) rfl (fun i hi => by
      have : i = 0 ∨ i = 1 ∨ i = 2 ∨ i = 3 := by omega
      rcases this with rfl | rfl | rfl | rfl <;> rfl)
  · rfl
  · rfl
  · rfl
  · rfl
  · rfl
  · rfl
  · rfl
  · rfl
  · rfl
  · rfl
  · rfl
  · rfl
set_option maxHeartbeats 4000000 in
set_option maxRecDepth 16384 in
theorem w0_3 (aC : Nat → ClassId) (aM : Nat → Nat) (h0 q0 : Nat) (u : TU) (w : Nat → Nat) : ∀ j, j < 16 → (LX aC h0 u ++ LM aC q0 w)[48 + j]? = some (adW aM h0 q0 u w (48 + j), pm_e aC (adW aM h0 q0 u w) ((hW u.2.1 u.2.2.2.2.2.2.1 u.2.2.2.2.2.2.2.1 u.2.2.2.2.2.2.2.2.2.2.2.2.1 u.2.2.2.2.2.2.2.2.2.2.2.2.2) (48 + j))) := by
  intro j hj
  have : j = 0 ∨ j = 1 ∨ j = 2 ∨ j = 3 ∨ j = 4 ∨ j = 5 ∨ j = 6 ∨ j = 7 ∨ j = 8 ∨ j = 9 ∨ j = 10 ∨ j = 11 ∨ j = 12 ∨ j = 13 ∨ j = 14 ∨ j = 15 := by omega
  rcases this with rfl | rfl | rfl | rfl | rfl | rfl | rfl | rfl | rfl | rfl | rfl | rfl | rfl | rfl | rfl | rfl
  · rfl
  · rfl
  · rfl
  · rfl
  · rfl
  · rfl
  · rfl
  · exact eRow (k := 55) (n := 10) (b := 45) (r := u.2.2.2.2.2.2.2.2.1) rfl (fun i hi => by
      have : i = 0 ∨ i = 1 ∨ i = 2 ∨ i = 3 ∨ i = 4 ∨ i = 5 ∨ i = 6 ∨ i = 7 ∨ i = 8 ∨ i = 9 := by omega
      rcases this with rfl | rfl | rfl | rfl | rfl | rfl | rfl | rfl | rfl | rfl <;> rfl)
  · rfl
  · rfl
  · rfl
  · rfl
  · exact eRow (k := 60) (n := 4) (b := 56) (r := u.2.2.2.2.2.2.2.2.2.1) rfl (fun i hi => by
      have : i = 0 ∨ i = 1 ∨ i = 2 ∨ i = 3 := by omega
      rcases this with rfl | rfl | rfl | rfl <;> rfl)
  · rfl
  · rfl
  · rfl
set_option maxHeartbeats 4000000 in
set_option maxRecDepth 16384 in
theorem w0_4 (aC : Nat → ClassId) (aM : Nat → Nat) (h0 q0 : Nat) (u : TU) (w : Nat → Nat) : ∀ j, j < 16 → (LX aC h0 u ++ LM aC q0 w)[64 + j]? = some (adW aM h0 q0 u w (64 + j), pm_e aC (adW aM h0 q0 u w) ((hW u.2.1 u.2.2.2.2.2.2.1 u.2.2.2.2.2.2.2.1 u.2.2.2.2.2.2.2.2.2.2.2.2.1 u.2.2.2.2.2.2.2.2.2.2.2.2.2) (64 + j))) := by
  intro j hj
  have : j = 0 ∨ j = 1 ∨ j = 2 ∨ j = 3 ∨ j = 4 ∨ j = 5 ∨ j = 6 ∨ j = 7 ∨ j = 8 ∨ j = 9 ∨ j = 10 ∨ j = 11 ∨ j = 12 ∨ j = 13 ∨ j = 14 ∨ j = 15 := by omega
  rcases this with rfl | rfl | rfl | rfl | rfl | rfl | rfl | rfl | rfl | rfl | rfl | rfl | rfl | rfl | rfl | rfl
  · rfl
  · rfl
  · exact eRow (k := 66) (n := 5) (b := 61) (r := u.2.2.2.2.2.2.2.2.2.2.1) rfl (fun i hi => by
      have : i = 0 ∨ i = 1 ∨ i = 2 ∨ i = 3 ∨ i = 4 := by omega
      rcases this with rfl | rfl | rfl | rfl | rfl <;> rfl)
  · rfl
  · rfl
  · rfl
  · rfl
  · exact eRow (k := 71) (n := 4) (b := 67) (r := u.2.2.2.2.2.2.2.2.2.2.2.1) rfl (fun i hi => by
      have : i = 0 ∨ i = 1 ∨ i = 2 ∨ i = 3 := by omega
      rcases this with rfl | rfl | rfl | rfl <;> rfl)
  · rfl
  · rfl
  · rfl
  · rfl
  · rfl
  · rfl
  · rfl
  · rfl
set_option maxHeartbeats 4000000 in
set_option maxRecDepth 16384 in
theorem w0_5 (aC : Nat → ClassId) (aM : Nat → Nat) (h0 q0 : Nat) (u : TU) (w : Nat → Nat) : ∀ j, j < 16 → (LX aC h0 u ++ LM aC q0 w)[80 + j]? = some (adW aM h0 q0 u w (80 + j), pm_e aC (adW aM h0 q0 u w) ((hW u.2.1 u.2.2.2.2.2.2.1 u.2.2.2.2.2.2.2.1 u.2.2.2.2.2.2.2.2.2.2.2.2.1 u.2.2.2.2.2.2.2.2.2.2.2.2.2) (80 + j))) := by
  intro j hj
  have : j = 0 ∨ j = 1 ∨ j = 2 ∨ j = 3 ∨ j = 4 ∨ j = 5 ∨ j = 6 ∨ j = 7 ∨ j = 8 ∨ j = 9 ∨ j = 10 ∨ j = 11 ∨ j = 12 ∨ j = 13 ∨ j = 14 ∨ j = 15 := by omega
  rcases this with rfl | rfl | rfl | rfl | rfl | rfl | rfl | rfl | rfl | rfl | rfl | rfl | rfl | rfl | rfl | rfl
  · rfl
  · rfl
  · rfl
  · rfl
  · rfl
  · rfl
  · rfl
  · rfl
  · rfl
  · rfl
  · rfl
  · rfl
  · rfl
  · rfl
  · rfl
  · rfl
set_option maxHeartbeats 4000000 in
set_option maxRecDepth 16384 in
theorem w0_6 (aC : Nat → ClassId) (aM : Nat → Nat) (h0 q0 : Nat) (u : TU) (w : Nat → Nat) : ∀ j, j < 16 → (LX aC h0 u ++ LM aC q0 w)[96 + j]? = some (adW aM h0 q0 u w (96 + j), pm_e aC (adW aM h0 q0 u w) ((hW u.2.1 u.2.2.2.2.2.2.1 u.2.2.2.2.2.2.2.1 u.2.2.2.2.2.2.2.2.2.2.2.2.1 u.2.2.2.2.2.2.2.2.2.2.2.2.2) (96 + j))) := by
  intro j hj
  have : j = 0 ∨ j = 1 ∨ j = 2 ∨ j = 3 ∨ j = 4 ∨ j = 5 ∨ j = 6 ∨ j = 7 ∨ j = 8 ∨ j = 9 ∨ j = 10 ∨ j = 11 ∨ j = 12 ∨ j = 13 ∨ j = 14 ∨ j = 15 := by omega
  rcases this with rfl | rfl | rfl | rfl | rfl | rfl | rfl | rfl | rfl | rfl | rfl | rfl | rfl | rfl | rfl | rfl
  · rfl
  · rfl
  · rfl
  · rfl
  · rfl
  · rfl
  · rfl
  · rfl
  · rfl
  · rfl
  · rfl
  · rfl
  · rfl
  · rfl
  · rfl
  · rfl
set_option maxHeartbeats 4000000 in
set_option maxRecDepth 16384 in
theorem w0_7 (aC : Nat → ClassId) (aM : Nat → Nat) (h0 q0 : Nat) (u : TU) (w : Nat → Nat) : ∀ j, j < 16 → (LX aC h0 u ++ LM aC q0 w)[112 + j]? = some (adW aM h0 q0 u w (112 + j), pm_e aC (adW aM h0 q0 u w) ((hW u.2.1 u.2.2.2.2.2.2.1 u.2.2.2.2.2.2.2.1 u.2.2.2.2.2.2.2.2.2.2.2.2.1 u.2.2.2.2.2.2.2.2.2.2.2.2.2) (112 + j))) := by
  intro j hj
  have : j = 0 ∨ j = 1 ∨ j = 2 ∨ j = 3 ∨ j = 4 ∨ j = 5 ∨ j = 6 ∨ j = 7 ∨ j = 8 ∨ j = 9 ∨ j = 10 ∨ j = 11 ∨ j = 12 ∨ j = 13 ∨ j = 14 ∨ j = 15 := by omega
  rcases this with rfl | rfl | rfl | rfl | rfl | rfl | rfl | rfl | rfl | rfl | rfl | rfl | rfl | rfl | rfl | rfl
  · rfl
  · rfl
  · rfl
  · rfl
  · rfl
  · rfl
  · rfl
  · rfl
  · rfl
  · rfl
  · rfl
  · rfl
  · rfl
  · rfl
  · rfl
  · rfl
set_option maxHeartbeats 4000000 in
set_option maxRecDepth 16384 in
theorem w0_8 (aC : Nat → ClassId) (aM : Nat → Nat) (h0 q0 : Nat) (u : TU) (w : Nat → Nat) : ∀ j, j < 16 → (LX aC h0 u ++ LM aC q0 w)[128 + j]? = some (adW aM h0 q0 u w (128 + j), pm_e aC (adW aM h0 q0 u w) ((hW u.2.1 u.2.2.2.2.2.2.1 u.2.2.2.2.2.2.2.1 u.2.2.2.2.2.2.2.2.2.2.2.2.1 u.2.2.2.2.2.2.2.2.2.2.2.2.2) (128 + j))) := by
  intro j hj
  have : j = 0 ∨ j = 1 ∨ j = 2 ∨ j = 3 ∨ j = 4 ∨ j = 5 ∨ j = 6 ∨ j = 7 ∨ j = 8 ∨ j = 9 ∨ j = 10 ∨ j = 11 ∨ j = 12 ∨ j = 13 ∨ j = 14 ∨ j = 15 := by omega
  rcases this with rfl | rfl | rfl | rfl | rfl | rfl | rfl | rfl | rfl | rfl | rfl | rfl | rfl | rfl | rfl | rfl
  · rfl
  · rfl
  · rfl
  · rfl
  · rfl
  · rfl
  · rfl
  · rfl
  · rfl
  · exact eNest (k := 137) rfl (by simp only [up_map]; rfl)
  · rfl
  · rfl
  · rfl
  · rfl
  · rfl
  · rfl
set_option maxHeartbeats 4000000 in
set_option maxRecDepth 16384 in
theorem w0_9 (aC : Nat → ClassId) (aM : Nat → Nat) (h0 q0 : Nat) (u : TU) (w : Nat → Nat) : ∀ j, j < 16 → (LX aC h0 u ++ LM aC q0 w)[144 + j]? = some (adW aM h0 q0 u w (144 + j), pm_e aC (adW aM h0 q0 u w) ((hW u.2.1 u.2.2.2.2.2.2.1 u.2.2.2.2.2.2.2.1 u.2.2.2.2.2.2.2.2.2.2.2.2.1 u.2.2.2.2.2.2.2.2.2.2.2.2.2) (144 + j))) := by
  intro j hj
  have : j = 0 ∨ j = 1 ∨ j = 2 ∨ j = 3 ∨ j = 4 ∨ j = 5 ∨ j = 6 ∨ j = 7 ∨ j = 8 ∨ j = 9 ∨ j = 10 ∨ j = 11 ∨ j = 12 ∨ j = 13 ∨ j = 14 ∨ j = 15 := by omega
  rcases this with rfl | rfl | rfl | rfl | rfl | rfl | rfl | rfl | rfl | rfl | rfl | rfl | rfl | rfl | rfl | rfl
  · rfl
  · rfl
  · rfl
  · rfl
  · rfl
  · rfl
  · exact eNest (k := 150) rfl (by simp only [up_map]; rfl)
  · rfl
  · rfl
  · rfl
  · rfl
  · rfl
  · rfl
  · rfl
  · rfl
  · rfl
set_option maxHeartbeats 4000000 in
set_option maxRecDepth 16384 in
theorem w0_10 (aC : Nat → ClassId) (aM : Nat → Nat) (h0 q0 : Nat) (u : TU) (w : Nat → Nat) : ∀ j, j < 16 → (LX aC h0 u ++ LM aC q0 w)[160 + j]? = some (adW aM h0 q0 u w (160 + j), pm_e aC (adW aM h0 q0 u w) ((hW u.2.1 u.2.2.2.2.2.2.1 u.2.2.2.2.2.2.2.1 u.2.2.2.2.2.2.2.2.2.2.2.2.1 u.2.2.2.2.2.2.2.2.2.2.2.2.2) (160 + j))) := by
  intro j hj
  have : j = 0 ∨ j = 1 ∨ j = 2 ∨ j = 3 ∨ j = 4 ∨ j = 5 ∨ j = 6 ∨ j = 7 ∨ j = 8 ∨ j = 9 ∨ j = 10 ∨ j = 11 ∨ j = 12 ∨ j = 13 ∨ j = 14 ∨ j = 15 := by omega
  rcases this with rfl | rfl | rfl | rfl | rfl | rfl | rfl | rfl | rfl | rfl | rfl | rfl | rfl | rfl | rfl | rfl
  · rfl
  · rfl
  · rfl
  · exact eNest (k := 163) rfl (by simp only [up_map]; rfl)
  · rfl
  · rfl
  · rfl
  · rfl
  · rfl
  · rfl
  · rfl
  · rfl
  · rfl
  · rfl
  · rfl
  · rfl
set_option maxHeartbeats 4000000 in
set_option maxRecDepth 16384 in
theorem w0_11 (aC : Nat → ClassId) (aM : Nat → Nat) (h0 q0 : Nat) (u : TU) (w : Nat → Nat) : ∀ j, j < 16 → (LX aC h0 u ++ LM aC q0 w)[176 + j]? = some (adW aM h0 q0 u w (176 + j), pm_e aC (adW aM h0 q0 u w) ((hW u.2.1 u.2.2.2.2.2.2.1 u.2.2.2.2.2.2.2.1 u.2.2.2.2.2.2.2.2.2.2.2.2.1 u.2.2.2.2.2.2.2.2.2.2.2.2.2) (176 + j))) := by
  intro j hj
  have : j = 0 ∨ j = 1 ∨ j = 2 ∨ j = 3 ∨ j = 4 ∨ j = 5 ∨ j = 6 ∨ j = 7 ∨ j = 8 ∨ j = 9 ∨ j = 10 ∨ j = 11 ∨ j = 12 ∨ j = 13 ∨ j = 14 ∨ j = 15 := by omega
  rcases this with rfl | rfl | rfl | rfl | rfl | rfl | rfl | rfl | rfl | rfl | rfl | rfl | rfl | rfl | rfl | rfl
  · rfl
  · rfl
  · rfl
  · rfl
  · rfl
  · rfl
  · rfl
  · rfl
  · rfl
  · rfl
  · rfl
  · rfl
  · rfl
  · rfl
  · rfl
  · rfl
set_option maxHeartbeats 4000000 in
set_option maxRecDepth 16384 in
theorem w0_12 (aC : Nat → ClassId) (aM : Nat → Nat) (h0 q0 : Nat) (u : TU) (w : Nat → Nat) : ∀ j, j < 16 → (LX aC h0 u ++ LM aC q0 w)[192 + j]? = some (adW aM h0 q0 u w (192 + j), pm_e aC (adW aM h0 q0 u w) ((hW u.2.1 u.2.2.2.2.2.2.1 u.2.2.2.2.2.2.2.1 u.2.2.2.2.2.2.2.2.2.2.2.2.1 u.2.2.2.2.2.2.2.2.2.2.2.2.2) (192 + j))) := by
  intro j hj
  have : j = 0 ∨ j = 1 ∨ j = 2 ∨ j = 3 ∨ j = 4 ∨ j = 5 ∨ j = 6 ∨ j = 7 ∨ j = 8 ∨ j = 9 ∨ j = 10 ∨ j = 11 ∨ j = 12 ∨ j = 13 ∨ j = 14 ∨ j = 15 := by omega
  rcases this with rfl | rfl | rfl | rfl | rfl | rfl | rfl | rfl | rfl | rfl | rfl | rfl | rfl | rfl | rfl | rfl
  · rfl
  · rfl
  · rfl
  · rfl
  · rfl
  · rfl
  · rfl
  · rfl
  · rfl
  · rfl
  · rfl
  · rfl
  · rfl
  · rfl
  · rfl
  · rfl
set_option maxHeartbeats 4000000 in
set_option maxRecDepth 16384 in
theorem w0_13 (aC : Nat → ClassId) (aM : Nat → Nat) (h0 q0 : Nat) (u : TU) (w : Nat → Nat) : ∀ j, j < 16 → (LX aC h0 u ++ LM aC q0 w)[208 + j]? = some (adW aM h0 q0 u w (208 + j), pm_e aC (adW aM h0 q0 u w) ((hW u.2.1 u.2.2.2.2.2.2.1 u.2.2.2.2.2.2.2.1 u.2.2.2.2.2.2.2.2.2.2.2.2.1 u.2.2.2.2.2.2.2.2.2.2.2.2.2) (208 + j))) := by
  intro j hj
  have : j = 0 ∨ j = 1 ∨ j = 2 ∨ j = 3 ∨ j = 4 ∨ j = 5 ∨ j = 6 ∨ j = 7 ∨ j = 8 ∨ j = 9 ∨ j = 10 ∨ j = 11 ∨ j = 12 ∨ j = 13 ∨ j = 14 ∨ j = 15 := by omega
  rcases this with rfl | rfl | rfl | rfl | rfl | rfl | rfl | rfl | rfl | rfl | rfl | rfl | rfl | rfl | rfl | rfl
  · rfl
  · rfl
  · rfl
  · rfl
  · rfl
  · rfl
  · rfl
  · rfl
  · rfl
  · rfl
  · rfl
  · rfl
  · rfl
  · rfl
  · rfl
  · rfl
set_option maxHeartbeats 4000000 in
set_option maxRecDepth 16384 in
theorem w0_14 (aC : Nat → ClassId) (aM : Nat → Nat) (h0 q0 : Nat) (u : TU) (w : Nat → Nat) : ∀ j, j < 5 → (LX aC h0 u ++ LM aC q0 w)[224 + j]? = some (adW aM h0 q0 u w (224 + j), pm_e aC (adW aM h0 q0 u w) ((hW u.2.1 u.2.2.2.2.2.2.1 u.2.2.2.2.2.2.2.1 u.2.2.2.2.2.2.2.2.2.2.2.2.1 u.2.2.2.2.2.2.2.2.2.2.2.2.2) (224 + j))) := by
  intro j hj
  have : j = 0 ∨ j = 1 ∨ j = 2 ∨ j = 3 ∨ j = 4 := by omega
  rcases this with rfl | rfl | rfl | rfl | rfl
  · rfl
  · rfl
  · rfl
  · rfl
  · rfl
theorem w0_eq (aC : Nat → ClassId) (aM : Nat → Nat) (h0 q0 : Nat) (u : TU) (w : Nat → Nat) : pm_w aC (adW aM h0 q0 u w) 229 (hW u.2.1 u.2.2.2.2.2.2.1 u.2.2.2.2.2.2.2.1 u.2.2.2.2.2.2.2.2.2.2.2.2.1 u.2.2.2.2.2.2.2.2.2.2.2.2.2) = LX aC h0 u ++ LM aC q0 w := by
  have hl : (LX aC h0 u ++ LM aC q0 w).length = 229 := rfl
  apply List.ext_getElem?
  intro k
  by_cases hk : k < 229
  · rw [pm_at hk]
    have : k / 16 = 0 ∨ k / 16 = 1 ∨ k / 16 = 2 ∨ k / 16 = 3 ∨ k / 16 = 4 ∨ k / 16 = 5 ∨ k / 16 = 6 ∨ k / 16 = 7 ∨ k / 16 = 8 ∨ k / 16 = 9 ∨ k / 16 = 10 ∨ k / 16 = 11 ∨ k / 16 = 12 ∨ k / 16 = 13 ∨ k / 16 = 14 := by omega
    have e : k = 16 * (k / 16) + k % 16 := by omega
    have m : k % 16 < 16 := Nat.mod_lt _ (by decide)
    rcases this with q | q | q | q | q | q | q | q | q | q | q | q | q | q | q
    · have t := w0_0 aC aM h0 q0 u w (k % 16) (by omega)
      rw [show 0 + k % 16 = k by omega] at t
      exact t.symm
    · have t := w0_1 aC aM h0 q0 u w (k % 16) (by omega)
      rw [show 16 + k % 16 = k by omega] at t
      exact t.symm
    · have t := w0_2 aC aM h0 q0 u w (k % 16) (by omega)
      rw [show 32 + k % 16 = k by omega] at t
      exact t.symm
    · have t := w0_3 aC aM h0 q0 u w (k % 16) (by omega)
      rw [show 48 + k % 16 = k by omega] at t
      exact t.symm
    · have t := w0_4 aC aM h0 q0 u w (k % 16) (by omega)
      rw [show 64 + k % 16 = k by omega] at t
      exact t.symm
    · have t := w0_5 aC aM h0 q0 u w (k % 16) (by omega)
      rw [show 80 + k % 16 = k by omega] at t
      exact t.symm
    · have t := w0_6 aC aM h0 q0 u w (k % 16) (by omega)
      rw [show 96 + k % 16 = k by omega] at t
      exact t.symm
    · have t := w0_7 aC aM h0 q0 u w (k % 16) (by omega)
      rw [show 112 + k % 16 = k by omega] at t
      exact t.symm
    · have t := w0_8 aC aM h0 q0 u w (k % 16) (by omega)
      rw [show 128 + k % 16 = k by omega] at t
      exact t.symm
    · have t := w0_9 aC aM h0 q0 u w (k % 16) (by omega)
      rw [show 144 + k % 16 = k by omega] at t
      exact t.symm
    · have t := w0_10 aC aM h0 q0 u w (k % 16) (by omega)
      rw [show 160 + k % 16 = k by omega] at t
      exact t.symm
    · have t := w0_11 aC aM h0 q0 u w (k % 16) (by omega)
      rw [show 176 + k % 16 = k by omega] at t
      exact t.symm
    · have t := w0_12 aC aM h0 q0 u w (k % 16) (by omega)
      rw [show 192 + k % 16 = k by omega] at t
      exact t.symm
    · have t := w0_13 aC aM h0 q0 u w (k % 16) (by omega)
      rw [show 208 + k % 16 = k by omega] at t
      exact t.symm
    · have t := w0_14 aC aM h0 q0 u w (k % 16) (by omega)
      rw [show 224 + k % 16 = k by omega] at t
      exact t.symm
  · rw [List.getElem?_eq_none (by simp [pm_w]; omega), List.getElem?_eq_none (by omega)]
