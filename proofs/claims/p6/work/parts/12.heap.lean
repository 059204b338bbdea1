/-! The heap behind the constructors: what its cells are, and what is in them. -/
def cl_lay : List sx_H := [(1, 9, 0, (0, 0), [(3, (0, 0), 9), (3, (0, 0), 14), (3, (0, 0), 21), (3, (0, 0), 25), (3, (0, 0), 29), (3, (0, 0), 32), (3, (0, 0), 34), (3, (0, 0), 37), (3, (0, 0), 40)]), (1, 1, 0, (0, 0), [(3, (0, 0), 10), (3, (0, 0), 11), (3, (0, 0), 12), (3, (0, 0), 13), (0, (.ofNat 0, .ofNat 6), 0), (0, (.ofNat 0, .ofNat 12), 0), (0, sx_r32, 0), (0, sx_r32, 0)]), (0, 0, 240, (.negSucc 0, .ofNat 143), []), (0, 0, 12, (.ofNat 0, .ofNat 5), []), (0, 0, 6, sx_r32, []), (0, 0, 5, sx_r32, []), (1, 5, 0, (0, 0), [(3, (0, 0), 15), (3, (0, 0), 16), (3, (0, 0), 17), (3, (0, 0), 18), (3, (0, 0), 19), (3, (0, 0), 20), (0, (.ofNat 0, .ofNat 120), 0), (0, (.ofNat 0, .ofNat 256), 0), (0, sx_r32, 0), (0, sx_r32, 0), (0, sx_r32, 0), (0, sx_r32, 0), (0, sx_r32, 0), (0, sx_r32, 0), (0, sx_r32, 0), (1, (.ofNat 0, .ofNat 1), 0)]), (0, 0, 120, (.ofNat 0, .ofNat 255), []), (0, 0, 256, (.negSucc 1099, .ofNat 9999), []), (0, 0, 256, (.negSucc 1099, .ofNat 9999), []), (0, 0, 128, (.ofNat 0, .ofNat 255), []), (0, 0, 128, sx_r32, []), (0, 0, 6, sx_r32, []), (1, 8, 0, (0, 0), [(3, (0, 0), 9), (3, (0, 0), 14), (3, (0, 0), 22), (3, (0, 0), 23), (3, (0, 0), 24), (2, sx_r64, 0), (0, sx_r32, 0), (0, sx_r32, 0), (0, sx_r32, 0)]), (0, 0, 6, sx_r32, []), (0, 0, 6, sx_r32, []), (0, 1, 6, sx_r64, []), (1, 6, 0, (0, 0), [(3, (0, 0), 9), (3, (0, 0), 26), (3, (0, 0), 27), (3, (0, 0), 28), (2, sx_r64, 0), (2, sx_r64, 0), (0, (.ofNat 0, .ofNat 4), 0), (0, sx_r32, 0)]), (0, 1, 30, sx_r64, []), (0, 0, 4, (.negSucc 1, .ofNat 11), []), (0, 0, 4, (.negSucc 1, .ofNat 11), []), (1, 2, 0, (0, 0), [(3, (0, 0), 9), (3, (0, 0), 30), (3, (0, 0), 31), (0, sx_r32, 0), (0, sx_r32, 0), (0, sx_r32, 0)]), (0, 0, 6, sx_r32, []), (0, 0, 6, sx_r32, []), (1, 0, 0, (0, 0), [(3, (0, 0), 33), (0, (.ofNat 0, .ofNat 40), 0), (0, (.ofNat 0, .ofNat 40), 0)]), (0, 0, 160, sx_r32, []), (1, 4, 0, (0, 0), [(3, (0, 0), 35), (3, (0, 0), 36), (1, (.ofNat 0, .ofNat 1), 0), (0, (.ofNat 0, .ofNat 29), 0), (0, (.ofNat 0, .ofNat 6), 0), (0, (.ofNat 0, .ofNat 12), 0), (0, sx_r32, 0), (0, sx_r32, 0)]), (0, 0, 6, sx_r32, []), (0, 0, 5, sx_r32, []), (1, 3, 0, (0, 0), [(3, (0, 0), 38), (3, (0, 0), 39), (0, (.ofNat 0, .ofNat 50), 0), (0, (.ofNat 0, .ofNat 1000000), 0)]), (0, 0, 50, (.ofNat 0, .ofNat 7), []), (0, 0, 24, sx_r32, []), (0, 4, 6, (0, 0), [(3, (0, 0), 41), (3, (0, 0), 43), (3, (0, 0), 45), (3, (0, 0), 47), (3, (0, 0), 49), (3, (0, 0), 51)]), (1, 7, 0, (0, 0), [(3, (0, 0), 42), (0, (.ofNat 0, .ofNat 60), 0), (0, (.negSucc 0, .ofNat 4), 0), (0, (.negSucc 0, .ofNat 49), 0)]), (0, 1, 60, sx_r64, []), (1, 7, 0, (0, 0), [(3, (0, 0), 44), (0, (.ofNat 0, .ofNat 60), 0), (0, (.negSucc 0, .ofNat 4), 0), (0, (.negSucc 0, .ofNat 49), 0)]), (0, 1, 60, sx_r64, []), (1, 7, 0, (0, 0), [(3, (0, 0), 46), (0, (.ofNat 0, .ofNat 60), 0), (0, (.negSucc 0, .ofNat 4), 0), (0, (.negSucc 0, .ofNat 49), 0)]), (0, 1, 60, sx_r64, []), (1, 7, 0, (0, 0), [(3, (0, 0), 48), (0, (.ofNat 0, .ofNat 60), 0), (0, (.negSucc 0, .ofNat 4), 0), (0, (.negSucc 0, .ofNat 49), 0)]), (0, 1, 60, sx_r64, []), (1, 7, 0, (0, 0), [(3, (0, 0), 50), (0, (.ofNat 0, .ofNat 60), 0), (0, (.negSucc 0, .ofNat 4), 0), (0, (.negSucc 0, .ofNat 49), 0)]), (0, 1, 60, sx_r64, []), (1, 7, 0, (0, 0), [(3, (0, 0), 52), (0, (.ofNat 0, .ofNat 60), 0), (0, (.negSucc 0, .ofNat 4), 0), (0, (.negSucc 0, .ofNat 49), 0)]), (0, 1, 60, sx_r64, []), (1, 10, 0, (0, 0), [(0, sx_r32, 0), (0, (.ofNat 0, .ofNat 6), 0), (3, (0, 0), 54), (3, (0, 0), 55), (3, (0, 0), 56), (3, (0, 0), 57), (3, (0, 0), 58), (0, sx_r32, 0), (0, (.ofNat 0, .ofNat 12), 0), (3, (0, 0), 59), (3, (0, 0), 60), (0, sx_r32, 0), (3, (0, 0), 61), (0, (.ofNat 0, .ofNat 29), 0), (0, (.ofNat 0, .ofNat 40), 0), (0, (.ofNat 0, .ofNat 40), 0), (3, (0, 0), 62), (3, (0, 0), 63), (3, (0, 0), 64), (3, (0, 0), 65), (3, (0, 0), 66), (0, (.ofNat 0, .ofNat 120), 0), (0, sx_r32, 0), (0, sx_r32, 0), (0, sx_r32, 0), (0, sx_r32, 0), (3, (0, 0), 67), (3, (0, 0), 68), (3, (0, 0), 69), (3, (0, 0), 70), (3, (0, 0), 71), (3, (0, 0), 72), (3, (0, 0), 73), (1, (.ofNat 0, .ofNat 1), 0), (3, (0, 0), 74), (0, sx_r32, 0), (0, sx_r32, 0), (3, (0, 0), 75), (3, (0, 0), 76), (3, (0, 0), 77), (3, (0, 0), 78), (3, (0, 0), 79), (2, sx_r64, 0), (3, (0, 0), 80), (3, (0, 0), 81), (0, sx_r32, 0), (0, sx_r32, 0), (0, sx_r32, 0), (3, (0, 0), 82), (1, (.ofNat 0, .ofNat 1), 0), (0, (.ofNat 0, .ofNat 6), 0), (0, (.ofNat 0, .ofNat 12), 0), (0, sx_r32, 0), (0, sx_r32, 0), (0, (.ofNat 0, .ofNat 29), 0), (3, (0, 0), 83), (3, (0, 0), 84), (0, (.ofNat 0, .ofNat 50), 0), (3, (0, 0), 85), (0, (.ofNat 0, .ofNat 1000000), 0), (3, (0, 0), 86), (3, (0, 0), 87), (3, (0, 0), 88), (3, (0, 0), 89), (3, (0, 0), 90)]), (0, 0, 6, (.negSucc 0, .ofNat 143), []), (0, 0, 6, (.negSucc 0, .ofNat 143), []), (0, 0, 6, (.negSucc 0, .ofNat 143), []), (0, 0, 6, (.negSucc 0, .ofNat 143), []), (0, 0, 6, (.negSucc 0, .ofNat 143), []), (0, 0, 12, (.ofNat 0, .ofNat 5), []), (0, 0, 12, (.negSucc 0, .ofNat 143), []), (0, 0, 30, (.negSucc 0, .ofNat 143), []), (0, 0, 40, sx_r32, []), (0, 0, 40, sx_r32, []), (0, 0, 40, sx_r32, []), (0, 0, 40, sx_r32, []), (0, 2, 120, (.negSucc 127, .ofNat 127), []), (0, 2, 260, (.negSucc 127, .ofNat 127), []), (0, 0, 260, sx_r32, []), (0, 0, 2, sx_r32, []), (0, 3, 122, (.negSucc 32767, .ofNat 32767), []), (0, 3, 122, (.negSucc 32767, .ofNat 32767), []), (0, 0, 6, sx_r32, []), (0, 0, 130, sx_r32, []), (0, 0, 6, sx_r32, []), (0, 0, 6, sx_r32, []), (0, 0, 30, sx_r32, []), (0, 0, 30, sx_r32, []), (0, 0, 4, sx_r32, []), (0, 0, 4, sx_r32, []), (0, 0, 6, sx_r32, []), (0, 0, 6, sx_r32, []), (0, 0, 5, sx_r32, []), (0, 0, 6, sx_r32, []), (0, 0, 5, sx_r32, []), (0, 0, 50, (.ofNat 0, .ofNat 7), []), (0, 0, 24, sx_r32, []), (0, 0, 6, (.negSucc 5, .ofNat 49), []), (0, 0, 6, (.ofNat 0, .ofNat 60), []), (0, 1, 360, sx_r64, []), (0, 1, 60, sx_r64, [])]
noncomputable def cl_ly (k : Nat) : Option sx_H := bif Nat.blt k 91 then (bif Nat.blt k 8 then none else bif Nat.blt k 49 then (bif Nat.blt k 28 then (bif Nat.blt k 18 then (bif Nat.blt k 13 then (bif Nat.blt k 10 then (bif Nat.blt k 9 then (bif Nat.beq k 8 then some (1, 9, 0, (0, 0), [(3, (0, 0), 9), (3, (0, 0), 14), (3, (0, 0), 21), (3, (0, 0), 25), (3, (0, 0), 29), (3, (0, 0), 32), (3, (0, 0), 34), (3, (0, 0), 37), (3, (0, 0), 40)]) else none) else (bif Nat.beq k 9 then some (1, 1, 0, (0, 0), [(3, (0, 0), 10), (3, (0, 0), 11), (3, (0, 0), 12), (3, (0, 0), 13), (0, (.ofNat 0, .ofNat 6), 0), (0, (.ofNat 0, .ofNat 12), 0), (0, sx_r32, 0), (0, sx_r32, 0)]) else none)) else (bif Nat.blt k 11 then (bif Nat.beq k 10 then some (0, 0, 240, (.negSucc 0, .ofNat 143), []) else none) else (bif Nat.blt k 12 then (bif Nat.beq k 11 then some (0, 0, 12, (.ofNat 0, .ofNat 5), []) else none) else (bif Nat.beq k 12 then some (0, 0, 6, sx_r32, []) else none)))) else (bif Nat.blt k 15 then (bif Nat.blt k 14 then (bif Nat.beq k 13 then some (0, 0, 5, sx_r32, []) else none) else (bif Nat.beq k 14 then some (1, 5, 0, (0, 0), [(3, (0, 0), 15), (3, (0, 0), 16), (3, (0, 0), 17), (3, (0, 0), 18), (3, (0, 0), 19), (3, (0, 0), 20), (0, (.ofNat 0, .ofNat 120), 0), (0, (.ofNat 0, .ofNat 256), 0), (0, sx_r32, 0), (0, sx_r32, 0), (0, sx_r32, 0), (0, sx_r32, 0), (0, sx_r32, 0), (0, sx_r32, 0), (0, sx_r32, 0), (1, (.ofNat 0, .ofNat 1), 0)]) else none)) else (bif Nat.blt k 16 then (bif Nat.beq k 15 then some (0, 0, 120, (.ofNat 0, .ofNat 255), []) else none) else (bif Nat.blt k 17 then (bif Nat.beq k 16 then some (0, 0, 256, (.negSucc 1099, .ofNat 9999), []) else none) else (bif Nat.beq k 17 then some (0, 0, 256, (.negSucc 1099, .ofNat 9999), []) else none))))) else (bif Nat.blt k 23 then (bif Nat.blt k 20 then (bif Nat.blt k 19 then (bif Nat.beq k 18 then some (0, 0, 128, (.ofNat 0, .ofNat 255), []) else none) else (bif Nat.beq k 19 then some (0, 0, 128, sx_r32, []) else none)) else (bif Nat.blt k 21 then (bif Nat.beq k 20 then some (0, 0, 6, sx_r32, []) else none) else (bif Nat.blt k 22 then (bif Nat.beq k 21 then some (1, 8, 0, (0, 0), [(3, (0, 0), 9), (3, (0, 0), 14), (3, (0, 0), 22), (3, (0, 0), 23), (3, (0, 0), 24), (2, sx_r64, 0), (0, sx_r32, 0), (0, sx_r32, 0), (0, sx_r32, 0)]) else none) else (bif Nat.beq k 22 then some (0, 0, 6, sx_r32, []) else none)))) else (bif Nat.blt k 25 then (bif Nat.blt k 24 then (bif Nat.beq k 23 then some (0, 0, 6, sx_r32, []) else none) else (bif Nat.beq k 24 then some (0, 1, 6, sx_r64, []) else none)) else (bif Nat.blt k 26 then (bif Nat.beq k 25 then some (1, 6, 0, (0, 0), [(3, (0, 0), 9), (3, (0, 0), 26), (3, (0, 0), 27), (3, (0, 0), 28), (2, sx_r64, 0), (2, sx_r64, 0), (0, (.ofNat 0, .ofNat 4), 0), (0, sx_r32, 0)]) else none) else (bif Nat.blt k 27 then (bif Nat.beq k 26 then some (0, 1, 30, sx_r64, []) else none) else (bif Nat.beq k 27 then some (0, 0, 4, (.negSucc 1, .ofNat 11), []) else none)))))) else (bif Nat.blt k 38 then (bif Nat.blt k 33 then (bif Nat.blt k 30 then (bif Nat.blt k 29 then (bif Nat.beq k 28 then some (0, 0, 4, (.negSucc 1, .ofNat 11), []) else none) else (bif Nat.beq k 29 then some (1, 2, 0, (0, 0), [(3, (0, 0), 9), (3, (0, 0), 30), (3, (0, 0), 31), (0, sx_r32, 0), (0, sx_r32, 0), (0, sx_r32, 0)]) else none)) else (bif Nat.blt k 31 then (bif Nat.beq k 30 then some (0, 0, 6, sx_r32, []) else none) else (bif Nat.blt k 32 then (bif Nat.beq k 31 then some (0, 0, 6, sx_r32, []) else none) else (bif Nat.beq k 32 then some (1, 0, 0, (0, 0), [(3, (0, 0), 33), (0, (.ofNat 0, .ofNat 40), 0), (0, (.ofNat 0, .ofNat 40), 0)]) else none)))) else (bif Nat.blt k 35 then (bif Nat.blt k 34 then (bif Nat.beq k 33 then some (0, 0, 160, sx_r32, []) else none) else (bif Nat.beq k 34 then some (1, 4, 0, (0, 0), [(3, (0, 0), 35), (3, (0, 0), 36), (1, (.ofNat 0, .ofNat 1), 0), (0, (.ofNat 0, .ofNat 29), 0), (0, (.ofNat 0, .ofNat 6), 0), (0, (.ofNat 0, .ofNat 12), 0), (0, sx_r32, 0), (0, sx_r32, 0)]) else none)) else (bif Nat.blt k 36 then (bif Nat.beq k 35 then some (0, 0, 6, sx_r32, []) else none) else (bif Nat.blt k 37 then (bif Nat.beq k 36 then some (0, 0, 5, sx_r32, []) else none) else (bif Nat.beq k 37 then some (1, 3, 0, (0, 0), [(3, (0, 0), 38), (3, (0, 0), 39), (0, (.ofNat 0, .ofNat 50), 0), (0, (.ofNat 0, .ofNat 1000000), 0)]) else none))))) else (bif Nat.blt k 43 then (bif Nat.blt k 40 then (bif Nat.blt k 39 then (bif Nat.beq k 38 then some (0, 0, 50, (.ofNat 0, .ofNat 7), []) else none) else (bif Nat.beq k 39 then some (0, 0, 24, sx_r32, []) else none)) else (bif Nat.blt k 41 then (bif Nat.beq k 40 then some (0, 4, 6, (0, 0), [(3, (0, 0), 41), (3, (0, 0), 43), (3, (0, 0), 45), (3, (0, 0), 47), (3, (0, 0), 49), (3, (0, 0), 51)]) else none) else (bif Nat.blt k 42 then (bif Nat.beq k 41 then some (1, 7, 0, (0, 0), [(3, (0, 0), 42), (0, (.ofNat 0, .ofNat 60), 0), (0, (.negSucc 0, .ofNat 4), 0), (0, (.negSucc 0, .ofNat 49), 0)]) else none) else (bif Nat.beq k 42 then some (0, 1, 60, sx_r64, []) else none)))) else (bif Nat.blt k 46 then (bif Nat.blt k 44 then (bif Nat.beq k 43 then some (1, 7, 0, (0, 0), [(3, (0, 0), 44), (0, (.ofNat 0, .ofNat 60), 0), (0, (.negSucc 0, .ofNat 4), 0), (0, (.negSucc 0, .ofNat 49), 0)]) else none) else (bif Nat.blt k 45 then (bif Nat.beq k 44 then some (0, 1, 60, sx_r64, []) else none) else (bif Nat.beq k 45 then some (1, 7, 0, (0, 0), [(3, (0, 0), 46), (0, (.ofNat 0, .ofNat 60), 0), (0, (.negSucc 0, .ofNat 4), 0), (0, (.negSucc 0, .ofNat 49), 0)]) else none))) else (bif Nat.blt k 47 then (bif Nat.beq k 46 then some (0, 1, 60, sx_r64, []) else none) else (bif Nat.blt k 48 then (bif Nat.beq k 47 then some (1, 7, 0, (0, 0), [(3, (0, 0), 48), (0, (.ofNat 0, .ofNat 60), 0), (0, (.negSucc 0, .ofNat 4), 0), (0, (.negSucc 0, .ofNat 49), 0)]) else none) else (bif Nat.beq k 48 then some (0, 1, 60, sx_r64, []) else none))))))) else (bif Nat.blt k 70 then (bif Nat.blt k 59 then (bif Nat.blt k 54 then (bif Nat.blt k 51 then (bif Nat.blt k 50 then (bif Nat.beq k 49 then some (1, 7, 0, (0, 0), [(3, (0, 0), 50), (0, (.ofNat 0, .ofNat 60), 0), (0, (.negSucc 0, .ofNat 4), 0), (0, (.negSucc 0, .ofNat 49), 0)]) else none) else (bif Nat.beq k 50 then some (0, 1, 60, sx_r64, []) else none)) else (bif Nat.blt k 52 then (bif Nat.beq k 51 then some (1, 7, 0, (0, 0), [(3, (0, 0), 52), (0, (.ofNat 0, .ofNat 60), 0), (0, (.negSucc 0, .ofNat 4), 0), (0, (.negSucc 0, .ofNat 49), 0)]) else none) else (bif Nat.blt k 53 then (bif Nat.beq k 52 then some (0, 1, 60, sx_r64, []) else none) else (bif Nat.beq k 53 then some (1, 10, 0, (0, 0), [(0, sx_r32, 0), (0, (.ofNat 0, .ofNat 6), 0), (3, (0, 0), 54), (3, (0, 0), 55), (3, (0, 0), 56), (3, (0, 0), 57), (3, (0, 0), 58), (0, sx_r32, 0), (0, (.ofNat 0, .ofNat 12), 0), (3, (0, 0), 59), (3, (0, 0), 60), (0, sx_r32, 0), (3, (0, 0), 61), (0, (.ofNat 0, .ofNat 29), 0), (0, (.ofNat 0, .ofNat 40), 0), (0, (.ofNat 0, .ofNat 40), 0), (3, (0, 0), 62), (3, (0, 0), 63), (3, (0, 0), 64), (3, (0, 0), 65), (3, (0, 0), 66), (0, (.ofNat 0, .ofNat 120), 0), (0, sx_r32, 0), (0, sx_r32, 0), (0, sx_r32, 0), (0, sx_r32, 0), (3, (0, 0), 67), (3, (0, 0), 68), (3, (0, 0), 69), (3, (0, 0), 70), (3, (0, 0), 71), (3, (0, 0), 72), (3, (0, 0), 73), (1, (.ofNat 0, .ofNat 1), 0), (3, (0, 0), 74), (0, sx_r32, 0), (0, sx_r32, 0), (3, (0, 0), 75), (3, (0, 0), 76), (3, (0, 0), 77), (3, (0, 0), 78), (3, (0, 0), 79), (2, sx_r64, 0), (3, (0, 0), 80), (3, (0, 0), 81), (0, sx_r32, 0), (0, sx_r32, 0), (0, sx_r32, 0), (3, (0, 0), 82), (1, (.ofNat 0, .ofNat 1), 0), (0, (.ofNat 0, .ofNat 6), 0), (0, (.ofNat 0, .ofNat 12), 0), (0, sx_r32, 0), (0, sx_r32, 0), (0, (.ofNat 0, .ofNat 29), 0), (3, (0, 0), 83), (3, (0, 0), 84), (0, (.ofNat 0, .ofNat 50), 0), (3, (0, 0), 85), (0, (.ofNat 0, .ofNat 1000000), 0), (3, (0, 0), 86), (3, (0, 0), 87), (3, (0, 0), 88), (3, (0, 0), 89), (3, (0, 0), 90)]) else none)))) else (bif Nat.blt k 56 then (bif Nat.blt k 55 then (bif Nat.beq k 54 then some (0, 0, 6, (.negSucc 0, .ofNat 143), []) else none) else (bif Nat.beq k 55 then some (0, 0, 6, (.negSucc 0, .ofNat 143), []) else none)) else (bif Nat.blt k 57 then (bif Nat.beq k 56 then some (0, 0, 6, (.negSucc 0, .ofNat 143), []) else none) else (bif Nat.blt k 58 then (bif Nat.beq k 57 then some (0, 0, 6, (.negSucc 0, .ofNat 143), []) else none) else (bif Nat.beq k 58 then some (0, 0, 6, (.negSucc 0, .ofNat 143), []) else none))))) else (bif Nat.blt k 64 then (bif Nat.blt k 61 then (bif Nat.blt k 60 then (bif Nat.beq k 59 then some (0, 0, 12, (.ofNat 0, .ofNat 5), []) else none) else (bif Nat.beq k 60 then some (0, 0, 12, (.negSucc 0, .ofNat 143), []) else none)) else (bif Nat.blt k 62 then (bif Nat.beq k 61 then some (0, 0, 30, (.negSucc 0, .ofNat 143), []) else none) else (bif Nat.blt k 63 then (bif Nat.beq k 62 then some (0, 0, 40, sx_r32, []) else none) else (bif Nat.beq k 63 then some (0, 0, 40, sx_r32, []) else none)))) else (bif Nat.blt k 67 then (bif Nat.blt k 65 then (bif Nat.beq k 64 then some (0, 0, 40, sx_r32, []) else none) else (bif Nat.blt k 66 then (bif Nat.beq k 65 then some (0, 0, 40, sx_r32, []) else none) else (bif Nat.beq k 66 then some (0, 2, 120, (.negSucc 127, .ofNat 127), []) else none))) else (bif Nat.blt k 68 then (bif Nat.beq k 67 then some (0, 2, 260, (.negSucc 127, .ofNat 127), []) else none) else (bif Nat.blt k 69 then (bif Nat.beq k 68 then some (0, 0, 260, sx_r32, []) else none) else (bif Nat.beq k 69 then some (0, 0, 2, sx_r32, []) else none)))))) else (bif Nat.blt k 80 then (bif Nat.blt k 75 then (bif Nat.blt k 72 then (bif Nat.blt k 71 then (bif Nat.beq k 70 then some (0, 3, 122, (.negSucc 32767, .ofNat 32767), []) else none) else (bif Nat.beq k 71 then some (0, 3, 122, (.negSucc 32767, .ofNat 32767), []) else none)) else (bif Nat.blt k 73 then (bif Nat.beq k 72 then some (0, 0, 6, sx_r32, []) else none) else (bif Nat.blt k 74 then (bif Nat.beq k 73 then some (0, 0, 130, sx_r32, []) else none) else (bif Nat.beq k 74 then some (0, 0, 6, sx_r32, []) else none)))) else (bif Nat.blt k 77 then (bif Nat.blt k 76 then (bif Nat.beq k 75 then some (0, 0, 6, sx_r32, []) else none) else (bif Nat.beq k 76 then some (0, 0, 30, sx_r32, []) else none)) else (bif Nat.blt k 78 then (bif Nat.beq k 77 then some (0, 0, 30, sx_r32, []) else none) else (bif Nat.blt k 79 then (bif Nat.beq k 78 then some (0, 0, 4, sx_r32, []) else none) else (bif Nat.beq k 79 then some (0, 0, 4, sx_r32, []) else none))))) else (bif Nat.blt k 85 then (bif Nat.blt k 82 then (bif Nat.blt k 81 then (bif Nat.beq k 80 then some (0, 0, 6, sx_r32, []) else none) else (bif Nat.beq k 81 then some (0, 0, 6, sx_r32, []) else none)) else (bif Nat.blt k 83 then (bif Nat.beq k 82 then some (0, 0, 5, sx_r32, []) else none) else (bif Nat.blt k 84 then (bif Nat.beq k 83 then some (0, 0, 6, sx_r32, []) else none) else (bif Nat.beq k 84 then some (0, 0, 5, sx_r32, []) else none)))) else (bif Nat.blt k 88 then (bif Nat.blt k 86 then (bif Nat.beq k 85 then some (0, 0, 50, (.ofNat 0, .ofNat 7), []) else none) else (bif Nat.blt k 87 then (bif Nat.beq k 86 then some (0, 0, 24, sx_r32, []) else none) else (bif Nat.beq k 87 then some (0, 0, 6, (.negSucc 5, .ofNat 49), []) else none))) else (bif Nat.blt k 89 then (bif Nat.beq k 88 then some (0, 0, 6, (.ofNat 0, .ofNat 60), []) else none) else (bif Nat.blt k 90 then (bif Nat.beq k 89 then some (0, 1, 360, sx_r64, []) else none) else (bif Nat.beq k 90 then some (0, 1, 60, sx_r64, []) else none)))))))) else none
noncomputable def cl_bs (k : Nat) (i : Int) : Option Int := bif Nat.blt k 47 then (bif Nat.blt k 43 then (bif Nat.blt k 41 then (bif Nat.beq k 10 then bif sx_an (sx_le 150 i) (sx_le i 179) then some (.ofNat 5) else some 0 else some 0) else (bif Nat.beq k 41 then bif sx_eq i 3 then some (.negSucc 0) else bif sx_eq i 2 then some (.negSucc 0) else some 0 else some 0)) else (bif Nat.blt k 45 then (bif Nat.beq k 43 then bif sx_eq i 3 then some (.negSucc 0) else bif sx_eq i 2 then some (.negSucc 0) else some 0 else some 0) else (bif Nat.beq k 45 then bif sx_eq i 3 then some (.negSucc 0) else bif sx_eq i 2 then some (.negSucc 0) else some 0 else some 0))) else (bif Nat.blt k 51 then (bif Nat.blt k 49 then (bif Nat.beq k 47 then bif sx_eq i 3 then some (.negSucc 0) else bif sx_eq i 2 then some (.negSucc 0) else some 0 else some 0) else (bif Nat.beq k 49 then bif sx_eq i 3 then some (.negSucc 0) else bif sx_eq i 2 then some (.negSucc 0) else some 0 else some 0)) else (bif Nat.blt k 61 then (bif Nat.beq k 51 then bif sx_eq i 3 then some (.negSucc 0) else bif sx_eq i 2 then some (.negSucc 0) else some 0 else some 0) else (bif Nat.blt k 87 then (bif Nat.beq k 61 then bif sx_an (sx_le 0 i) (sx_le i 29) then some (.ofNat 5) else some 0 else some 0) else (bif Nat.beq k 87 then bif sx_an (sx_le 0 i) (sx_le i 5) then some (.negSucc 0) else some 0 else some 0))))
def cl_rc : List (List Int) := [[0, 0, 0, 0, 1, 0, -1, 0], [143, 12, 9, 9, 9, 9, 29, 29], [-1, 0, 0, 2, 1, 3, 0, 6], [1, 10, 11, 2, 20, 0, 0, 0, 0, 30, 0, 0, 0, 41, 40, 0, 0, 0, 0, 50, 0, 0, 60, 61, 70, 0, 0, 0, 81, 80, 0, 0]]
theorem cl_rc_eq : cl_rc = sm_SV.map (fun v => v.map Int32.toInt) := by decide +kernel
theorem cl_hro (L : Nat) (xs : Nat → Int32) : sx_hro cl_rc (sm_RO L xs) xs L := by
  refine ⟨rfl, fun a w hw => ?_⟩
  rw [cl_rc_eq, List.getElem?_map] at hw
  obtain ⟨v, hv, rfl⟩ := Option.map_eq_some_iff.mp hw
  refine ⟨fun j => v.getD j 0, ?_, fun j z hz => ?_⟩
  · unfold sm_RO
    rw [List.getElem?_cons_succ, List.getElem?_map, hv, List.length_map]
    rfl
  · rw [List.getElem?_map] at hz
    obtain ⟨x, hx, rfl⟩ := Option.map_eq_some_iff.mp hz
    refine ⟨?_, sx_w32 x⟩
    show v.getD j 0 = _
    rw [List.getD_eq_getElem?_getD, hx, Int32.ofInt_toInt]
    rfl
def sx_eqF (a b : List (Nat × (Int × Int) × Nat)) : Bool := match a, b with
  | [], [] => true
  | x :: a, y :: b => sx_an (sx_an (Nat.beq x.1 y.1) (sx_an (sx_pe x.2.1 y.2.1) (Nat.beq x.2.2 y.2.2))) (sx_eqF a b)
  | _, _ => false
def sx_eqH (a b : sx_H) : Bool := sx_an (sx_an (Nat.beq a.1 b.1) (Nat.beq a.2.1 b.2.1)) (sx_an (Nat.beq a.2.2.1 b.2.2.1) (sx_an (sx_pe a.2.2.2.1 b.2.2.2.1) (sx_eqF a.2.2.2.2 b.2.2.2.2)))
theorem sx_pe_ok {p q : Int × Int} (h : sx_pe p q = true) : p = q := by
  obtain ⟨h1, h2⟩ := sx_an_iff.mp h
  exact Prod.ext (sx_eq_iff.mp h1) (sx_eq_iff.mp h2)
theorem sx_eqF_ok : ∀ {a b : List (Nat × (Int × Int) × Nat)}, sx_eqF a b = true → a = b := by
  intro a
  induction a with
  | nil =>
    intro b h
    cases b with
    | nil => rfl
    | cons y b => cases h
  | cons x a ih =>
    intro b h
    cases b with
    | nil => cases h
    | cons y b =>
      obtain ⟨h1, h2⟩ := sx_an_iff.mp (show sx_an (sx_an (Nat.beq x.1 y.1) (sx_an (sx_pe x.2.1 y.2.1) (Nat.beq x.2.2 y.2.2))) (sx_eqF a b) = true from h)
      obtain ⟨h1, h3⟩ := sx_an_iff.mp h1
      obtain ⟨h3, h4⟩ := sx_an_iff.mp h3
      rw [ih h2, show x = y from Prod.ext (sx_nbeq.mp h1) (Prod.ext (sx_pe_ok h3) (sx_nbeq.mp h4))]
theorem sx_eqH_ok {a b : sx_H} (h : sx_eqH a b = true) : a = b := by
  obtain ⟨h1, h2⟩ := sx_an_iff.mp h
  obtain ⟨h1, h3⟩ := sx_an_iff.mp h1
  obtain ⟨h2, h4⟩ := sx_an_iff.mp h2
  obtain ⟨h4, h5⟩ := sx_an_iff.mp h4
  exact Prod.ext (sx_nbeq.mp h1) (Prod.ext (sx_nbeq.mp h3) (Prod.ext (sx_nbeq.mp h2) (Prod.ext (sx_pe_ok h4) (sx_eqF_ok h5))))
noncomputable def cl_lyc (k : Nat) : Bool := match cl_ly k with
  | none => true
  | some h => sx_an (Nat.ble 8 k) (sx_an (match cl_lay[k - 8]? with
    | some g => sx_eqH g h
    | none => false) (sx_gd h))
theorem cl_lyc_all : (List.range 91).all cl_lyc = true := by decide +kernel
theorem cl_lok : sx_lok cl_ly cl_lay := by
  intro k h e
  have hk : k < 91 := by
    have e9 := e
    unfold cl_ly at e9
    exact sx_blt (sx_bif e9).1
  have := List.all_eq_true.mp cl_lyc_all k (List.mem_range.mpr hk)
  unfold cl_lyc at this
  rw [e] at this
  obtain ⟨a, b⟩ := sx_an_iff.mp this
  obtain ⟨b, c⟩ := sx_an_iff.mp b
  refine ⟨Nat.le_of_ble_eq_true a, by omega, ?_, c⟩
  cases eg : cl_lay[k - 8]? with
  | none => rw [eg] at b; cases b
  | some g =>
    rw [eg] at b
    rw [sx_eqH_ok b]
-- the constructors, worked out
noncomputable def cl_r1 : Option (Option Value × sm_H) := sm_run sm_MT sm_LK [] sm_NV sm_cq 5000 99 1 0 [(0, .ref 8)] [] [.inr (9, sm_NV 9)]
def cl_is (r : Option (Option Value × sm_H)) : Bool := match r with
  | some (none, _) => true
  | _ => false
def cl_gt (r : Option (Option Value × sm_H)) : sm_H := match r with
  | some (_, h) => h
  | none => []
theorem cl_is_eq {r : Option (Option Value × sm_H)} (h : cl_is r = true) : r = some (none, cl_gt r) := by
  unfold cl_is at h
  split at h
  · rfl
  · cases h
set_option maxRecDepth 100000 in
theorem cl_r1_is : cl_is cl_r1 = true := by decide +kernel
set_option maxRecDepth 100000 in
theorem cl_r1_len : (cl_gt cl_r1).length = 45 := by decide +kernel
noncomputable def cl_r2 : Option (Option Value × sm_H) := sm_run sm_MT sm_LK [] sm_NV sm_cq 5000 99 152 0 [(0, .ref 53)] [] (cl_gt cl_r1 ++ [.inr (10, sm_NV 10)])
set_option maxRecDepth 100000 in
theorem cl_r2_is : cl_is cl_r2 = true := by decide +kernel
noncomputable def cl_h : sm_H := cl_gt cl_r2
/-- what is read of a cell -/
def sx_rd (c : sm_C) (i : Nat) : Int := match c with
  | .inl (_, _, .inl f) => (f i).toInt
  | .inl (_, _, .inr (.inl f)) => (f i).toInt
  | .inr (_, fs) => (match fs[i]? with
    | some (.int z) => z.toInt
    | some (.long z) => z.toInt
    | _ => 0)
  | _ => 0
def sx_rr (c : sm_C) : Nat → Option Nat := match c with
  | .inl (_, _, .inr (.inr (.inr (.inr f)))) => f
  | _ => fun _ => none
def sx_fitf (fs : List Value) (qs : List (Nat × (Int × Int) × Nat)) : Bool := match fs, qs with
  | [], [] => true
  | .int _ :: fs, q :: qs => sx_an (Nat.ble q.1 1) (sx_fitf fs qs)
  | .long _ :: fs, q :: qs => sx_an (Nat.beq q.1 2) (sx_fitf fs qs)
  | .ref r :: fs, q :: qs => sx_an (sx_an (Nat.beq q.1 3) (Nat.beq q.2.2 r)) (sx_fitf fs qs)
  | _, _ => false
def sx_fit (c : sm_C) (h : sx_H) : Bool := match c with
  | .inl (t, n, .inl _) => sx_an (sx_an (Nat.beq h.1 0) (Nat.beq h.2.1 t)) (sx_an (Nat.beq h.2.2.1 n) (bif Nat.beq t 1 then false else bif Nat.beq t 4 then false else true))
  | .inl (t, n, .inr (.inl _)) => sx_an (sx_an (Nat.beq h.1 0) (Nat.beq h.2.1 1)) (sx_an (Nat.beq h.2.2.1 n) (Nat.beq t 1))
  | .inl (t, n, .inr (.inr (.inr (.inr _)))) => sx_an (sx_an (Nat.beq h.1 0) (Nat.beq h.2.1 4)) (sx_an (Nat.beq h.2.2.1 n) (Nat.beq t 4))
  | .inr (ci, fs) => sx_an (sx_an (Nat.beq h.1 1) (Nat.beq h.2.1 ci)) (sx_fitf fs h.2.2.2.2)
  | _ => false
theorem sx_fitf_ok : ∀ (fs : List Value) (qs : List (Nat × (Int × Int) × Nat)), sx_fitf fs qs = true → ∀ i : Nat, fs[i]? = (qs[i]?).map (fun q => sx_fv (match fs[i]? with
    | some (Value.int z) => z.toInt
    | some (Value.long z) => z.toInt
    | _ => 0) q) := by
  intro fs
  induction fs with
  | nil =>
    intro qs h i
    cases qs with
    | nil => rfl
    | cons q qs => cases h
  | cons v fs ih =>
    intro qs h i
    cases qs with
    | nil => cases v <;> cases h
    | cons q qs =>
      cases v with
      | int z =>
        obtain ⟨a, b⟩ := sx_an_iff.mp (show sx_an (Nat.ble q.1 1) (sx_fitf fs qs) = true from h)
        cases i with
        | zero =>
          have a := Nat.le_of_ble_eq_true a
          show some (Value.int z) = some (sx_fv z.toInt q)
          unfold sx_fv
          rw [if_neg (by omega), if_neg (by omega), Int32.ofInt_toInt]
        | succ i => exact ih qs b i
      | long z =>
        obtain ⟨a, b⟩ := sx_an_iff.mp (show sx_an (Nat.beq q.1 2) (sx_fitf fs qs) = true from h)
        cases i with
        | zero =>
          have a := sx_nbeq.mp a
          show some (Value.long z) = some (sx_fv z.toInt q)
          unfold sx_fv
          rw [if_neg (by omega), if_pos a, Int64.ofInt_toInt]
        | succ i => exact ih qs b i
      | ref r =>
        obtain ⟨a, b⟩ := sx_an_iff.mp (show sx_an (sx_an (Nat.beq q.1 3) (Nat.beq q.2.2 r)) (sx_fitf fs qs) = true from h)
        obtain ⟨a, c⟩ := sx_an_iff.mp a
        cases i with
        | zero =>
          show some (Value.ref r) = some (sx_fv 0 q)
          unfold sx_fv
          rw [if_pos (sx_nbeq.mp a), sx_nbeq.mp c]
        | succ i => exact ih qs b i
      | float z => cases h
      | double z => cases h
      | null => cases h
      | retAddr z => cases h
theorem sx_fit_ok {c : sm_C} {h : sx_H} (e : sx_fit c h = true) : c = sx_hc (sx_rd c) (sx_rr c) h := by
  unfold sx_fit at e
  split at e
  · rename_i t n f
    obtain ⟨e1, e2⟩ := sx_an_iff.mp e
    obtain ⟨e1, e3⟩ := sx_an_iff.mp e1
    obtain ⟨e2, e4⟩ := sx_an_iff.mp e2
    have t1 : t ≠ 1 := fun h => by rw [sx_nbeq.mpr h] at e4; cases e4
    have t4 : t ≠ 4 := fun h => by rw [sx_nbeq_f.mpr t1, sx_nbeq.mpr h] at e4; cases e4
    rw [sx_hc_ints (sx_nbeq.mp e1) (sx_nbeq.mp e3) t1 t4, sx_nbeq.mp e2]
    have : (fun i => Int32.ofInt (sx_rd (.inl (t, n, .inl f)) i)) = f := by
      funext i
      show Int32.ofInt (f i).toInt = _
      rw [Int32.ofInt_toInt]
    rw [this]
  · rename_i t n f
    obtain ⟨e1, e2⟩ := sx_an_iff.mp e
    obtain ⟨e1, e3⟩ := sx_an_iff.mp e1
    obtain ⟨e2, e4⟩ := sx_an_iff.mp e2
    rw [sx_hc_longs (sx_nbeq.mp e1) (sx_nbeq.mp e3), sx_nbeq.mp e2, sx_nbeq.mp e4]
    have : (fun i => Int64.ofInt (sx_rd (.inl (1, n, .inr (.inl f))) i)) = f := by
      funext i
      show Int64.ofInt (f i).toInt = _
      rw [Int64.ofInt_toInt]
    rw [this]
  · rename_i t n f
    obtain ⟨e1, e2⟩ := sx_an_iff.mp e
    obtain ⟨e1, e3⟩ := sx_an_iff.mp e1
    obtain ⟨e2, e4⟩ := sx_an_iff.mp e2
    rw [sx_hc_refs (sx_nbeq.mp e1) (sx_nbeq.mp e3), sx_nbeq.mp e2, sx_nbeq.mp e4]
    rfl
  · rename_i ci fs
    obtain ⟨e1, e2⟩ := sx_an_iff.mp e
    obtain ⟨e1, e3⟩ := sx_an_iff.mp e1
    rw [sx_hc_obj (sx_nbeq.mp e1), sx_nbeq.mp e3]
    have : fs = h.2.2.2.2.mapIdx fun i q => sx_fv (sx_rd (.inr (ci, fs)) i) q := by
      apply List.ext_getElem?
      intro i
      rw [List.getElem?_mapIdx]
      exact sx_fitf_ok fs _ e2 i
    exact congrArg (fun z => (Sum.inr (ci, z) : sm_C)) this
  · cases e
noncomputable def cl_cell (k : Nat) : sm_C := (cl_h[k - 8]?).getD (.inr (0, []))
noncomputable def cl_M0 (k i : Nat) : Int := sx_rd (cl_cell k) i
noncomputable def cl_rf (k : Nat) : Nat → Option Nat := sx_rr (cl_cell k)
noncomputable def cl_fits (k : Nat) : Bool := match cl_lay[k]? with
  | some h => sx_fit (cl_cell (k + 8)) h
  | none => false
set_option maxRecDepth 100000 in
theorem cl_fits_all : (List.range 83).all cl_fits = true := by decide +kernel
set_option maxRecDepth 100000 in
theorem cl_h_len : cl_h.length = 83 := by decide +kernel
theorem cl_lay_len : cl_lay.length = 83 := by decide +kernel
theorem cl_h_eq : cl_h = sx_HH cl_lay cl_rf cl_M0 := by
  apply List.ext_getElem?
  intro k
  rw [sx_HH_get]
  by_cases hk : k < 83
  · have := List.all_eq_true.mp cl_fits_all k (List.mem_range.mpr hk)
    unfold cl_fits at this
    cases e : cl_lay[k]? with
    | none => rw [e] at this; cases this
    | some h =>
      rw [e] at this
      have h1 := sx_fit_ok (show sx_fit (cl_cell (k + 8)) h = true from this)
      have hlt : k < cl_h.length := by rw [cl_h_len]; exact hk
      have h2 : cl_h[k]? = some (cl_cell (k + 8)) := by
        unfold cl_cell
        rw [show k + 8 - 8 = k by omega, List.getElem?_eq_getElem hlt]
        rfl
      rw [h2]
      exact congrArg some h1
  · rw [List.getElem?_eq_none (by rw [cl_h_len]; omega), List.getElem?_eq_none (by rw [cl_lay_len]; omega)]
    rfl
/-- what a cell holds at the start -/
noncomputable def cl_ini1 (k : Nat) (h : sx_H) (i : Nat) : Bool := sx_an (match cl_bs k (Int.ofNat i) with
  | some v => sx_eq (cl_M0 k i) v
  | none => true) (match sx_rgo h i with
  | some r => sx_in (cl_M0 k i, cl_M0 k i) r
  | none => true)
noncomputable def cl_ini (k : Nat) : Bool := match cl_ly k with
  | some h => sx_an ((List.range (sx_sz h)).all (cl_ini1 k h)) (bif sx_an (Nat.beq h.1 0) (Nat.beq h.2.1 4) then (List.range h.2.2.1).all (fun i => match h.2.2.2.2[i]? with
    | some q => (match cl_rf k i with
      | some r => Nat.beq r q.2.2
      | none => false)
    | none => true) else true)
  | none => true
set_option maxRecDepth 100000 in
theorem cl_ini_all : (List.range 91).all cl_ini = true := by decide +kernel
theorem cl_ini_at {k : Nat} {h : sx_H} (e : cl_ly k = some h) : cl_ini k = true := by
  have hk : k < 91 := by
    have e9 := e
    unfold cl_ly at e9
    exact sx_blt (sx_bif e9).1
  exact List.all_eq_true.mp cl_ini_all k (List.mem_range.mpr hk)
theorem cl_ini1_at {k : Nat} {h : sx_H} (e : cl_ly k = some h) {i : Nat} (hi : i < sx_sz h) : cl_ini1 k h i = true := by
  have := cl_ini_at e
  unfold cl_ini at this
  rw [e] at this
  exact List.all_eq_true.mp (sx_an_iff.mp this).1 i (List.mem_range.mpr hi)
theorem cl_mok : sx_mok cl_ly cl_M0 := by
  intro k h i r e hi hr
  have := (sx_an_iff.mp (cl_ini1_at e hi)).2
  rw [hr] at this
  have this : sx_in (cl_M0 k i, cl_M0 k i) r = true := this
  generalize cl_M0 k i = z at this ⊢
  exact sx_in_iff.mp this
theorem cl_hrf : sx_hrf cl_ly cl_rf := by
  intro k h i q e h1 h4 hi hq
  have := cl_ini_at e
  unfold cl_ini at this
  rw [e] at this
  have := (sx_an_iff.mp this).2
  rw [sx_bt (sx_an_iff.mpr ⟨sx_nbeq.mpr h1, sx_nbeq.mpr h4⟩)] at this
  have := List.all_eq_true.mp this i (List.mem_range.mpr hi)
  rw [hq] at this
  cases er : cl_rf k i with
  | none => rw [er] at this; cases this
  | some r =>
    rw [er] at this
    rw [sx_nbeq.mp this]
