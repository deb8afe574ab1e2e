/-! the constructors of the class, walked -/
def iT_X10a : List (Nat × Nat) := [(10, 20)]
def iR_X10a : List (Nat × Nat × Nat) := []
def iZ_X10a : List (Nat × Nat × Int32) := []
def iT_X1a : List (Nat × Nat) := [(10, 20), (104, 6), (105, 4), (5, 2), (100, 40), (104, 3), (100, 3), (1, 17)]
def iR_X1a : List (Nat × Nat × Nat) := [(0, 4, 6), (0, 3, 5), (0, 2, 3), (3, 0, 4), (0, 1, 2), (0, 0, 1)]
def iZ_X1a : List (Nat × Nat × Int32) := []
def iT_X1b : List (Nat × Nat) := [(10, 20), (104, 6), (105, 4), (5, 2), (100, 40), (104, 3), (100, 3), (1, 17), (100, 6), (100, 6), (100, 6), (100, 6), (100, 6), (100, 6), (100, 7), (100, 7), (100, 42), (100, 36), (100, 6), (100, 6)]
def iR_X1b : List (Nat × Nat × Nat) := [(7, 16, 19), (7, 15, 18), (7, 14, 17), (7, 13, 16), (7, 12, 15), (7, 11, 14), (7, 10, 13), (7, 9, 12), (7, 8, 11), (7, 7, 10), (7, 6, 9), (7, 5, 8), (0, 4, 6), (0, 3, 5), (0, 2, 3), (3, 0, 4), (0, 1, 2), (0, 0, 1)]
def iZ_X1b : List (Nat × Nat × Int32) := []
def iT_X2a : List (Nat × Nat) := [(10, 20), (104, 6), (105, 4), (5, 2), (100, 40), (104, 3), (100, 3), (1, 17), (100, 6), (100, 6), (100, 6), (100, 6), (100, 6), (100, 6), (100, 7), (100, 7), (100, 42), (100, 36), (100, 6), (100, 6), (2, 8)]
def iR_X2a : List (Nat × Nat × Nat) := [(0, 5, 7), (7, 16, 19), (7, 15, 18), (7, 14, 17), (7, 13, 16), (7, 12, 15), (7, 11, 14), (7, 10, 13), (7, 9, 12), (7, 8, 11), (7, 7, 10), (7, 6, 9), (7, 5, 8), (0, 4, 6), (0, 3, 5), (0, 2, 3), (3, 0, 4), (0, 1, 2), (0, 0, 1)]
def iZ_X2a : List (Nat × Nat × Int32) := []
def iT_X2b : List (Nat × Nat) := [(10, 20), (104, 6), (105, 4), (5, 2), (100, 40), (104, 3), (100, 3), (1, 17), (100, 6), (100, 6), (100, 6), (100, 6), (100, 6), (100, 6), (100, 7), (100, 7), (100, 42), (100, 36), (100, 6), (100, 6), (2, 8), (100, 18), (100, 18), (100, 18), (100, 3)]
def iR_X2b : List (Nat × Nat × Nat) := [(20, 3, 24), (20, 2, 23), (20, 1, 22), (20, 0, 21), (0, 5, 7), (7, 16, 19), (7, 15, 18), (7, 14, 17), (7, 13, 16), (7, 12, 15), (7, 11, 14), (7, 10, 13), (7, 9, 12), (7, 8, 11), (7, 7, 10), (7, 6, 9), (7, 5, 8), (0, 4, 6), (0, 3, 5), (0, 2, 3), (3, 0, 4), (0, 1, 2), (0, 0, 1)]
def iZ_X2b : List (Nat × Nat × Int32) := []
def iT_X8a : List (Nat × Nat) := [(10, 20), (104, 6), (105, 4), (5, 2), (100, 40), (104, 3), (100, 3), (1, 17), (100, 6), (100, 6), (100, 6), (100, 6), (100, 6), (100, 6), (100, 7), (100, 7), (100, 42), (100, 36), (100, 6), (100, 6), (2, 8), (100, 18), (100, 18), (100, 18), (100, 3), (8, 3)]
def iR_X8a : List (Nat × Nat × Nat) := [(0, 6, 20), (20, 3, 24), (20, 2, 23), (20, 1, 22), (20, 0, 21), (0, 5, 7), (7, 16, 19), (7, 15, 18), (7, 14, 17), (7, 13, 16), (7, 12, 15), (7, 11, 14), (7, 10, 13), (7, 9, 12), (7, 8, 11), (7, 7, 10), (7, 6, 9), (7, 5, 8), (0, 4, 6), (0, 3, 5), (0, 2, 3), (3, 0, 4), (0, 1, 2), (0, 0, 1)]
def iZ_X8a : List (Nat × Nat × Int32) := []
def iT_X8b : List (Nat × Nat) := [(10, 20), (104, 6), (105, 4), (5, 2), (100, 40), (104, 3), (100, 3), (1, 17), (100, 6), (100, 6), (100, 6), (100, 6), (100, 6), (100, 6), (100, 7), (100, 7), (100, 42), (100, 36), (100, 6), (100, 6), (2, 8), (100, 18), (100, 18), (100, 18), (100, 3), (8, 3), (101, 14700)]
def iR_X8b : List (Nat × Nat × Nat) := [(25, 0, 7), (25, 1, 26), (0, 6, 20), (20, 3, 24), (20, 2, 23), (20, 1, 22), (20, 0, 21), (0, 5, 7), (7, 16, 19), (7, 15, 18), (7, 14, 17), (7, 13, 16), (7, 12, 15), (7, 11, 14), (7, 10, 13), (7, 9, 12), (7, 8, 11), (7, 7, 10), (7, 6, 9), (7, 5, 8), (0, 4, 6), (0, 3, 5), (0, 2, 3), (3, 0, 4), (0, 1, 2), (0, 0, 1)]
def iZ_X8b : List (Nat × Nat × Int32) := []
def iT_X6a : List (Nat × Nat) := [(10, 20), (104, 6), (105, 4), (5, 2), (100, 40), (104, 3), (100, 3), (1, 17), (100, 6), (100, 6), (100, 6), (100, 6), (100, 6), (100, 6), (100, 7), (100, 7), (100, 42), (100, 36), (100, 6), (100, 6), (2, 8), (100, 18), (100, 18), (100, 18), (100, 3), (8, 3), (101, 14700), (6, 6)]
def iR_X6a : List (Nat × Nat × Nat) := [(0, 7, 25), (25, 0, 7), (25, 1, 26), (0, 6, 20), (20, 3, 24), (20, 2, 23), (20, 1, 22), (20, 0, 21), (0, 5, 7), (7, 16, 19), (7, 15, 18), (7, 14, 17), (7, 13, 16), (7, 12, 15), (7, 11, 14), (7, 10, 13), (7, 9, 12), (7, 8, 11), (7, 7, 10), (7, 6, 9), (7, 5, 8), (0, 4, 6), (0, 3, 5), (0, 2, 3), (3, 0, 4), (0, 1, 2), (0, 0, 1)]
def iZ_X6a : List (Nat × Nat × Int32) := []
def iT_X6b : List (Nat × Nat) := [(10, 20), (104, 6), (105, 4), (5, 2), (100, 40), (104, 3), (100, 3), (1, 17), (100, 6), (100, 6), (100, 6), (100, 6), (100, 6), (100, 6), (100, 7), (100, 7), (100, 42), (100, 36), (100, 6), (100, 6), (2, 8), (100, 18), (100, 18), (100, 18), (100, 3), (8, 3), (101, 14700), (6, 6), (5, 2), (100, 40), (100, 6), (100, 1820), (101, 28000)]
def iR_X6b : List (Nat × Nat × Nat) := [(27, 0, 7), (27, 5, 32), (27, 4, 31), (27, 2, 30), (27, 1, 28), (28, 0, 29), (0, 7, 25), (25, 0, 7), (25, 1, 26), (0, 6, 20), (20, 3, 24), (20, 2, 23), (20, 1, 22), (20, 0, 21), (0, 5, 7), (7, 16, 19), (7, 15, 18), (7, 14, 17), (7, 13, 16), (7, 12, 15), (7, 11, 14), (7, 10, 13), (7, 9, 12), (7, 8, 11), (7, 7, 10), (7, 6, 9), (7, 5, 8), (0, 4, 6), (0, 3, 5), (0, 2, 3), (3, 0, 4), (0, 1, 2), (0, 0, 1)]
def iZ_X6b : List (Nat × Nat × Int32) := []
def iT_X7a : List (Nat × Nat) := [(10, 20), (104, 6), (105, 4), (5, 2), (100, 40), (104, 3), (100, 3), (1, 17), (100, 6), (100, 6), (100, 6), (100, 6), (100, 6), (100, 6), (100, 7), (100, 7), (100, 42), (100, 36), (100, 6), (100, 6), (2, 8), (100, 18), (100, 18), (100, 18), (100, 3), (8, 3), (101, 14700), (6, 6), (5, 2), (100, 40), (100, 6), (100, 1820), (101, 28000), (7, 8)]
def iR_X7a : List (Nat × Nat × Nat) := [(0, 8, 27), (27, 0, 7), (27, 5, 32), (27, 4, 31), (27, 2, 30), (27, 1, 28), (28, 0, 29), (0, 7, 25), (25, 0, 7), (25, 1, 26), (0, 6, 20), (20, 3, 24), (20, 2, 23), (20, 1, 22), (20, 0, 21), (0, 5, 7), (7, 16, 19), (7, 15, 18), (7, 14, 17), (7, 13, 16), (7, 12, 15), (7, 11, 14), (7, 10, 13), (7, 9, 12), (7, 8, 11), (7, 7, 10), (7, 6, 9), (7, 5, 8), (0, 4, 6), (0, 3, 5), (0, 2, 3), (3, 0, 4), (0, 1, 2), (0, 0, 1)]
def iZ_X7a : List (Nat × Nat × Int32) := []
def iT_X7b : List (Nat × Nat) := [(10, 20), (104, 6), (105, 4), (5, 2), (100, 40), (104, 3), (100, 3), (1, 17), (100, 6), (100, 6), (100, 6), (100, 6), (100, 6), (100, 6), (100, 7), (100, 7), (100, 42), (100, 36), (100, 6), (100, 6), (2, 8), (100, 18), (100, 18), (100, 18), (100, 3), (8, 3), (101, 14700), (6, 6), (5, 2), (100, 40), (100, 6), (100, 1820), (101, 28000), (7, 8), (100, 6), (5, 2), (100, 40), (5, 2), (100, 40), (5, 2), (100, 40)]
def iR_X7b : List (Nat × Nat × Nat) := [(33, 1, 27), (33, 0, 7), (33, 7, 39), (39, 0, 40), (33, 4, 37), (37, 0, 38), (33, 3, 35), (35, 0, 36), (33, 2, 34), (0, 8, 27), (27, 0, 7), (27, 5, 32), (27, 4, 31), (27, 2, 30), (27, 1, 28), (28, 0, 29), (0, 7, 25), (25, 0, 7), (25, 1, 26), (0, 6, 20), (20, 3, 24), (20, 2, 23), (20, 1, 22), (20, 0, 21), (0, 5, 7), (7, 16, 19), (7, 15, 18), (7, 14, 17), (7, 13, 16), (7, 12, 15), (7, 11, 14), (7, 10, 13), (7, 9, 12), (7, 8, 11), (7, 7, 10), (7, 6, 9), (7, 5, 8), (0, 4, 6), (0, 3, 5), (0, 2, 3), (3, 0, 4), (0, 1, 2), (0, 0, 1)]
def iZ_X7b : List (Nat × Nat × Int32) := []
def iT_X0a : List (Nat × Nat) := [(10, 20), (104, 6), (105, 4), (5, 2), (100, 40), (104, 3), (100, 3), (1, 17), (100, 6), (100, 6), (100, 6), (100, 6), (100, 6), (100, 6), (100, 7), (100, 7), (100, 42), (100, 36), (100, 6), (100, 6), (2, 8), (100, 18), (100, 18), (100, 18), (100, 3), (8, 3), (101, 14700), (6, 6), (5, 2), (100, 40), (100, 6), (100, 1820), (101, 28000), (7, 8), (100, 6), (5, 2), (100, 40), (5, 2), (100, 40), (5, 2), (100, 40), (0, 8)]
def iR_X0a : List (Nat × Nat × Nat) := [(0, 9, 33), (33, 1, 27), (33, 0, 7), (33, 7, 39), (39, 0, 40), (33, 4, 37), (37, 0, 38), (33, 3, 35), (35, 0, 36), (33, 2, 34), (0, 8, 27), (27, 0, 7), (27, 5, 32), (27, 4, 31), (27, 2, 30), (27, 1, 28), (28, 0, 29), (0, 7, 25), (25, 0, 7), (25, 1, 26), (0, 6, 20), (20, 3, 24), (20, 2, 23), (20, 1, 22), (20, 0, 21), (0, 5, 7), (7, 16, 19), (7, 15, 18), (7, 14, 17), (7, 13, 16), (7, 12, 15), (7, 11, 14), (7, 10, 13), (7, 9, 12), (7, 8, 11), (7, 7, 10), (7, 6, 9), (7, 5, 8), (0, 4, 6), (0, 3, 5), (0, 2, 3), (3, 0, 4), (0, 1, 2), (0, 0, 1)]
def iZ_X0a : List (Nat × Nat × Int32) := []
def iT_X0b : List (Nat × Nat) := [(10, 20), (104, 6), (105, 4), (5, 2), (100, 40), (104, 3), (100, 3), (1, 17), (100, 6), (100, 6), (100, 6), (100, 6), (100, 6), (100, 6), (100, 7), (100, 7), (100, 42), (100, 36), (100, 6), (100, 6), (2, 8), (100, 18), (100, 18), (100, 18), (100, 3), (8, 3), (101, 14700), (6, 6), (5, 2), (100, 40), (100, 6), (100, 1820), (101, 28000), (7, 8), (100, 6), (5, 2), (100, 40), (5, 2), (100, 40), (5, 2), (100, 40), (0, 8), (5, 2), (100, 40), (5, 2), (100, 40), (5, 2), (100, 40), (5, 2), (100, 40), (5, 2), (100, 40)]
def iR_X0b : List (Nat × Nat × Nat) := [(41, 1, 27), (41, 0, 7), (41, 7, 50), (50, 0, 51), (41, 5, 48), (48, 0, 49), (41, 4, 46), (46, 0, 47), (41, 3, 44), (44, 0, 45), (41, 2, 42), (42, 0, 43), (0, 9, 33), (33, 1, 27), (33, 0, 7), (33, 7, 39), (39, 0, 40), (33, 4, 37), (37, 0, 38), (33, 3, 35), (35, 0, 36), (33, 2, 34), (0, 8, 27), (27, 0, 7), (27, 5, 32), (27, 4, 31), (27, 2, 30), (27, 1, 28), (28, 0, 29), (0, 7, 25), (25, 0, 7), (25, 1, 26), (0, 6, 20), (20, 3, 24), (20, 2, 23), (20, 1, 22), (20, 0, 21), (0, 5, 7), (7, 16, 19), (7, 15, 18), (7, 14, 17), (7, 13, 16), (7, 12, 15), (7, 11, 14), (7, 10, 13), (7, 9, 12), (7, 8, 11), (7, 7, 10), (7, 6, 9), (7, 5, 8), (0, 4, 6), (0, 3, 5), (0, 2, 3), (3, 0, 4), (0, 1, 2), (0, 0, 1)]
def iZ_X0b : List (Nat × Nat × Int32) := []
def iT_X3a : List (Nat × Nat) := [(10, 20), (104, 6), (105, 4), (5, 2), (100, 40), (104, 3), (100, 3), (1, 17), (100, 6), (100, 6), (100, 6), (100, 6), (100, 6), (100, 6), (100, 7), (100, 7), (100, 42), (100, 36), (100, 6), (100, 6), (2, 8), (100, 18), (100, 18), (100, 18), (100, 3), (8, 3), (101, 14700), (6, 6), (5, 2), (100, 40), (100, 6), (100, 1820), (101, 28000), (7, 8), (100, 6), (5, 2), (100, 40), (5, 2), (100, 40), (5, 2), (100, 40), (0, 8), (5, 2), (100, 40), (5, 2), (100, 40), (5, 2), (100, 40), (5, 2), (100, 40), (5, 2), (100, 40), (3, 4)]
def iR_X3a : List (Nat × Nat × Nat) := [(0, 10, 41), (41, 1, 27), (41, 0, 7), (41, 7, 50), (50, 0, 51), (41, 5, 48), (48, 0, 49), (41, 4, 46), (46, 0, 47), (41, 3, 44), (44, 0, 45), (41, 2, 42), (42, 0, 43), (0, 9, 33), (33, 1, 27), (33, 0, 7), (33, 7, 39), (39, 0, 40), (33, 4, 37), (37, 0, 38), (33, 3, 35), (35, 0, 36), (33, 2, 34), (0, 8, 27), (27, 0, 7), (27, 5, 32), (27, 4, 31), (27, 2, 30), (27, 1, 28), (28, 0, 29), (0, 7, 25), (25, 0, 7), (25, 1, 26), (0, 6, 20), (20, 3, 24), (20, 2, 23), (20, 1, 22), (20, 0, 21), (0, 5, 7), (7, 16, 19), (7, 15, 18), (7, 14, 17), (7, 13, 16), (7, 12, 15), (7, 11, 14), (7, 10, 13), (7, 9, 12), (7, 8, 11), (7, 7, 10), (7, 6, 9), (7, 5, 8), (0, 4, 6), (0, 3, 5), (0, 2, 3), (3, 0, 4), (0, 1, 2), (0, 0, 1)]
def iZ_X3a : List (Nat × Nat × Int32) := []
def iT_X3b : List (Nat × Nat) := [(10, 20), (104, 6), (105, 4), (5, 2), (100, 40), (104, 3), (100, 3), (1, 17), (100, 6), (100, 6), (100, 6), (100, 6), (100, 6), (100, 6), (100, 7), (100, 7), (100, 42), (100, 36), (100, 6), (100, 6), (2, 8), (100, 18), (100, 18), (100, 18), (100, 3), (8, 3), (101, 14700), (6, 6), (5, 2), (100, 40), (100, 6), (100, 1820), (101, 28000), (7, 8), (100, 6), (5, 2), (100, 40), (5, 2), (100, 40), (5, 2), (100, 40), (0, 8), (5, 2), (100, 40), (5, 2), (100, 40), (5, 2), (100, 40), (5, 2), (100, 40), (5, 2), (100, 40), (3, 4), (100, 64), (100, 64)]
def iR_X3b : List (Nat × Nat × Nat) := [(52, 1, 54), (52, 0, 53), (0, 10, 41), (41, 1, 27), (41, 0, 7), (41, 7, 50), (50, 0, 51), (41, 5, 48), (48, 0, 49), (41, 4, 46), (46, 0, 47), (41, 3, 44), (44, 0, 45), (41, 2, 42), (42, 0, 43), (0, 9, 33), (33, 1, 27), (33, 0, 7), (33, 7, 39), (39, 0, 40), (33, 4, 37), (37, 0, 38), (33, 3, 35), (35, 0, 36), (33, 2, 34), (0, 8, 27), (27, 0, 7), (27, 5, 32), (27, 4, 31), (27, 2, 30), (27, 1, 28), (28, 0, 29), (0, 7, 25), (25, 0, 7), (25, 1, 26), (0, 6, 20), (20, 3, 24), (20, 2, 23), (20, 1, 22), (20, 0, 21), (0, 5, 7), (7, 16, 19), (7, 15, 18), (7, 14, 17), (7, 13, 16), (7, 12, 15), (7, 11, 14), (7, 10, 13), (7, 9, 12), (7, 8, 11), (7, 7, 10), (7, 6, 9), (7, 5, 8), (0, 4, 6), (0, 3, 5), (0, 2, 3), (3, 0, 4), (0, 1, 2), (0, 0, 1)]
def iZ_X3b : List (Nat × Nat × Int32) := []
def iT_X4a : List (Nat × Nat) := [(10, 20), (104, 6), (105, 4), (5, 2), (100, 40), (104, 3), (100, 3), (1, 17), (100, 6), (100, 6), (100, 6), (100, 6), (100, 6), (100, 6), (100, 7), (100, 7), (100, 42), (100, 36), (100, 6), (100, 6), (2, 8), (100, 18), (100, 18), (100, 18), (100, 3), (8, 3), (101, 14700), (6, 6), (5, 2), (100, 40), (100, 6), (100, 1820), (101, 28000), (7, 8), (100, 6), (5, 2), (100, 40), (5, 2), (100, 40), (5, 2), (100, 40), (0, 8), (5, 2), (100, 40), (5, 2), (100, 40), (5, 2), (100, 40), (5, 2), (100, 40), (5, 2), (100, 40), (3, 4), (100, 64), (100, 64), (4, 2)]
def iR_X4a : List (Nat × Nat × Nat) := [(0, 11, 52), (52, 1, 54), (52, 0, 53), (0, 10, 41), (41, 1, 27), (41, 0, 7), (41, 7, 50), (50, 0, 51), (41, 5, 48), (48, 0, 49), (41, 4, 46), (46, 0, 47), (41, 3, 44), (44, 0, 45), (41, 2, 42), (42, 0, 43), (0, 9, 33), (33, 1, 27), (33, 0, 7), (33, 7, 39), (39, 0, 40), (33, 4, 37), (37, 0, 38), (33, 3, 35), (35, 0, 36), (33, 2, 34), (0, 8, 27), (27, 0, 7), (27, 5, 32), (27, 4, 31), (27, 2, 30), (27, 1, 28), (28, 0, 29), (0, 7, 25), (25, 0, 7), (25, 1, 26), (0, 6, 20), (20, 3, 24), (20, 2, 23), (20, 1, 22), (20, 0, 21), (0, 5, 7), (7, 16, 19), (7, 15, 18), (7, 14, 17), (7, 13, 16), (7, 12, 15), (7, 11, 14), (7, 10, 13), (7, 9, 12), (7, 8, 11), (7, 7, 10), (7, 6, 9), (7, 5, 8), (0, 4, 6), (0, 3, 5), (0, 2, 3), (3, 0, 4), (0, 1, 2), (0, 0, 1)]
def iZ_X4a : List (Nat × Nat × Int32) := []
def iT_X4b : List (Nat × Nat) := [(10, 20), (104, 6), (105, 4), (5, 2), (100, 40), (104, 3), (100, 3), (1, 17), (100, 6), (100, 6), (100, 6), (100, 6), (100, 6), (100, 6), (100, 7), (100, 7), (100, 42), (100, 36), (100, 6), (100, 6), (2, 8), (100, 18), (100, 18), (100, 18), (100, 3), (8, 3), (101, 14700), (6, 6), (5, 2), (100, 40), (100, 6), (100, 1820), (101, 28000), (7, 8), (100, 6), (5, 2), (100, 40), (5, 2), (100, 40), (5, 2), (100, 40), (0, 8), (5, 2), (100, 40), (5, 2), (100, 40), (5, 2), (100, 40), (5, 2), (100, 40), (5, 2), (100, 40), (3, 4), (100, 64), (100, 64), (4, 2), (104, 21), (5, 2), (100, 40), (5, 2), (100, 40), (5, 2), (100, 40), (5, 2), (100, 40), (5, 2), (100, 40), (5, 2), (100, 40), (5, 2), (100, 40), (5, 2), (100, 40), (5, 2), (100, 40), (5, 2), (100, 40), (5, 2), (100, 40), (5, 2), (100, 40), (5, 2), (100, 40), (5, 2), (100, 40), (5, 2), (100, 40), (5, 2), (100, 40), (5, 2), (100, 40), (5, 2), (100, 40), (5, 2), (100, 40), (5, 2), (100, 40), (5, 2), (100, 40)]
def iR_X4b : List (Nat × Nat × Nat) := [(56, 20, 97), (97, 0, 98), (56, 19, 95), (95, 0, 96), (56, 18, 93), (93, 0, 94), (56, 17, 91), (91, 0, 92), (56, 16, 89), (89, 0, 90), (56, 15, 87), (87, 0, 88), (56, 14, 85), (85, 0, 86), (56, 13, 83), (83, 0, 84), (56, 12, 81), (81, 0, 82), (56, 11, 79), (79, 0, 80), (56, 10, 77), (77, 0, 78), (56, 9, 75), (75, 0, 76), (56, 8, 73), (73, 0, 74), (56, 7, 71), (71, 0, 72), (56, 6, 69), (69, 0, 70), (56, 5, 67), (67, 0, 68), (56, 4, 65), (65, 0, 66), (56, 3, 63), (63, 0, 64), (56, 2, 61), (61, 0, 62), (56, 1, 59), (59, 0, 60), (56, 0, 57), (57, 0, 58), (55, 0, 56), (0, 11, 52), (52, 1, 54), (52, 0, 53), (0, 10, 41), (41, 1, 27), (41, 0, 7), (41, 7, 50), (50, 0, 51), (41, 5, 48), (48, 0, 49), (41, 4, 46), (46, 0, 47), (41, 3, 44), (44, 0, 45), (41, 2, 42), (42, 0, 43), (0, 9, 33), (33, 1, 27), (33, 0, 7), (33, 7, 39), (39, 0, 40), (33, 4, 37), (37, 0, 38), (33, 3, 35), (35, 0, 36), (33, 2, 34), (0, 8, 27), (27, 0, 7), (27, 5, 32), (27, 4, 31), (27, 2, 30), (27, 1, 28), (28, 0, 29), (0, 7, 25), (25, 0, 7), (25, 1, 26), (0, 6, 20), (20, 3, 24), (20, 2, 23), (20, 1, 22), (20, 0, 21), (0, 5, 7), (7, 16, 19), (7, 15, 18), (7, 14, 17), (7, 13, 16), (7, 12, 15), (7, 11, 14), (7, 10, 13), (7, 9, 12), (7, 8, 11), (7, 7, 10), (7, 6, 9), (7, 5, 8), (0, 4, 6), (0, 3, 5), (0, 2, 3), (3, 0, 4), (0, 1, 2), (0, 0, 1)]
def iZ_X4b : List (Nat × Nat × Int32) := []
def iT_X10b : List (Nat × Nat) := [(10, 20), (104, 6), (105, 4), (5, 2), (100, 40), (104, 3), (100, 3), (1, 17), (100, 6), (100, 6), (100, 6), (100, 6), (100, 6), (100, 6), (100, 7), (100, 7), (100, 42), (100, 36), (100, 6), (100, 6), (2, 8), (100, 18), (100, 18), (100, 18), (100, 3), (8, 3), (101, 14700), (6, 6), (5, 2), (100, 40), (100, 6), (100, 1820), (101, 28000), (7, 8), (100, 6), (5, 2), (100, 40), (5, 2), (100, 40), (5, 2), (100, 40), (0, 8), (5, 2), (100, 40), (5, 2), (100, 40), (5, 2), (100, 40), (5, 2), (100, 40), (5, 2), (100, 40), (3, 4), (100, 64), (100, 64), (4, 2), (104, 21), (5, 2), (100, 40), (5, 2), (100, 40), (5, 2), (100, 40), (5, 2), (100, 40), (5, 2), (100, 40), (5, 2), (100, 40), (5, 2), (100, 40), (5, 2), (100, 40), (5, 2), (100, 40), (5, 2), (100, 40), (5, 2), (100, 40), (5, 2), (100, 40), (5, 2), (100, 40), (5, 2), (100, 40), (5, 2), (100, 40), (5, 2), (100, 40), (5, 2), (100, 40), (5, 2), (100, 40), (5, 2), (100, 40), (5, 2), (100, 40), (5, 2), (100, 40), (5, 2), (100, 40), (5, 2), (100, 40), (5, 2), (100, 40), (100, 6), (5, 2), (100, 40), (5, 2), (100, 40), (5, 2), (100, 40), (5, 2), (100, 40), (5, 2), (100, 40), (5, 2), (100, 40), (9, 2), (102, 80), (9, 2), (102, 80), (9, 2), (102, 80), (9, 2), (102, 80), (5, 2), (100, 40), (5, 2), (100, 40), (5, 2), (100, 40)]
def iR_X10b : List (Nat × Nat × Nat) := [(5, 2, 130), (130, 0, 131), (5, 1, 128), (128, 0, 129), (5, 0, 126), (126, 0, 127), (2, 3, 124), (124, 0, 125), (2, 2, 122), (122, 0, 123), (2, 1, 120), (120, 0, 121), (2, 0, 118), (118, 0, 119), (1, 5, 116), (116, 0, 117), (1, 4, 114), (114, 0, 115), (1, 3, 112), (112, 0, 113), (1, 2, 110), (110, 0, 111), (1, 1, 108), (108, 0, 109), (1, 0, 106), (106, 0, 107), (0, 16, 105), (0, 15, 103), (103, 0, 104), (0, 14, 101), (101, 0, 102), (0, 13, 99), (99, 0, 100), (0, 12, 55), (56, 20, 97), (97, 0, 98), (56, 19, 95), (95, 0, 96), (56, 18, 93), (93, 0, 94), (56, 17, 91), (91, 0, 92), (56, 16, 89), (89, 0, 90), (56, 15, 87), (87, 0, 88), (56, 14, 85), (85, 0, 86), (56, 13, 83), (83, 0, 84), (56, 12, 81), (81, 0, 82), (56, 11, 79), (79, 0, 80), (56, 10, 77), (77, 0, 78), (56, 9, 75), (75, 0, 76), (56, 8, 73), (73, 0, 74), (56, 7, 71), (71, 0, 72), (56, 6, 69), (69, 0, 70), (56, 5, 67), (67, 0, 68), (56, 4, 65), (65, 0, 66), (56, 3, 63), (63, 0, 64), (56, 2, 61), (61, 0, 62), (56, 1, 59), (59, 0, 60), (56, 0, 57), (57, 0, 58), (55, 0, 56), (0, 11, 52), (52, 1, 54), (52, 0, 53), (0, 10, 41), (41, 1, 27), (41, 0, 7), (41, 7, 50), (50, 0, 51), (41, 5, 48), (48, 0, 49), (41, 4, 46), (46, 0, 47), (41, 3, 44), (44, 0, 45), (41, 2, 42), (42, 0, 43), (0, 9, 33), (33, 1, 27), (33, 0, 7), (33, 7, 39), (39, 0, 40), (33, 4, 37), (37, 0, 38), (33, 3, 35), (35, 0, 36), (33, 2, 34), (0, 8, 27), (27, 0, 7), (27, 5, 32), (27, 4, 31), (27, 2, 30), (27, 1, 28), (28, 0, 29), (0, 7, 25), (25, 0, 7), (25, 1, 26), (0, 6, 20), (20, 3, 24), (20, 2, 23), (20, 1, 22), (20, 0, 21), (0, 5, 7), (7, 16, 19), (7, 15, 18), (7, 14, 17), (7, 13, 16), (7, 12, 15), (7, 11, 14), (7, 10, 13), (7, 9, 12), (7, 8, 11), (7, 7, 10), (7, 6, 9), (7, 5, 8), (0, 4, 6), (0, 3, 5), (0, 2, 3), (3, 0, 4), (0, 1, 2), (0, 0, 1)]
def iZ_X10b : List (Nat × Nat × Int32) := [(130, 1, -1), (128, 1, -1), (126, 1, -1), (124, 1, -1), (122, 1, -1), (120, 1, -1), (118, 1, -1), (116, 1, -1), (114, 1, -1), (112, 1, -1), (110, 1, -1), (108, 1, -1), (106, 1, -1)]
theorem i_X1_init (d : Nat) {M : pm_M} (h : In iT_X1a iR_X1a iZ_X1a M) : ∃ M', pm_call (d + 1) 4 [.ref 7] M none M' ∧ In iT_X1b iR_X1b iZ_X1b M' := by
  obtain ⟨r, M', hc, hr, h1⟩ := eq_4 (d := d + 0) (A := [.ref 7]) (M := M) (Q := fun r M' => r = none ∧ In iT_X1b iR_X1b iZ_X1b M') (Nat.le_of_ble_eq_true rfl) (by
    refine st_ald rfl rfl ?_
    refine st_oin rfl (Nat.le_of_ble_eq_true rfl) ?_
    refine st_ald rfl rfl ?_
    refine st_k rfl ?_
    refine st_nwaI (N := 6) (m := 8) rfl h (by decide) (by decide) (by decide) (by decide +kernel) (fun _ h1 => ?_)
    refine st_pRI rfl h1 (by decide +kernel) (fun _ h2 => ?_)
    refine st_ald rfl rfl ?_
    refine st_k rfl ?_
    refine st_nwaI (N := 6) (m := 9) rfl h2 (by decide) (by decide) (by decide) (by decide +kernel) (fun _ h3 => ?_)
    refine st_pRI rfl h3 (by decide +kernel) (fun _ h4 => ?_)
    refine st_ald rfl rfl ?_
    refine st_k rfl ?_
    refine st_nwaI (N := 6) (m := 10) rfl h4 (by decide) (by decide) (by decide) (by decide +kernel) (fun _ h5 => ?_)
    refine st_pRI rfl h5 (by decide +kernel) (fun _ h6 => ?_)
    refine st_ald rfl rfl ?_
    refine st_k rfl ?_
    refine st_nwaI (N := 6) (m := 11) rfl h6 (by decide) (by decide) (by decide) (by decide +kernel) (fun _ h7 => ?_)
    refine st_pRI rfl h7 (by decide +kernel) (fun _ h8 => ?_)
    refine st_ald rfl rfl ?_
    refine st_k rfl ?_
    refine st_nwaI (N := 6) (m := 12) rfl h8 (by decide) (by decide) (by decide) (by decide +kernel) (fun _ h9 => ?_)
    refine st_pRI rfl h9 (by decide +kernel) (fun _ h10 => ?_)
    refine st_ald rfl rfl ?_
    refine st_k rfl ?_
    refine st_nwaI (N := 6) (m := 13) rfl h10 (by decide) (by decide) (by decide) (by decide +kernel) (fun _ h11 => ?_)
    refine st_pRI rfl h11 (by decide +kernel) (fun _ h12 => ?_)
    refine st_ald rfl rfl ?_
    refine st_k rfl ?_
    refine st_nwaI (N := 7) (m := 14) rfl h12 (by decide) (by decide) (by decide) (by decide +kernel) (fun _ h13 => ?_)
    refine st_pRI rfl h13 (by decide +kernel) (fun _ h14 => ?_)
    refine st_ald rfl rfl ?_
    refine st_k rfl ?_
    refine st_nwaI (N := 7) (m := 15) rfl h14 (by decide) (by decide) (by decide) (by decide +kernel) (fun _ h15 => ?_)
    refine st_pRI rfl h15 (by decide +kernel) (fun _ h16 => ?_)
    refine st_ald rfl rfl ?_
    refine st_k rfl ?_
    refine st_nwaI (N := 42) (m := 16) rfl h16 (by decide) (by decide) (by decide) (by decide +kernel) (fun _ h17 => ?_)
    refine st_pRI rfl h17 (by decide +kernel) (fun _ h18 => ?_)
    refine st_ald rfl rfl ?_
    refine st_k rfl ?_
    refine st_nwaI (N := 36) (m := 17) rfl h18 (by decide) (by decide) (by decide) (by decide +kernel) (fun _ h19 => ?_)
    refine st_pRI rfl h19 (by decide +kernel) (fun _ h20 => ?_)
    refine st_ald rfl rfl ?_
    refine st_k rfl ?_
    refine st_nwaI (N := 6) (m := 18) rfl h20 (by decide) (by decide) (by decide) (by decide +kernel) (fun _ h21 => ?_)
    refine st_pRI rfl h21 (by decide +kernel) (fun _ h22 => ?_)
    refine st_ald rfl rfl ?_
    refine st_k rfl ?_
    refine st_nwaI (N := 6) (m := 19) rfl h22 (by decide) (by decide) (by decide) (by decide +kernel) (fun _ h23 => ?_)
    refine st_pRI rfl h23 (by decide +kernel) (fun _ h24 => ?_)
    exact st_vret rfl ⟨rfl, h24.to (by decide +kernel) (by decide +kernel) (by decide +kernel)⟩)
  subst hr
  exact ⟨M', hc, h1⟩
theorem i_X2_init (d : Nat) {M : pm_M} (h : In iT_X2a iR_X2a iZ_X2a M) : ∃ M', pm_call (d + 1) 25 [.ref 20] M none M' ∧ In iT_X2b iR_X2b iZ_X2b M' := by
  obtain ⟨r, M', hc, hr, h1⟩ := eq_25 (d := d + 0) (A := [.ref 20]) (M := M) (Q := fun r M' => r = none ∧ In iT_X2b iR_X2b iZ_X2b M') (Nat.le_of_ble_eq_true rfl) (by
    refine st_ald rfl rfl ?_
    refine st_oin rfl (Nat.le_of_ble_eq_true rfl) ?_
    refine st_ald rfl rfl ?_
    refine st_k rfl ?_
    refine st_nwaI (N := 18) (m := 21) rfl h (by decide) (by decide) (by decide) (by decide +kernel) (fun _ h1 => ?_)
    refine st_pRI rfl h1 (by decide +kernel) (fun _ h2 => ?_)
    refine st_ald rfl rfl ?_
    refine st_k rfl ?_
    refine st_nwaI (N := 18) (m := 22) rfl h2 (by decide) (by decide) (by decide) (by decide +kernel) (fun _ h3 => ?_)
    refine st_pRI rfl h3 (by decide +kernel) (fun _ h4 => ?_)
    refine st_ald rfl rfl ?_
    refine st_k rfl ?_
    refine st_nwaI (N := 18) (m := 23) rfl h4 (by decide) (by decide) (by decide) (by decide +kernel) (fun _ h5 => ?_)
    refine st_pRI rfl h5 (by decide +kernel) (fun _ h6 => ?_)
    refine st_ald rfl rfl ?_
    refine st_k rfl ?_
    refine st_nwaI (N := 3) (m := 24) rfl h6 (by decide) (by decide) (by decide) (by decide +kernel) (fun _ h7 => ?_)
    refine st_pRI rfl h7 (by decide +kernel) (fun _ h8 => ?_)
    exact st_vret rfl ⟨rfl, h8.to (by decide +kernel) (by decide +kernel) (by decide +kernel)⟩)
  subst hr
  exact ⟨M', hc, h1⟩
theorem i_X8_init (d : Nat) {M : pm_M} (h : In iT_X8a iR_X8a iZ_X8a M) : ∃ M', pm_call (d + 1) 80 [.ref 25, .ref 7] M none M' ∧ In iT_X8b iR_X8b iZ_X8b M' := by
  obtain ⟨r, M', hc, hr, h1⟩ := eq_80 (d := d + 0) (A := [.ref 25, .ref 7]) (M := M) (Q := fun r M' => r = none ∧ In iT_X8b iR_X8b iZ_X8b M') (Nat.le_of_ble_eq_true rfl) (by
    refine st_ald rfl rfl ?_
    refine st_oin rfl (Nat.le_of_ble_eq_true rfl) ?_
    refine st_ald rfl rfl ?_
    refine st_k rfl ?_
    refine st_nwaI (N := 14700) (m := 26) rfl h (by decide) (by decide) (by decide) (by decide +kernel) (fun _ h1 => ?_)
    refine st_pRI rfl h1 (by decide +kernel) (fun _ h2 => ?_)
    refine st_ald rfl rfl ?_
    refine st_ald rfl rfl ?_
    refine st_pRI rfl h2 (by decide +kernel) (fun _ h3 => ?_)
    exact st_vret rfl ⟨rfl, h3.to (by decide +kernel) (by decide +kernel) (by decide +kernel)⟩)
  subst hr
  exact ⟨M', hc, h1⟩
theorem i_X6_init (d : Nat) {M : pm_M} (h : In iT_X6a iR_X6a iZ_X6a M) : ∃ M', pm_call (d + 2) 58 [.ref 27, .ref 7] M none M' ∧ In iT_X6b iR_X6b iZ_X6b M' := by
  obtain ⟨r, M', hc, hr, h1⟩ := eq_58 (d := d + 1) (A := [.ref 27, .ref 7]) (M := M) (Q := fun r M' => r = none ∧ In iT_X6b iR_X6b iZ_X6b M') (Nat.le_of_ble_eq_true rfl) (by
    refine st_ald rfl rfl ?_
    refine st_oin rfl (Nat.le_of_ble_eq_true rfl) ?_
    refine st_ald rfl rfl ?_
    refine st_newI (n := 28) rfl h (by decide +kernel) (fun _ h1 => ?_)
    refine st_dup rfl rfl ?_
    refine st_cavI (As := []) rfl h1 rfl rfl (by decide +kernel) (Nat.le_of_ble_eq_true rfl) (i_row _ (n := 29) h1 (by decide +kernel) (by decide +kernel)) (fun _ h2 => ?_)
    refine st_pRI rfl h2 (by decide +kernel) (fun _ h3 => ?_)
    refine st_ald rfl rfl ?_
    refine st_k rfl ?_
    refine st_nwaI (N := 6) (m := 30) rfl h3 (by decide) (by decide) (by decide) (by decide +kernel) (fun _ h4 => ?_)
    refine st_pRI rfl h4 (by decide +kernel) (fun _ h5 => ?_)
    refine st_ald rfl rfl ?_
    refine st_k rfl ?_
    refine st_nwaI (N := 1820) (m := 31) rfl h5 (by decide) (by decide) (by decide) (by decide +kernel) (fun _ h6 => ?_)
    refine st_pRI rfl h6 (by decide +kernel) (fun _ h7 => ?_)
    refine st_ald rfl rfl ?_
    refine st_k rfl ?_
    refine st_nwaI (N := 28000) (m := 32) rfl h7 (by decide) (by decide) (by decide) (by decide +kernel) (fun _ h8 => ?_)
    refine st_pRI rfl h8 (by decide +kernel) (fun _ h9 => ?_)
    refine st_ald rfl rfl ?_
    refine st_ald rfl rfl ?_
    refine st_pRI rfl h9 (by decide +kernel) (fun _ h10 => ?_)
    exact st_vret rfl ⟨rfl, h10.to (by decide +kernel) (by decide +kernel) (by decide +kernel)⟩)
  subst hr
  exact ⟨M', hc, h1⟩
theorem i_X7_init (d : Nat) {M : pm_M} (h : In iT_X7a iR_X7a iZ_X7a M) : ∃ M', pm_call (d + 2) 75 [.ref 33, .ref 7, .ref 27] M none M' ∧ In iT_X7b iR_X7b iZ_X7b M' := by
  obtain ⟨r, M', hc, hr, h1⟩ := eq_75 (d := d + 1) (A := [.ref 33, .ref 7, .ref 27]) (M := M) (Q := fun r M' => r = none ∧ In iT_X7b iR_X7b iZ_X7b M') (Nat.le_of_ble_eq_true rfl) (by
    refine st_ald rfl rfl ?_
    refine st_oin rfl (Nat.le_of_ble_eq_true rfl) ?_
    refine st_ald rfl rfl ?_
    refine st_k rfl ?_
    refine st_nwaI (N := 6) (m := 34) rfl h (by decide) (by decide) (by decide) (by decide +kernel) (fun _ h1 => ?_)
    refine st_pRI rfl h1 (by decide +kernel) (fun _ h2 => ?_)
    refine st_ald rfl rfl ?_
    refine st_newI (n := 35) rfl h2 (by decide +kernel) (fun _ h3 => ?_)
    refine st_dup rfl rfl ?_
    refine st_cavI (As := []) rfl h3 rfl rfl (by decide +kernel) (Nat.le_of_ble_eq_true rfl) (i_row _ (n := 36) h3 (by decide +kernel) (by decide +kernel)) (fun _ h4 => ?_)
    refine st_pRI rfl h4 (by decide +kernel) (fun _ h5 => ?_)
    refine st_ald rfl rfl ?_
    refine st_newI (n := 37) rfl h5 (by decide +kernel) (fun _ h6 => ?_)
    refine st_dup rfl rfl ?_
    refine st_cavI (As := []) rfl h6 rfl rfl (by decide +kernel) (Nat.le_of_ble_eq_true rfl) (i_row _ (n := 38) h6 (by decide +kernel) (by decide +kernel)) (fun _ h7 => ?_)
    refine st_pRI rfl h7 (by decide +kernel) (fun _ h8 => ?_)
    refine st_ald rfl rfl ?_
    refine st_newI (n := 39) rfl h8 (by decide +kernel) (fun _ h9 => ?_)
    refine st_dup rfl rfl ?_
    refine st_cavI (As := []) rfl h9 rfl rfl (by decide +kernel) (Nat.le_of_ble_eq_true rfl) (i_row _ (n := 40) h9 (by decide +kernel) (by decide +kernel)) (fun _ h10 => ?_)
    refine st_pRI rfl h10 (by decide +kernel) (fun _ h11 => ?_)
    refine st_ald rfl rfl ?_
    refine st_ald rfl rfl ?_
    refine st_pRI rfl h11 (by decide +kernel) (fun _ h12 => ?_)
    refine st_ald rfl rfl ?_
    refine st_ald rfl rfl ?_
    refine st_pRI rfl h12 (by decide +kernel) (fun _ h13 => ?_)
    exact st_vret rfl ⟨rfl, h13.to (by decide +kernel) (by decide +kernel) (by decide +kernel)⟩)
  subst hr
  exact ⟨M', hc, h1⟩
theorem i_X0_init (d : Nat) {M : pm_M} (h : In iT_X0a iR_X0a iZ_X0a M) : ∃ M', pm_call (d + 2) 0 [.ref 41, .ref 7, .ref 27] M none M' ∧ In iT_X0b iR_X0b iZ_X0b M' := by
  obtain ⟨r, M', hc, hr, h1⟩ := eq_0 (d := d + 1) (A := [.ref 41, .ref 7, .ref 27]) (M := M) (Q := fun r M' => r = none ∧ In iT_X0b iR_X0b iZ_X0b M') (Nat.le_of_ble_eq_true rfl) (by
    refine st_ald rfl rfl ?_
    refine st_oin rfl (Nat.le_of_ble_eq_true rfl) ?_
    refine st_ald rfl rfl ?_
    refine st_newI (n := 42) rfl h (by decide +kernel) (fun _ h1 => ?_)
    refine st_dup rfl rfl ?_
    refine st_cavI (As := []) rfl h1 rfl rfl (by decide +kernel) (Nat.le_of_ble_eq_true rfl) (i_row _ (n := 43) h1 (by decide +kernel) (by decide +kernel)) (fun _ h2 => ?_)
    refine st_pRI rfl h2 (by decide +kernel) (fun _ h3 => ?_)
    refine st_ald rfl rfl ?_
    refine st_newI (n := 44) rfl h3 (by decide +kernel) (fun _ h4 => ?_)
    refine st_dup rfl rfl ?_
    refine st_cavI (As := []) rfl h4 rfl rfl (by decide +kernel) (Nat.le_of_ble_eq_true rfl) (i_row _ (n := 45) h4 (by decide +kernel) (by decide +kernel)) (fun _ h5 => ?_)
    refine st_pRI rfl h5 (by decide +kernel) (fun _ h6 => ?_)
    refine st_ald rfl rfl ?_
    refine st_newI (n := 46) rfl h6 (by decide +kernel) (fun _ h7 => ?_)
    refine st_dup rfl rfl ?_
    refine st_cavI (As := []) rfl h7 rfl rfl (by decide +kernel) (Nat.le_of_ble_eq_true rfl) (i_row _ (n := 47) h7 (by decide +kernel) (by decide +kernel)) (fun _ h8 => ?_)
    refine st_pRI rfl h8 (by decide +kernel) (fun _ h9 => ?_)
    refine st_ald rfl rfl ?_
    refine st_newI (n := 48) rfl h9 (by decide +kernel) (fun _ h10 => ?_)
    refine st_dup rfl rfl ?_
    refine st_cavI (As := []) rfl h10 rfl rfl (by decide +kernel) (Nat.le_of_ble_eq_true rfl) (i_row _ (n := 49) h10 (by decide +kernel) (by decide +kernel)) (fun _ h11 => ?_)
    refine st_pRI rfl h11 (by decide +kernel) (fun _ h12 => ?_)
    refine st_ald rfl rfl ?_
    refine st_newI (n := 50) rfl h12 (by decide +kernel) (fun _ h13 => ?_)
    refine st_dup rfl rfl ?_
    refine st_cavI (As := []) rfl h13 rfl rfl (by decide +kernel) (Nat.le_of_ble_eq_true rfl) (i_row _ (n := 51) h13 (by decide +kernel) (by decide +kernel)) (fun _ h14 => ?_)
    refine st_pRI rfl h14 (by decide +kernel) (fun _ h15 => ?_)
    refine st_ald rfl rfl ?_
    refine st_ald rfl rfl ?_
    refine st_pRI rfl h15 (by decide +kernel) (fun _ h16 => ?_)
    refine st_ald rfl rfl ?_
    refine st_ald rfl rfl ?_
    refine st_pRI rfl h16 (by decide +kernel) (fun _ h17 => ?_)
    exact st_vret rfl ⟨rfl, h17.to (by decide +kernel) (by decide +kernel) (by decide +kernel)⟩)
  subst hr
  exact ⟨M', hc, h1⟩
theorem i_X3_init (d : Nat) {M : pm_M} (h : In iT_X3a iR_X3a iZ_X3a M) : ∃ M', pm_call (d + 1) 36 [.ref 52] M none M' ∧ In iT_X3b iR_X3b iZ_X3b M' := by
  obtain ⟨r, M', hc, hr, h1⟩ := eq_36 (d := d + 0) (A := [.ref 52]) (M := M) (Q := fun r M' => r = none ∧ In iT_X3b iR_X3b iZ_X3b M') (Nat.le_of_ble_eq_true rfl) (by
    refine st_ald rfl rfl ?_
    refine st_oin rfl (Nat.le_of_ble_eq_true rfl) ?_
    refine st_ald rfl rfl ?_
    refine st_k rfl ?_
    refine st_nwaI (N := 64) (m := 53) rfl h (by decide) (by decide) (by decide) (by decide +kernel) (fun _ h1 => ?_)
    refine st_pRI rfl h1 (by decide +kernel) (fun _ h2 => ?_)
    refine st_ald rfl rfl ?_
    refine st_k rfl ?_
    refine st_nwaI (N := 64) (m := 54) rfl h2 (by decide) (by decide) (by decide) (by decide +kernel) (fun _ h3 => ?_)
    refine st_pRI rfl h3 (by decide +kernel) (fun _ h4 => ?_)
    exact st_vret rfl ⟨rfl, h4.to (by decide +kernel) (by decide +kernel) (by decide +kernel)⟩)
  subst hr
  exact ⟨M', hc, h1⟩
theorem i_X4_init (d : Nat) {M : pm_M} (h : In iT_X4a iR_X4a iZ_X4a M) : ∃ M', pm_call (d + 2) 40 [.ref 55] M none M' ∧ In iT_X4b iR_X4b iZ_X4b M' := by
  obtain ⟨r, M', hc, hr, h1⟩ := eq_40 (d := d + 1) (A := [.ref 55]) (M := M) (Q := fun r M' => r = none ∧ In iT_X4b iR_X4b iZ_X4b M') (Nat.le_of_ble_eq_true rfl) (by
    refine st_ald rfl rfl ?_
    refine st_oin rfl (Nat.le_of_ble_eq_true rfl) ?_
    refine st_ald rfl rfl ?_
    refine st_k rfl ?_
    refine st_nwaI (N := 21) (m := 56) rfl h (by decide) (by decide) (by decide) (by decide +kernel) (fun _ h1 => ?_)
    refine st_pRI rfl h1 (by decide +kernel) (fun _ h2 => ?_)
    refine st_k rfl ?_
    refine st_istI (L' := [some (.ref 55), some (.int 0)]) rfl rfl ?_
    refine st_ild rfl rfl ?_
    refine st_ald rfl rfl ?_
    refine st_gRI (a := 56) rfl h2 (by decide +kernel) (by decide +kernel) ?_
    refine st_alenI (t := 104) (n := 21) (y := 21) rfl h2 (by decide +kernel) (by decide) (by decide) (by decide) ?_
    refine st_b2 rfl (fun zq => absurd zq (by decide)) (fun _ => ?_)
    refine st_ald rfl rfl ?_
    refine st_gRI (a := 56) rfl h2 (by decide +kernel) (by decide +kernel) ?_
    refine st_ild rfl rfl ?_
    refine st_newI (n := 57) rfl h2 (by decide +kernel) (fun _ h3 => ?_)
    refine st_dup rfl rfl ?_
    refine st_cavI (As := []) rfl h3 rfl rfl (by decide +kernel) (Nat.le_of_ble_eq_true rfl) (i_row _ (n := 58) h3 (by decide +kernel) (by decide +kernel)) (fun _ h4 => ?_)
    refine st_aastI (j := 0) rfl h4 (by decide +kernel) (by decide +kernel) (by decide) (pk_in 0 21 (by decide)) (fun _ h5 => ?_)
    refine st_incI (y := 1) (L' := [some (.ref 55), some (.int 1)]) rfl rfl (by decide) rfl ?_
    refine st_go rfl ?_
    refine st_ild rfl rfl ?_
    refine st_ald rfl rfl ?_
    refine st_gRI (a := 56) rfl h5 (by decide +kernel) (by decide +kernel) ?_
    refine st_alenI (t := 104) (n := 21) (y := 21) rfl h5 (by decide +kernel) (by decide) (by decide) (by decide) ?_
    refine st_b2 rfl (fun zq => absurd zq (by decide)) (fun _ => ?_)
    refine st_ald rfl rfl ?_
    refine st_gRI (a := 56) rfl h5 (by decide +kernel) (by decide +kernel) ?_
    refine st_ild rfl rfl ?_
    refine st_newI (n := 59) rfl h5 (by decide +kernel) (fun _ h6 => ?_)
    refine st_dup rfl rfl ?_
    refine st_cavI (As := []) rfl h6 rfl rfl (by decide +kernel) (Nat.le_of_ble_eq_true rfl) (i_row _ (n := 60) h6 (by decide +kernel) (by decide +kernel)) (fun _ h7 => ?_)
    refine st_aastI (j := 1) rfl h7 (by decide +kernel) (by decide +kernel) (by decide) (pk_in 1 21 (by decide)) (fun _ h8 => ?_)
    refine st_incI (y := 2) (L' := [some (.ref 55), some (.int 2)]) rfl rfl (by decide) rfl ?_
    refine st_go rfl ?_
    refine st_ild rfl rfl ?_
    refine st_ald rfl rfl ?_
    refine st_gRI (a := 56) rfl h8 (by decide +kernel) (by decide +kernel) ?_
    refine st_alenI (t := 104) (n := 21) (y := 21) rfl h8 (by decide +kernel) (by decide) (by decide) (by decide) ?_
    refine st_b2 rfl (fun zq => absurd zq (by decide)) (fun _ => ?_)
    refine st_ald rfl rfl ?_
    refine st_gRI (a := 56) rfl h8 (by decide +kernel) (by decide +kernel) ?_
    refine st_ild rfl rfl ?_
    refine st_newI (n := 61) rfl h8 (by decide +kernel) (fun _ h9 => ?_)
    refine st_dup rfl rfl ?_
    refine st_cavI (As := []) rfl h9 rfl rfl (by decide +kernel) (Nat.le_of_ble_eq_true rfl) (i_row _ (n := 62) h9 (by decide +kernel) (by decide +kernel)) (fun _ h10 => ?_)
    refine st_aastI (j := 2) rfl h10 (by decide +kernel) (by decide +kernel) (by decide) (pk_in 2 21 (by decide)) (fun _ h11 => ?_)
    refine st_incI (y := 3) (L' := [some (.ref 55), some (.int 3)]) rfl rfl (by decide) rfl ?_
    refine st_go rfl ?_
    refine st_ild rfl rfl ?_
    refine st_ald rfl rfl ?_
    refine st_gRI (a := 56) rfl h11 (by decide +kernel) (by decide +kernel) ?_
    refine st_alenI (t := 104) (n := 21) (y := 21) rfl h11 (by decide +kernel) (by decide) (by decide) (by decide) ?_
    refine st_b2 rfl (fun zq => absurd zq (by decide)) (fun _ => ?_)
    refine st_ald rfl rfl ?_
    refine st_gRI (a := 56) rfl h11 (by decide +kernel) (by decide +kernel) ?_
    refine st_ild rfl rfl ?_
    refine st_newI (n := 63) rfl h11 (by decide +kernel) (fun _ h12 => ?_)
    refine st_dup rfl rfl ?_
    refine st_cavI (As := []) rfl h12 rfl rfl (by decide +kernel) (Nat.le_of_ble_eq_true rfl) (i_row _ (n := 64) h12 (by decide +kernel) (by decide +kernel)) (fun _ h13 => ?_)
    refine st_aastI (j := 3) rfl h13 (by decide +kernel) (by decide +kernel) (by decide) (pk_in 3 21 (by decide)) (fun _ h14 => ?_)
    refine st_incI (y := 4) (L' := [some (.ref 55), some (.int 4)]) rfl rfl (by decide) rfl ?_
    refine st_go rfl ?_
    refine st_ild rfl rfl ?_
    refine st_ald rfl rfl ?_
    refine st_gRI (a := 56) rfl h14 (by decide +kernel) (by decide +kernel) ?_
    refine st_alenI (t := 104) (n := 21) (y := 21) rfl h14 (by decide +kernel) (by decide) (by decide) (by decide) ?_
    refine st_b2 rfl (fun zq => absurd zq (by decide)) (fun _ => ?_)
    refine st_ald rfl rfl ?_
    refine st_gRI (a := 56) rfl h14 (by decide +kernel) (by decide +kernel) ?_
    refine st_ild rfl rfl ?_
    refine st_newI (n := 65) rfl h14 (by decide +kernel) (fun _ h15 => ?_)
    refine st_dup rfl rfl ?_
    refine st_cavI (As := []) rfl h15 rfl rfl (by decide +kernel) (Nat.le_of_ble_eq_true rfl) (i_row _ (n := 66) h15 (by decide +kernel) (by decide +kernel)) (fun _ h16 => ?_)
    refine st_aastI (j := 4) rfl h16 (by decide +kernel) (by decide +kernel) (by decide) (pk_in 4 21 (by decide)) (fun _ h17 => ?_)
    refine st_incI (y := 5) (L' := [some (.ref 55), some (.int 5)]) rfl rfl (by decide) rfl ?_
    refine st_go rfl ?_
    refine st_ild rfl rfl ?_
    refine st_ald rfl rfl ?_
    refine st_gRI (a := 56) rfl h17 (by decide +kernel) (by decide +kernel) ?_
    refine st_alenI (t := 104) (n := 21) (y := 21) rfl h17 (by decide +kernel) (by decide) (by decide) (by decide) ?_
    refine st_b2 rfl (fun zq => absurd zq (by decide)) (fun _ => ?_)
    refine st_ald rfl rfl ?_
    refine st_gRI (a := 56) rfl h17 (by decide +kernel) (by decide +kernel) ?_
    refine st_ild rfl rfl ?_
    refine st_newI (n := 67) rfl h17 (by decide +kernel) (fun _ h18 => ?_)
    refine st_dup rfl rfl ?_
    refine st_cavI (As := []) rfl h18 rfl rfl (by decide +kernel) (Nat.le_of_ble_eq_true rfl) (i_row _ (n := 68) h18 (by decide +kernel) (by decide +kernel)) (fun _ h19 => ?_)
    refine st_aastI (j := 5) rfl h19 (by decide +kernel) (by decide +kernel) (by decide) (pk_in 5 21 (by decide)) (fun _ h20 => ?_)
    refine st_incI (y := 6) (L' := [some (.ref 55), some (.int 6)]) rfl rfl (by decide) rfl ?_
    refine st_go rfl ?_
    refine st_ild rfl rfl ?_
    refine st_ald rfl rfl ?_
    refine st_gRI (a := 56) rfl h20 (by decide +kernel) (by decide +kernel) ?_
    refine st_alenI (t := 104) (n := 21) (y := 21) rfl h20 (by decide +kernel) (by decide) (by decide) (by decide) ?_
    refine st_b2 rfl (fun zq => absurd zq (by decide)) (fun _ => ?_)
    refine st_ald rfl rfl ?_
    refine st_gRI (a := 56) rfl h20 (by decide +kernel) (by decide +kernel) ?_
    refine st_ild rfl rfl ?_
    refine st_newI (n := 69) rfl h20 (by decide +kernel) (fun _ h21 => ?_)
    refine st_dup rfl rfl ?_
    refine st_cavI (As := []) rfl h21 rfl rfl (by decide +kernel) (Nat.le_of_ble_eq_true rfl) (i_row _ (n := 70) h21 (by decide +kernel) (by decide +kernel)) (fun _ h22 => ?_)
    refine st_aastI (j := 6) rfl h22 (by decide +kernel) (by decide +kernel) (by decide) (pk_in 6 21 (by decide)) (fun _ h23 => ?_)
    refine st_incI (y := 7) (L' := [some (.ref 55), some (.int 7)]) rfl rfl (by decide) rfl ?_
    refine st_go rfl ?_
    refine st_ild rfl rfl ?_
    refine st_ald rfl rfl ?_
    refine st_gRI (a := 56) rfl h23 (by decide +kernel) (by decide +kernel) ?_
    refine st_alenI (t := 104) (n := 21) (y := 21) rfl h23 (by decide +kernel) (by decide) (by decide) (by decide) ?_
    refine st_b2 rfl (fun zq => absurd zq (by decide)) (fun _ => ?_)
    refine st_ald rfl rfl ?_
    refine st_gRI (a := 56) rfl h23 (by decide +kernel) (by decide +kernel) ?_
    refine st_ild rfl rfl ?_
    refine st_newI (n := 71) rfl h23 (by decide +kernel) (fun _ h24 => ?_)
    refine st_dup rfl rfl ?_
    refine st_cavI (As := []) rfl h24 rfl rfl (by decide +kernel) (Nat.le_of_ble_eq_true rfl) (i_row _ (n := 72) h24 (by decide +kernel) (by decide +kernel)) (fun _ h25 => ?_)
    refine st_aastI (j := 7) rfl h25 (by decide +kernel) (by decide +kernel) (by decide) (pk_in 7 21 (by decide)) (fun _ h26 => ?_)
    refine st_incI (y := 8) (L' := [some (.ref 55), some (.int 8)]) rfl rfl (by decide) rfl ?_
    refine st_go rfl ?_
    refine st_ild rfl rfl ?_
    refine st_ald rfl rfl ?_
    refine st_gRI (a := 56) rfl h26 (by decide +kernel) (by decide +kernel) ?_
    refine st_alenI (t := 104) (n := 21) (y := 21) rfl h26 (by decide +kernel) (by decide) (by decide) (by decide) ?_
    refine st_b2 rfl (fun zq => absurd zq (by decide)) (fun _ => ?_)
    refine st_ald rfl rfl ?_
    refine st_gRI (a := 56) rfl h26 (by decide +kernel) (by decide +kernel) ?_
    refine st_ild rfl rfl ?_
    refine st_newI (n := 73) rfl h26 (by decide +kernel) (fun _ h27 => ?_)
    refine st_dup rfl rfl ?_
    refine st_cavI (As := []) rfl h27 rfl rfl (by decide +kernel) (Nat.le_of_ble_eq_true rfl) (i_row _ (n := 74) h27 (by decide +kernel) (by decide +kernel)) (fun _ h28 => ?_)
    refine st_aastI (j := 8) rfl h28 (by decide +kernel) (by decide +kernel) (by decide) (pk_in 8 21 (by decide)) (fun _ h29 => ?_)
    refine st_incI (y := 9) (L' := [some (.ref 55), some (.int 9)]) rfl rfl (by decide) rfl ?_
    refine st_go rfl ?_
    refine st_ild rfl rfl ?_
    refine st_ald rfl rfl ?_
    refine st_gRI (a := 56) rfl h29 (by decide +kernel) (by decide +kernel) ?_
    refine st_alenI (t := 104) (n := 21) (y := 21) rfl h29 (by decide +kernel) (by decide) (by decide) (by decide) ?_
    refine st_b2 rfl (fun zq => absurd zq (by decide)) (fun _ => ?_)
    refine st_ald rfl rfl ?_
    refine st_gRI (a := 56) rfl h29 (by decide +kernel) (by decide +kernel) ?_
    refine st_ild rfl rfl ?_
    refine st_newI (n := 75) rfl h29 (by decide +kernel) (fun _ h30 => ?_)
    refine st_dup rfl rfl ?_
    refine st_cavI (As := []) rfl h30 rfl rfl (by decide +kernel) (Nat.le_of_ble_eq_true rfl) (i_row _ (n := 76) h30 (by decide +kernel) (by decide +kernel)) (fun _ h31 => ?_)
    refine st_aastI (j := 9) rfl h31 (by decide +kernel) (by decide +kernel) (by decide) (pk_in 9 21 (by decide)) (fun _ h32 => ?_)
    refine st_incI (y := 10) (L' := [some (.ref 55), some (.int 10)]) rfl rfl (by decide) rfl ?_
    refine st_go rfl ?_
    refine st_ild rfl rfl ?_
    refine st_ald rfl rfl ?_
    refine st_gRI (a := 56) rfl h32 (by decide +kernel) (by decide +kernel) ?_
    refine st_alenI (t := 104) (n := 21) (y := 21) rfl h32 (by decide +kernel) (by decide) (by decide) (by decide) ?_
    refine st_b2 rfl (fun zq => absurd zq (by decide)) (fun _ => ?_)
    refine st_ald rfl rfl ?_
    refine st_gRI (a := 56) rfl h32 (by decide +kernel) (by decide +kernel) ?_
    refine st_ild rfl rfl ?_
    refine st_newI (n := 77) rfl h32 (by decide +kernel) (fun _ h33 => ?_)
    refine st_dup rfl rfl ?_
    refine st_cavI (As := []) rfl h33 rfl rfl (by decide +kernel) (Nat.le_of_ble_eq_true rfl) (i_row _ (n := 78) h33 (by decide +kernel) (by decide +kernel)) (fun _ h34 => ?_)
    refine st_aastI (j := 10) rfl h34 (by decide +kernel) (by decide +kernel) (by decide) (pk_in 10 21 (by decide)) (fun _ h35 => ?_)
    refine st_incI (y := 11) (L' := [some (.ref 55), some (.int 11)]) rfl rfl (by decide) rfl ?_
    refine st_go rfl ?_
    refine st_ild rfl rfl ?_
    refine st_ald rfl rfl ?_
    refine st_gRI (a := 56) rfl h35 (by decide +kernel) (by decide +kernel) ?_
    refine st_alenI (t := 104) (n := 21) (y := 21) rfl h35 (by decide +kernel) (by decide) (by decide) (by decide) ?_
    refine st_b2 rfl (fun zq => absurd zq (by decide)) (fun _ => ?_)
    refine st_ald rfl rfl ?_
    refine st_gRI (a := 56) rfl h35 (by decide +kernel) (by decide +kernel) ?_
    refine st_ild rfl rfl ?_
    refine st_newI (n := 79) rfl h35 (by decide +kernel) (fun _ h36 => ?_)
    refine st_dup rfl rfl ?_
    refine st_cavI (As := []) rfl h36 rfl rfl (by decide +kernel) (Nat.le_of_ble_eq_true rfl) (i_row _ (n := 80) h36 (by decide +kernel) (by decide +kernel)) (fun _ h37 => ?_)
    refine st_aastI (j := 11) rfl h37 (by decide +kernel) (by decide +kernel) (by decide) (pk_in 11 21 (by decide)) (fun _ h38 => ?_)
    refine st_incI (y := 12) (L' := [some (.ref 55), some (.int 12)]) rfl rfl (by decide) rfl ?_
    refine st_go rfl ?_
    refine st_ild rfl rfl ?_
    refine st_ald rfl rfl ?_
    refine st_gRI (a := 56) rfl h38 (by decide +kernel) (by decide +kernel) ?_
    refine st_alenI (t := 104) (n := 21) (y := 21) rfl h38 (by decide +kernel) (by decide) (by decide) (by decide) ?_
    refine st_b2 rfl (fun zq => absurd zq (by decide)) (fun _ => ?_)
    refine st_ald rfl rfl ?_
    refine st_gRI (a := 56) rfl h38 (by decide +kernel) (by decide +kernel) ?_
    refine st_ild rfl rfl ?_
    refine st_newI (n := 81) rfl h38 (by decide +kernel) (fun _ h39 => ?_)
    refine st_dup rfl rfl ?_
    refine st_cavI (As := []) rfl h39 rfl rfl (by decide +kernel) (Nat.le_of_ble_eq_true rfl) (i_row _ (n := 82) h39 (by decide +kernel) (by decide +kernel)) (fun _ h40 => ?_)
    refine st_aastI (j := 12) rfl h40 (by decide +kernel) (by decide +kernel) (by decide) (pk_in 12 21 (by decide)) (fun _ h41 => ?_)
    refine st_incI (y := 13) (L' := [some (.ref 55), some (.int 13)]) rfl rfl (by decide) rfl ?_
    refine st_go rfl ?_
    refine st_ild rfl rfl ?_
    refine st_ald rfl rfl ?_
    refine st_gRI (a := 56) rfl h41 (by decide +kernel) (by decide +kernel) ?_
    refine st_alenI (t := 104) (n := 21) (y := 21) rfl h41 (by decide +kernel) (by decide) (by decide) (by decide) ?_
    refine st_b2 rfl (fun zq => absurd zq (by decide)) (fun _ => ?_)
    refine st_ald rfl rfl ?_
    refine st_gRI (a := 56) rfl h41 (by decide +kernel) (by decide +kernel) ?_
    refine st_ild rfl rfl ?_
    refine st_newI (n := 83) rfl h41 (by decide +kernel) (fun _ h42 => ?_)
    refine st_dup rfl rfl ?_
    refine st_cavI (As := []) rfl h42 rfl rfl (by decide +kernel) (Nat.le_of_ble_eq_true rfl) (i_row _ (n := 84) h42 (by decide +kernel) (by decide +kernel)) (fun _ h43 => ?_)
    refine st_aastI (j := 13) rfl h43 (by decide +kernel) (by decide +kernel) (by decide) (pk_in 13 21 (by decide)) (fun _ h44 => ?_)
    refine st_incI (y := 14) (L' := [some (.ref 55), some (.int 14)]) rfl rfl (by decide) rfl ?_
    refine st_go rfl ?_
    refine st_ild rfl rfl ?_
    refine st_ald rfl rfl ?_
    refine st_gRI (a := 56) rfl h44 (by decide +kernel) (by decide +kernel) ?_
    refine st_alenI (t := 104) (n := 21) (y := 21) rfl h44 (by decide +kernel) (by decide) (by decide) (by decide) ?_
    refine st_b2 rfl (fun zq => absurd zq (by decide)) (fun _ => ?_)
    refine st_ald rfl rfl ?_
    refine st_gRI (a := 56) rfl h44 (by decide +kernel) (by decide +kernel) ?_
    refine st_ild rfl rfl ?_
    refine st_newI (n := 85) rfl h44 (by decide +kernel) (fun _ h45 => ?_)
    refine st_dup rfl rfl ?_
    refine st_cavI (As := []) rfl h45 rfl rfl (by decide +kernel) (Nat.le_of_ble_eq_true rfl) (i_row _ (n := 86) h45 (by decide +kernel) (by decide +kernel)) (fun _ h46 => ?_)
    refine st_aastI (j := 14) rfl h46 (by decide +kernel) (by decide +kernel) (by decide) (pk_in 14 21 (by decide)) (fun _ h47 => ?_)
    refine st_incI (y := 15) (L' := [some (.ref 55), some (.int 15)]) rfl rfl (by decide) rfl ?_
    refine st_go rfl ?_
    refine st_ild rfl rfl ?_
    refine st_ald rfl rfl ?_
    refine st_gRI (a := 56) rfl h47 (by decide +kernel) (by decide +kernel) ?_
    refine st_alenI (t := 104) (n := 21) (y := 21) rfl h47 (by decide +kernel) (by decide) (by decide) (by decide) ?_
    refine st_b2 rfl (fun zq => absurd zq (by decide)) (fun _ => ?_)
    refine st_ald rfl rfl ?_
    refine st_gRI (a := 56) rfl h47 (by decide +kernel) (by decide +kernel) ?_
    refine st_ild rfl rfl ?_
    refine st_newI (n := 87) rfl h47 (by decide +kernel) (fun _ h48 => ?_)
    refine st_dup rfl rfl ?_
    refine st_cavI (As := []) rfl h48 rfl rfl (by decide +kernel) (Nat.le_of_ble_eq_true rfl) (i_row _ (n := 88) h48 (by decide +kernel) (by decide +kernel)) (fun _ h49 => ?_)
    refine st_aastI (j := 15) rfl h49 (by decide +kernel) (by decide +kernel) (by decide) (pk_in 15 21 (by decide)) (fun _ h50 => ?_)
    refine st_incI (y := 16) (L' := [some (.ref 55), some (.int 16)]) rfl rfl (by decide) rfl ?_
    refine st_go rfl ?_
    refine st_ild rfl rfl ?_
    refine st_ald rfl rfl ?_
    refine st_gRI (a := 56) rfl h50 (by decide +kernel) (by decide +kernel) ?_
    refine st_alenI (t := 104) (n := 21) (y := 21) rfl h50 (by decide +kernel) (by decide) (by decide) (by decide) ?_
    refine st_b2 rfl (fun zq => absurd zq (by decide)) (fun _ => ?_)
    refine st_ald rfl rfl ?_
    refine st_gRI (a := 56) rfl h50 (by decide +kernel) (by decide +kernel) ?_
    refine st_ild rfl rfl ?_
    refine st_newI (n := 89) rfl h50 (by decide +kernel) (fun _ h51 => ?_)
    refine st_dup rfl rfl ?_
    refine st_cavI (As := []) rfl h51 rfl rfl (by decide +kernel) (Nat.le_of_ble_eq_true rfl) (i_row _ (n := 90) h51 (by decide +kernel) (by decide +kernel)) (fun _ h52 => ?_)
    refine st_aastI (j := 16) rfl h52 (by decide +kernel) (by decide +kernel) (by decide) (pk_in 16 21 (by decide)) (fun _ h53 => ?_)
    refine st_incI (y := 17) (L' := [some (.ref 55), some (.int 17)]) rfl rfl (by decide) rfl ?_
    refine st_go rfl ?_
    refine st_ild rfl rfl ?_
    refine st_ald rfl rfl ?_
    refine st_gRI (a := 56) rfl h53 (by decide +kernel) (by decide +kernel) ?_
    refine st_alenI (t := 104) (n := 21) (y := 21) rfl h53 (by decide +kernel) (by decide) (by decide) (by decide) ?_
    refine st_b2 rfl (fun zq => absurd zq (by decide)) (fun _ => ?_)
    refine st_ald rfl rfl ?_
    refine st_gRI (a := 56) rfl h53 (by decide +kernel) (by decide +kernel) ?_
    refine st_ild rfl rfl ?_
    refine st_newI (n := 91) rfl h53 (by decide +kernel) (fun _ h54 => ?_)
    refine st_dup rfl rfl ?_
    refine st_cavI (As := []) rfl h54 rfl rfl (by decide +kernel) (Nat.le_of_ble_eq_true rfl) (i_row _ (n := 92) h54 (by decide +kernel) (by decide +kernel)) (fun _ h55 => ?_)
    refine st_aastI (j := 17) rfl h55 (by decide +kernel) (by decide +kernel) (by decide) (pk_in 17 21 (by decide)) (fun _ h56 => ?_)
    refine st_incI (y := 18) (L' := [some (.ref 55), some (.int 18)]) rfl rfl (by decide) rfl ?_
    refine st_go rfl ?_
    refine st_ild rfl rfl ?_
    refine st_ald rfl rfl ?_
    refine st_gRI (a := 56) rfl h56 (by decide +kernel) (by decide +kernel) ?_
    refine st_alenI (t := 104) (n := 21) (y := 21) rfl h56 (by decide +kernel) (by decide) (by decide) (by decide) ?_
    refine st_b2 rfl (fun zq => absurd zq (by decide)) (fun _ => ?_)
    refine st_ald rfl rfl ?_
    refine st_gRI (a := 56) rfl h56 (by decide +kernel) (by decide +kernel) ?_
    refine st_ild rfl rfl ?_
    refine st_newI (n := 93) rfl h56 (by decide +kernel) (fun _ h57 => ?_)
    refine st_dup rfl rfl ?_
    refine st_cavI (As := []) rfl h57 rfl rfl (by decide +kernel) (Nat.le_of_ble_eq_true rfl) (i_row _ (n := 94) h57 (by decide +kernel) (by decide +kernel)) (fun _ h58 => ?_)
    refine st_aastI (j := 18) rfl h58 (by decide +kernel) (by decide +kernel) (by decide) (pk_in 18 21 (by decide)) (fun _ h59 => ?_)
    refine st_incI (y := 19) (L' := [some (.ref 55), some (.int 19)]) rfl rfl (by decide) rfl ?_
    refine st_go rfl ?_
    refine st_ild rfl rfl ?_
    refine st_ald rfl rfl ?_
    refine st_gRI (a := 56) rfl h59 (by decide +kernel) (by decide +kernel) ?_
    refine st_alenI (t := 104) (n := 21) (y := 21) rfl h59 (by decide +kernel) (by decide) (by decide) (by decide) ?_
    refine st_b2 rfl (fun zq => absurd zq (by decide)) (fun _ => ?_)
    refine st_ald rfl rfl ?_
    refine st_gRI (a := 56) rfl h59 (by decide +kernel) (by decide +kernel) ?_
    refine st_ild rfl rfl ?_
    refine st_newI (n := 95) rfl h59 (by decide +kernel) (fun _ h60 => ?_)
    refine st_dup rfl rfl ?_
    refine st_cavI (As := []) rfl h60 rfl rfl (by decide +kernel) (Nat.le_of_ble_eq_true rfl) (i_row _ (n := 96) h60 (by decide +kernel) (by decide +kernel)) (fun _ h61 => ?_)
    refine st_aastI (j := 19) rfl h61 (by decide +kernel) (by decide +kernel) (by decide) (pk_in 19 21 (by decide)) (fun _ h62 => ?_)
    refine st_incI (y := 20) (L' := [some (.ref 55), some (.int 20)]) rfl rfl (by decide) rfl ?_
    refine st_go rfl ?_
    refine st_ild rfl rfl ?_
    refine st_ald rfl rfl ?_
    refine st_gRI (a := 56) rfl h62 (by decide +kernel) (by decide +kernel) ?_
    refine st_alenI (t := 104) (n := 21) (y := 21) rfl h62 (by decide +kernel) (by decide) (by decide) (by decide) ?_
    refine st_b2 rfl (fun zq => absurd zq (by decide)) (fun _ => ?_)
    refine st_ald rfl rfl ?_
    refine st_gRI (a := 56) rfl h62 (by decide +kernel) (by decide +kernel) ?_
    refine st_ild rfl rfl ?_
    refine st_newI (n := 97) rfl h62 (by decide +kernel) (fun _ h63 => ?_)
    refine st_dup rfl rfl ?_
    refine st_cavI (As := []) rfl h63 rfl rfl (by decide +kernel) (Nat.le_of_ble_eq_true rfl) (i_row _ (n := 98) h63 (by decide +kernel) (by decide +kernel)) (fun _ h64 => ?_)
    refine st_aastI (j := 20) rfl h64 (by decide +kernel) (by decide +kernel) (by decide) (pk_in 20 21 (by decide)) (fun _ h65 => ?_)
    refine st_incI (y := 21) (L' := [some (.ref 55), some (.int 21)]) rfl rfl (by decide) rfl ?_
    refine st_go rfl ?_
    refine st_ild rfl rfl ?_
    refine st_ald rfl rfl ?_
    refine st_gRI (a := 56) rfl h65 (by decide +kernel) (by decide +kernel) ?_
    refine st_alenI (t := 104) (n := 21) (y := 21) rfl h65 (by decide +kernel) (by decide) (by decide) (by decide) ?_
    refine st_b2 rfl (fun _ => ?_) (fun zq => absurd (by decide) zq)
    exact st_vret rfl ⟨rfl, h65.to (by decide +kernel) (by decide +kernel) (by decide +kernel)⟩)
  subst hr
  exact ⟨M', hc, h1⟩
theorem i_X10_init (d : Nat) {M : pm_M} (h : In iT_X10a iR_X10a iZ_X10a M) : ∃ M', pm_call (d + 3) 89 [.ref 0] M none M' ∧ In iT_X10b iR_X10b iZ_X10b M' := by
  obtain ⟨r, M', hc, hr, h1⟩ := eq_89 (d := d + 2) (A := [.ref 0]) (M := M) (Q := fun r M' => r = none ∧ In iT_X10b iR_X10b iZ_X10b M') (Nat.le_of_ble_eq_true rfl) (by
    refine st_ald rfl rfl ?_
    refine st_oin rfl (Nat.le_of_ble_eq_true rfl) ?_
    refine st_ald rfl rfl ?_
    refine st_k rfl ?_
    refine st_nwaI (N := 6) (m := 1) rfl h (by decide) (by decide) (by decide) (by decide +kernel) (fun _ h1 => ?_)
    refine st_pRI rfl h1 (by decide +kernel) (fun _ h2 => ?_)
    refine st_ald rfl rfl ?_
    refine st_k rfl ?_
    refine st_nwaI (N := 4) (m := 2) rfl h2 (by decide) (by decide) (by decide) (by decide +kernel) (fun _ h3 => ?_)
    refine st_pRI rfl h3 (by decide +kernel) (fun _ h4 => ?_)
    refine st_ald rfl rfl ?_
    refine st_newI (n := 3) rfl h4 (by decide +kernel) (fun _ h5 => ?_)
    refine st_dup rfl rfl ?_
    refine st_cavI (As := []) rfl h5 rfl rfl (by decide +kernel) (Nat.le_of_ble_eq_true rfl) (i_row _ (n := 4) h5 (by decide +kernel) (by decide +kernel)) (fun _ h6 => ?_)
    refine st_pRI rfl h6 (by decide +kernel) (fun _ h7 => ?_)
    refine st_ald rfl rfl ?_
    refine st_k rfl ?_
    refine st_nwaI (N := 3) (m := 5) rfl h7 (by decide) (by decide) (by decide) (by decide +kernel) (fun _ h8 => ?_)
    refine st_pRI rfl h8 (by decide +kernel) (fun _ h9 => ?_)
    refine st_ald rfl rfl ?_
    refine st_k rfl ?_
    refine st_nwaI (N := 3) (m := 6) rfl h9 (by decide) (by decide) (by decide) (by decide +kernel) (fun _ h10 => ?_)
    refine st_pRI rfl h10 (by decide +kernel) (fun _ h11 => ?_)
    refine st_ald rfl rfl ?_
    refine st_newI (n := 7) rfl h11 (by decide +kernel) (fun _ h12 => ?_)
    refine st_dup rfl rfl ?_
    refine st_cavI (As := []) rfl h12 rfl rfl (by decide +kernel) (Nat.le_of_ble_eq_true rfl) (i_X1_init _ (h12.to (T' := iT_X1a) (R' := iR_X1a) (Z' := iZ_X1a) (by decide +kernel) (by decide +kernel) (by decide +kernel))) (fun _ h13 => ?_)
    refine st_pRI rfl h13 (by decide +kernel) (fun _ h14 => ?_)
    refine st_ald rfl rfl ?_
    refine st_newI (n := 20) rfl h14 (by decide +kernel) (fun _ h15 => ?_)
    refine st_dup rfl rfl ?_
    refine st_cavI (As := []) rfl h15 rfl rfl (by decide +kernel) (Nat.le_of_ble_eq_true rfl) (i_X2_init _ (h15.to (T' := iT_X2a) (R' := iR_X2a) (Z' := iZ_X2a) (by decide +kernel) (by decide +kernel) (by decide +kernel))) (fun _ h16 => ?_)
    refine st_pRI rfl h16 (by decide +kernel) (fun _ h17 => ?_)
    refine st_ald rfl rfl ?_
    refine st_newI (n := 25) rfl h17 (by decide +kernel) (fun _ h18 => ?_)
    refine st_dup rfl rfl ?_
    refine st_ald rfl rfl ?_
    refine st_gRI (a := 7) rfl h18 (by decide +kernel) (by decide +kernel) ?_
    refine st_cavI (As := [.ref 7]) rfl h18 rfl rfl (by decide +kernel) (Nat.le_of_ble_eq_true rfl) (i_X8_init _ (h18.to (T' := iT_X8a) (R' := iR_X8a) (Z' := iZ_X8a) (by decide +kernel) (by decide +kernel) (by decide +kernel))) (fun _ h19 => ?_)
    refine st_pRI rfl h19 (by decide +kernel) (fun _ h20 => ?_)
    refine st_ald rfl rfl ?_
    refine st_newI (n := 27) rfl h20 (by decide +kernel) (fun _ h21 => ?_)
    refine st_dup rfl rfl ?_
    refine st_ald rfl rfl ?_
    refine st_gRI (a := 7) rfl h21 (by decide +kernel) (by decide +kernel) ?_
    refine st_cavI (As := [.ref 7]) rfl h21 rfl rfl (by decide +kernel) (Nat.le_of_ble_eq_true rfl) (i_X6_init _ (h21.to (T' := iT_X6a) (R' := iR_X6a) (Z' := iZ_X6a) (by decide +kernel) (by decide +kernel) (by decide +kernel))) (fun _ h22 => ?_)
    refine st_pRI rfl h22 (by decide +kernel) (fun _ h23 => ?_)
    refine st_ald rfl rfl ?_
    refine st_newI (n := 33) rfl h23 (by decide +kernel) (fun _ h24 => ?_)
    refine st_dup rfl rfl ?_
    refine st_ald rfl rfl ?_
    refine st_gRI (a := 7) rfl h24 (by decide +kernel) (by decide +kernel) ?_
    refine st_ald rfl rfl ?_
    refine st_gRI (a := 27) rfl h24 (by decide +kernel) (by decide +kernel) ?_
    refine st_cavI (As := [.ref 7, .ref 27]) rfl h24 rfl rfl (by decide +kernel) (Nat.le_of_ble_eq_true rfl) (i_X7_init _ (h24.to (T' := iT_X7a) (R' := iR_X7a) (Z' := iZ_X7a) (by decide +kernel) (by decide +kernel) (by decide +kernel))) (fun _ h25 => ?_)
    refine st_pRI rfl h25 (by decide +kernel) (fun _ h26 => ?_)
    refine st_ald rfl rfl ?_
    refine st_newI (n := 41) rfl h26 (by decide +kernel) (fun _ h27 => ?_)
    refine st_dup rfl rfl ?_
    refine st_ald rfl rfl ?_
    refine st_gRI (a := 7) rfl h27 (by decide +kernel) (by decide +kernel) ?_
    refine st_ald rfl rfl ?_
    refine st_gRI (a := 27) rfl h27 (by decide +kernel) (by decide +kernel) ?_
    refine st_cavI (As := [.ref 7, .ref 27]) rfl h27 rfl rfl (by decide +kernel) (Nat.le_of_ble_eq_true rfl) (i_X0_init _ (h27.to (T' := iT_X0a) (R' := iR_X0a) (Z' := iZ_X0a) (by decide +kernel) (by decide +kernel) (by decide +kernel))) (fun _ h28 => ?_)
    refine st_pRI rfl h28 (by decide +kernel) (fun _ h29 => ?_)
    refine st_ald rfl rfl ?_
    refine st_newI (n := 52) rfl h29 (by decide +kernel) (fun _ h30 => ?_)
    refine st_dup rfl rfl ?_
    refine st_cavI (As := []) rfl h30 rfl rfl (by decide +kernel) (Nat.le_of_ble_eq_true rfl) (i_X3_init _ (h30.to (T' := iT_X3a) (R' := iR_X3a) (Z' := iZ_X3a) (by decide +kernel) (by decide +kernel) (by decide +kernel))) (fun _ h31 => ?_)
    refine st_pRI rfl h31 (by decide +kernel) (fun _ h32 => ?_)
    refine st_ald rfl rfl ?_
    refine st_newI (n := 55) rfl h32 (by decide +kernel) (fun _ h33 => ?_)
    refine st_dup rfl rfl ?_
    refine st_cavI (As := []) rfl h33 rfl rfl (by decide +kernel) (Nat.le_of_ble_eq_true rfl) (i_X4_init _ (h33.to (T' := iT_X4a) (R' := iR_X4a) (Z' := iZ_X4a) (by decide +kernel) (by decide +kernel) (by decide +kernel))) (fun _ h34 => ?_)
    refine st_pRI rfl h34 (by decide +kernel) (fun _ h35 => ?_)
    refine st_ald rfl rfl ?_
    refine st_newI (n := 99) rfl h35 (by decide +kernel) (fun _ h36 => ?_)
    refine st_dup rfl rfl ?_
    refine st_cavI (As := []) rfl h36 rfl rfl (by decide +kernel) (Nat.le_of_ble_eq_true rfl) (i_row _ (n := 100) h36 (by decide +kernel) (by decide +kernel)) (fun _ h37 => ?_)
    refine st_pRI rfl h37 (by decide +kernel) (fun _ h38 => ?_)
    refine st_ald rfl rfl ?_
    refine st_newI (n := 101) rfl h38 (by decide +kernel) (fun _ h39 => ?_)
    refine st_dup rfl rfl ?_
    refine st_cavI (As := []) rfl h39 rfl rfl (by decide +kernel) (Nat.le_of_ble_eq_true rfl) (i_row _ (n := 102) h39 (by decide +kernel) (by decide +kernel)) (fun _ h40 => ?_)
    refine st_pRI rfl h40 (by decide +kernel) (fun _ h41 => ?_)
    refine st_ald rfl rfl ?_
    refine st_newI (n := 103) rfl h41 (by decide +kernel) (fun _ h42 => ?_)
    refine st_dup rfl rfl ?_
    refine st_cavI (As := []) rfl h42 rfl rfl (by decide +kernel) (Nat.le_of_ble_eq_true rfl) (i_row _ (n := 104) h42 (by decide +kernel) (by decide +kernel)) (fun _ h43 => ?_)
    refine st_pRI rfl h43 (by decide +kernel) (fun _ h44 => ?_)
    refine st_ald rfl rfl ?_
    refine st_k rfl ?_
    refine st_nwaI (N := 6) (m := 105) rfl h44 (by decide) (by decide) (by decide) (by decide +kernel) (fun _ h45 => ?_)
    refine st_pRI rfl h45 (by decide +kernel) (fun _ h46 => ?_)
    refine st_k rfl ?_
    refine st_istI (L' := [some (.ref 0), some (.int 0)]) rfl rfl ?_
    refine st_ild rfl rfl ?_
    refine st_k rfl ?_
    refine st_b2 rfl (fun zq => absurd zq (by decide)) (fun _ => ?_)
    refine st_ald rfl rfl ?_
    refine st_gRI (a := 1) rfl h46 (by decide +kernel) (by decide +kernel) ?_
    refine st_ild rfl rfl ?_
    refine st_newI (n := 106) rfl h46 (by decide +kernel) (fun _ h47 => ?_)
    refine st_dup rfl rfl ?_
    refine st_cavI (As := []) rfl h47 rfl rfl (by decide +kernel) (Nat.le_of_ble_eq_true rfl) (i_row _ (n := 107) h47 (by decide +kernel) (by decide +kernel)) (fun _ h48 => ?_)
    refine st_aastI (j := 0) rfl h48 (by decide +kernel) (by decide +kernel) (by decide) (pk_in 0 6 (by decide)) (fun _ h49 => ?_)
    refine st_ald rfl rfl ?_
    refine st_gRI (a := 1) rfl h49 (by decide +kernel) (by decide +kernel) ?_
    refine st_ild rfl rfl ?_
    refine st_aaldI (a := 106) (j := 0) rfl h49 (by decide +kernel) (by decide) (pk_in 0 6 (by decide)) (by decide +kernel) ?_
    refine st_k rfl ?_
    refine st_pII rfl h49 (by decide +kernel) (fun _ h50 => ?_)
    refine st_incI (y := 1) (L' := [some (.ref 0), some (.int 1)]) rfl rfl (by decide) rfl ?_
    refine st_go rfl ?_
    refine st_ild rfl rfl ?_
    refine st_k rfl ?_
    refine st_b2 rfl (fun zq => absurd zq (by decide)) (fun _ => ?_)
    refine st_ald rfl rfl ?_
    refine st_gRI (a := 1) rfl h50 (by decide +kernel) (by decide +kernel) ?_
    refine st_ild rfl rfl ?_
    refine st_newI (n := 108) rfl h50 (by decide +kernel) (fun _ h51 => ?_)
    refine st_dup rfl rfl ?_
    refine st_cavI (As := []) rfl h51 rfl rfl (by decide +kernel) (Nat.le_of_ble_eq_true rfl) (i_row _ (n := 109) h51 (by decide +kernel) (by decide +kernel)) (fun _ h52 => ?_)
    refine st_aastI (j := 1) rfl h52 (by decide +kernel) (by decide +kernel) (by decide) (pk_in 1 6 (by decide)) (fun _ h53 => ?_)
    refine st_ald rfl rfl ?_
    refine st_gRI (a := 1) rfl h53 (by decide +kernel) (by decide +kernel) ?_
    refine st_ild rfl rfl ?_
    refine st_aaldI (a := 108) (j := 1) rfl h53 (by decide +kernel) (by decide) (pk_in 1 6 (by decide)) (by decide +kernel) ?_
    refine st_k rfl ?_
    refine st_pII rfl h53 (by decide +kernel) (fun _ h54 => ?_)
    refine st_incI (y := 2) (L' := [some (.ref 0), some (.int 2)]) rfl rfl (by decide) rfl ?_
    refine st_go rfl ?_
    refine st_ild rfl rfl ?_
    refine st_k rfl ?_
    refine st_b2 rfl (fun zq => absurd zq (by decide)) (fun _ => ?_)
    refine st_ald rfl rfl ?_
    refine st_gRI (a := 1) rfl h54 (by decide +kernel) (by decide +kernel) ?_
    refine st_ild rfl rfl ?_
    refine st_newI (n := 110) rfl h54 (by decide +kernel) (fun _ h55 => ?_)
    refine st_dup rfl rfl ?_
    refine st_cavI (As := []) rfl h55 rfl rfl (by decide +kernel) (Nat.le_of_ble_eq_true rfl) (i_row _ (n := 111) h55 (by decide +kernel) (by decide +kernel)) (fun _ h56 => ?_)
    refine st_aastI (j := 2) rfl h56 (by decide +kernel) (by decide +kernel) (by decide) (pk_in 2 6 (by decide)) (fun _ h57 => ?_)
    refine st_ald rfl rfl ?_
    refine st_gRI (a := 1) rfl h57 (by decide +kernel) (by decide +kernel) ?_
    refine st_ild rfl rfl ?_
    refine st_aaldI (a := 110) (j := 2) rfl h57 (by decide +kernel) (by decide) (pk_in 2 6 (by decide)) (by decide +kernel) ?_
    refine st_k rfl ?_
    refine st_pII rfl h57 (by decide +kernel) (fun _ h58 => ?_)
    refine st_incI (y := 3) (L' := [some (.ref 0), some (.int 3)]) rfl rfl (by decide) rfl ?_
    refine st_go rfl ?_
    refine st_ild rfl rfl ?_
    refine st_k rfl ?_
    refine st_b2 rfl (fun zq => absurd zq (by decide)) (fun _ => ?_)
    refine st_ald rfl rfl ?_
    refine st_gRI (a := 1) rfl h58 (by decide +kernel) (by decide +kernel) ?_
    refine st_ild rfl rfl ?_
    refine st_newI (n := 112) rfl h58 (by decide +kernel) (fun _ h59 => ?_)
    refine st_dup rfl rfl ?_
    refine st_cavI (As := []) rfl h59 rfl rfl (by decide +kernel) (Nat.le_of_ble_eq_true rfl) (i_row _ (n := 113) h59 (by decide +kernel) (by decide +kernel)) (fun _ h60 => ?_)
    refine st_aastI (j := 3) rfl h60 (by decide +kernel) (by decide +kernel) (by decide) (pk_in 3 6 (by decide)) (fun _ h61 => ?_)
    refine st_ald rfl rfl ?_
    refine st_gRI (a := 1) rfl h61 (by decide +kernel) (by decide +kernel) ?_
    refine st_ild rfl rfl ?_
    refine st_aaldI (a := 112) (j := 3) rfl h61 (by decide +kernel) (by decide) (pk_in 3 6 (by decide)) (by decide +kernel) ?_
    refine st_k rfl ?_
    refine st_pII rfl h61 (by decide +kernel) (fun _ h62 => ?_)
    refine st_incI (y := 4) (L' := [some (.ref 0), some (.int 4)]) rfl rfl (by decide) rfl ?_
    refine st_go rfl ?_
    refine st_ild rfl rfl ?_
    refine st_k rfl ?_
    refine st_b2 rfl (fun zq => absurd zq (by decide)) (fun _ => ?_)
    refine st_ald rfl rfl ?_
    refine st_gRI (a := 1) rfl h62 (by decide +kernel) (by decide +kernel) ?_
    refine st_ild rfl rfl ?_
    refine st_newI (n := 114) rfl h62 (by decide +kernel) (fun _ h63 => ?_)
    refine st_dup rfl rfl ?_
    refine st_cavI (As := []) rfl h63 rfl rfl (by decide +kernel) (Nat.le_of_ble_eq_true rfl) (i_row _ (n := 115) h63 (by decide +kernel) (by decide +kernel)) (fun _ h64 => ?_)
    refine st_aastI (j := 4) rfl h64 (by decide +kernel) (by decide +kernel) (by decide) (pk_in 4 6 (by decide)) (fun _ h65 => ?_)
    refine st_ald rfl rfl ?_
    refine st_gRI (a := 1) rfl h65 (by decide +kernel) (by decide +kernel) ?_
    refine st_ild rfl rfl ?_
    refine st_aaldI (a := 114) (j := 4) rfl h65 (by decide +kernel) (by decide) (pk_in 4 6 (by decide)) (by decide +kernel) ?_
    refine st_k rfl ?_
    refine st_pII rfl h65 (by decide +kernel) (fun _ h66 => ?_)
    refine st_incI (y := 5) (L' := [some (.ref 0), some (.int 5)]) rfl rfl (by decide) rfl ?_
    refine st_go rfl ?_
    refine st_ild rfl rfl ?_
    refine st_k rfl ?_
    refine st_b2 rfl (fun zq => absurd zq (by decide)) (fun _ => ?_)
    refine st_ald rfl rfl ?_
    refine st_gRI (a := 1) rfl h66 (by decide +kernel) (by decide +kernel) ?_
    refine st_ild rfl rfl ?_
    refine st_newI (n := 116) rfl h66 (by decide +kernel) (fun _ h67 => ?_)
    refine st_dup rfl rfl ?_
    refine st_cavI (As := []) rfl h67 rfl rfl (by decide +kernel) (Nat.le_of_ble_eq_true rfl) (i_row _ (n := 117) h67 (by decide +kernel) (by decide +kernel)) (fun _ h68 => ?_)
    refine st_aastI (j := 5) rfl h68 (by decide +kernel) (by decide +kernel) (by decide) (pk_in 5 6 (by decide)) (fun _ h69 => ?_)
    refine st_ald rfl rfl ?_
    refine st_gRI (a := 1) rfl h69 (by decide +kernel) (by decide +kernel) ?_
    refine st_ild rfl rfl ?_
    refine st_aaldI (a := 116) (j := 5) rfl h69 (by decide +kernel) (by decide) (pk_in 5 6 (by decide)) (by decide +kernel) ?_
    refine st_k rfl ?_
    refine st_pII rfl h69 (by decide +kernel) (fun _ h70 => ?_)
    refine st_incI (y := 6) (L' := [some (.ref 0), some (.int 6)]) rfl rfl (by decide) rfl ?_
    refine st_go rfl ?_
    refine st_ild rfl rfl ?_
    refine st_k rfl ?_
    refine st_b2 rfl (fun _ => ?_) (fun zq => absurd (by decide) zq)
    refine st_k rfl ?_
    refine st_istI (L' := [some (.ref 0), some (.int 0)]) rfl rfl ?_
    refine st_ild rfl rfl ?_
    refine st_k rfl ?_
    refine st_b2 rfl (fun zq => absurd zq (by decide)) (fun _ => ?_)
    refine st_ald rfl rfl ?_
    refine st_gRI (a := 2) rfl h70 (by decide +kernel) (by decide +kernel) ?_
    refine st_ild rfl rfl ?_
    refine st_newI (n := 118) rfl h70 (by decide +kernel) (fun _ h71 => ?_)
    refine st_dup rfl rfl ?_
    refine st_cavI (As := []) rfl h71 rfl rfl (by decide +kernel) (Nat.le_of_ble_eq_true rfl) (i_text _ (n := 119) h71 (by decide +kernel) (by decide +kernel)) (fun _ h72 => ?_)
    refine st_aastI (j := 0) rfl h72 (by decide +kernel) (by decide +kernel) (by decide) (pk_in 0 4 (by decide)) (fun _ h73 => ?_)
    refine st_incI (y := 1) (L' := [some (.ref 0), some (.int 1)]) rfl rfl (by decide) rfl ?_
    refine st_go rfl ?_
    refine st_ild rfl rfl ?_
    refine st_k rfl ?_
    refine st_b2 rfl (fun zq => absurd zq (by decide)) (fun _ => ?_)
    refine st_ald rfl rfl ?_
    refine st_gRI (a := 2) rfl h73 (by decide +kernel) (by decide +kernel) ?_
    refine st_ild rfl rfl ?_
    refine st_newI (n := 120) rfl h73 (by decide +kernel) (fun _ h74 => ?_)
    refine st_dup rfl rfl ?_
    refine st_cavI (As := []) rfl h74 rfl rfl (by decide +kernel) (Nat.le_of_ble_eq_true rfl) (i_text _ (n := 121) h74 (by decide +kernel) (by decide +kernel)) (fun _ h75 => ?_)
    refine st_aastI (j := 1) rfl h75 (by decide +kernel) (by decide +kernel) (by decide) (pk_in 1 4 (by decide)) (fun _ h76 => ?_)
    refine st_incI (y := 2) (L' := [some (.ref 0), some (.int 2)]) rfl rfl (by decide) rfl ?_
    refine st_go rfl ?_
    refine st_ild rfl rfl ?_
    refine st_k rfl ?_
    refine st_b2 rfl (fun zq => absurd zq (by decide)) (fun _ => ?_)
    refine st_ald rfl rfl ?_
    refine st_gRI (a := 2) rfl h76 (by decide +kernel) (by decide +kernel) ?_
    refine st_ild rfl rfl ?_
    refine st_newI (n := 122) rfl h76 (by decide +kernel) (fun _ h77 => ?_)
    refine st_dup rfl rfl ?_
    refine st_cavI (As := []) rfl h77 rfl rfl (by decide +kernel) (Nat.le_of_ble_eq_true rfl) (i_text _ (n := 123) h77 (by decide +kernel) (by decide +kernel)) (fun _ h78 => ?_)
    refine st_aastI (j := 2) rfl h78 (by decide +kernel) (by decide +kernel) (by decide) (pk_in 2 4 (by decide)) (fun _ h79 => ?_)
    refine st_incI (y := 3) (L' := [some (.ref 0), some (.int 3)]) rfl rfl (by decide) rfl ?_
    refine st_go rfl ?_
    refine st_ild rfl rfl ?_
    refine st_k rfl ?_
    refine st_b2 rfl (fun zq => absurd zq (by decide)) (fun _ => ?_)
    refine st_ald rfl rfl ?_
    refine st_gRI (a := 2) rfl h79 (by decide +kernel) (by decide +kernel) ?_
    refine st_ild rfl rfl ?_
    refine st_newI (n := 124) rfl h79 (by decide +kernel) (fun _ h80 => ?_)
    refine st_dup rfl rfl ?_
    refine st_cavI (As := []) rfl h80 rfl rfl (by decide +kernel) (Nat.le_of_ble_eq_true rfl) (i_text _ (n := 125) h80 (by decide +kernel) (by decide +kernel)) (fun _ h81 => ?_)
    refine st_aastI (j := 3) rfl h81 (by decide +kernel) (by decide +kernel) (by decide) (pk_in 3 4 (by decide)) (fun _ h82 => ?_)
    refine st_incI (y := 4) (L' := [some (.ref 0), some (.int 4)]) rfl rfl (by decide) rfl ?_
    refine st_go rfl ?_
    refine st_ild rfl rfl ?_
    refine st_k rfl ?_
    refine st_b2 rfl (fun _ => ?_) (fun zq => absurd (by decide) zq)
    refine st_k rfl ?_
    refine st_istI (L' := [some (.ref 0), some (.int 0)]) rfl rfl ?_
    refine st_ild rfl rfl ?_
    refine st_k rfl ?_
    refine st_b2 rfl (fun zq => absurd zq (by decide)) (fun _ => ?_)
    refine st_ald rfl rfl ?_
    refine st_gRI (a := 5) rfl h82 (by decide +kernel) (by decide +kernel) ?_
    refine st_ild rfl rfl ?_
    refine st_newI (n := 126) rfl h82 (by decide +kernel) (fun _ h83 => ?_)
    refine st_dup rfl rfl ?_
    refine st_cavI (As := []) rfl h83 rfl rfl (by decide +kernel) (Nat.le_of_ble_eq_true rfl) (i_row _ (n := 127) h83 (by decide +kernel) (by decide +kernel)) (fun _ h84 => ?_)
    refine st_aastI (j := 0) rfl h84 (by decide +kernel) (by decide +kernel) (by decide) (pk_in 0 3 (by decide)) (fun _ h85 => ?_)
    refine st_ald rfl rfl ?_
    refine st_gRI (a := 5) rfl h85 (by decide +kernel) (by decide +kernel) ?_
    refine st_ild rfl rfl ?_
    refine st_aaldI (a := 126) (j := 0) rfl h85 (by decide +kernel) (by decide) (pk_in 0 3 (by decide)) (by decide +kernel) ?_
    refine st_k rfl ?_
    refine st_pII rfl h85 (by decide +kernel) (fun _ h86 => ?_)
    refine st_incI (y := 1) (L' := [some (.ref 0), some (.int 1)]) rfl rfl (by decide) rfl ?_
    refine st_go rfl ?_
    refine st_ild rfl rfl ?_
    refine st_k rfl ?_
    refine st_b2 rfl (fun zq => absurd zq (by decide)) (fun _ => ?_)
    refine st_ald rfl rfl ?_
    refine st_gRI (a := 5) rfl h86 (by decide +kernel) (by decide +kernel) ?_
    refine st_ild rfl rfl ?_
    refine st_newI (n := 128) rfl h86 (by decide +kernel) (fun _ h87 => ?_)
    refine st_dup rfl rfl ?_
    refine st_cavI (As := []) rfl h87 rfl rfl (by decide +kernel) (Nat.le_of_ble_eq_true rfl) (i_row _ (n := 129) h87 (by decide +kernel) (by decide +kernel)) (fun _ h88 => ?_)
    refine st_aastI (j := 1) rfl h88 (by decide +kernel) (by decide +kernel) (by decide) (pk_in 1 3 (by decide)) (fun _ h89 => ?_)
    refine st_ald rfl rfl ?_
    refine st_gRI (a := 5) rfl h89 (by decide +kernel) (by decide +kernel) ?_
    refine st_ild rfl rfl ?_
    refine st_aaldI (a := 128) (j := 1) rfl h89 (by decide +kernel) (by decide) (pk_in 1 3 (by decide)) (by decide +kernel) ?_
    refine st_k rfl ?_
    refine st_pII rfl h89 (by decide +kernel) (fun _ h90 => ?_)
    refine st_incI (y := 2) (L' := [some (.ref 0), some (.int 2)]) rfl rfl (by decide) rfl ?_
    refine st_go rfl ?_
    refine st_ild rfl rfl ?_
    refine st_k rfl ?_
    refine st_b2 rfl (fun zq => absurd zq (by decide)) (fun _ => ?_)
    refine st_ald rfl rfl ?_
    refine st_gRI (a := 5) rfl h90 (by decide +kernel) (by decide +kernel) ?_
    refine st_ild rfl rfl ?_
    refine st_newI (n := 130) rfl h90 (by decide +kernel) (fun _ h91 => ?_)
    refine st_dup rfl rfl ?_
    refine st_cavI (As := []) rfl h91 rfl rfl (by decide +kernel) (Nat.le_of_ble_eq_true rfl) (i_row _ (n := 131) h91 (by decide +kernel) (by decide +kernel)) (fun _ h92 => ?_)
    refine st_aastI (j := 2) rfl h92 (by decide +kernel) (by decide +kernel) (by decide) (pk_in 2 3 (by decide)) (fun _ h93 => ?_)
    refine st_ald rfl rfl ?_
    refine st_gRI (a := 5) rfl h93 (by decide +kernel) (by decide +kernel) ?_
    refine st_ild rfl rfl ?_
    refine st_aaldI (a := 130) (j := 2) rfl h93 (by decide +kernel) (by decide) (pk_in 2 3 (by decide)) (by decide +kernel) ?_
    refine st_k rfl ?_
    refine st_pII rfl h93 (by decide +kernel) (fun _ h94 => ?_)
    refine st_incI (y := 3) (L' := [some (.ref 0), some (.int 3)]) rfl rfl (by decide) rfl ?_
    refine st_go rfl ?_
    refine st_ild rfl rfl ?_
    refine st_k rfl ?_
    refine st_b2 rfl (fun _ => ?_) (fun zq => absurd (by decide) zq)
    exact st_vret rfl ⟨rfl, h94.to (by decide +kernel) (by decide +kernel) (by decide +kernel)⟩)
  subst hr
  exact ⟨M', hc, h1⟩
