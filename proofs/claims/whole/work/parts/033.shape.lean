/-! the layout: what stands where (relative addresses) -/
def layL : List (Nat × Nat) := [(11, 0), (0, 0), (1, 0), (14, 8), (14, 8), (14, 8), (14, 8), (7, 0), (14, 20), (14, 20), (14, 20), (14, 20), (14, 20), (14, 20), (16, 20), (16, 20), (16, 20), (5, 0), (14, 60), (14, 60), (14, 60), (14, 60), (14, 25), (14, 25), (4, 0), (14, 30), (14, 30), (14, 30), (14, 30), (14, 30), (14, 30), (14, 30), (14, 30), (14, 330), (18, 30), (18, 30), (18, 7), (13, 500), (10, 0), (14, 0), (14, 0), (14, 1), (14, 0), (14, 0), (14, 0), (16, 0), (17, 3), (8, 0), (10, 0), (14, 16), (14, 16), (14, 17), (14, 64), (14, 64), (14, 64), (16, 64), (3, 0), (14, 5), (14, 200), (14, 20), (14, 20), (14, 20), (14, 20), (2, 0), (14, 11), (6, 0), (14, 8), (14, 8), (16, 64), (14, 64), (16, 64), (14, 64), (14, 64), (14, 64), (16, 64), (14, 2304), (14, 8), (9, 0), (14, 64), (14, 64), (14, 64), (14, 4), (14, 4), (12, 0), (13, 2000), (14, 4), (14, 4), (14, 4), (14, 4), (14, 100), (14, 4), (14, 32), (14, 32), (14, 32), (14, 32), (14, 4), (14, 80), (14, 80), (14, 80), (14, 80), (16, 80), (14, 80), (16, 80), (16, 80), (14, 4), (14, 960), (14, 4), (14, 120), (14, 120), (14, 120), (14, 120), (14, 120), (14, 120), (14, 120), (14, 120), (14, 1320), (14, 268), (14, 4288), (14, 4288), (14, 4288), (14, 17152), (14, 17152), (14, 17152), (14, 5), (14, 40), (14, 20), (14, 20), (14, 17), (14, 17), (14, 17), (14, 64), (14, 64), (14, 64), (14, 11), (14, 2), (14, 8), (14, 8), (14, 64), (15, 2304), (14, 8), (14, 8), (14, 64), (14, 64), (14, 64), (14, 4), (14, 4), (16, 3)]
def layR : List (Nat × Nat × Nat) := [(0, 0, 1), (0, 1, 46), (0, 2, 47), (0, 3, 56), (0, 4, 63), (0, 5, 65), (0, 6, 77), (1, 1, 2), (1, 2, 7), (1, 3, 17), (1, 4, 24), (1, 5, 36), (1, 6, 37), (2, 1, 3), (2, 2, 4), (2, 3, 5), (2, 4, 6), (7, 1, 8), (7, 2, 9), (7, 3, 10), (7, 4, 11), (7, 5, 12), (7, 6, 13), (7, 7, 14), (7, 8, 15), (7, 9, 16), (17, 1, 18), (17, 2, 19), (17, 3, 20), (17, 4, 21), (17, 5, 22), (17, 6, 23), (24, 1, 25), (24, 2, 26), (24, 3, 27), (24, 4, 28), (24, 5, 29), (24, 6, 30), (24, 7, 31), (24, 8, 32), (24, 9, 33), (24, 10, 34), (24, 11, 35), (38, 1, 39), (38, 2, 40), (38, 3, 41), (38, 4, 42), (38, 5, 43), (38, 6, 44), (38, 7, 45), (47, 0, 1), (47, 11, 48), (48, 1, 49), (48, 2, 50), (48, 3, 51), (48, 4, 52), (48, 5, 53), (48, 6, 54), (48, 7, 55), (56, 0, 1), (56, 1, 57), (56, 2, 58), (56, 3, 59), (56, 4, 60), (56, 5, 61), (56, 6, 62), (63, 0, 1), (63, 1, 56), (63, 4, 64), (65, 0, 1), (65, 1, 63), (65, 2, 66), (65, 3, 67), (65, 6, 68), (65, 7, 69), (65, 8, 70), (65, 9, 71), (65, 10, 72), (65, 11, 73), (65, 12, 74), (65, 13, 75), (65, 14, 76), (77, 0, 1), (77, 1, 65), (77, 2, 78), (77, 3, 79), (77, 4, 80), (77, 5, 81), (77, 6, 82), (83, 1, 84), (83, 2, 85), (83, 3, 86), (83, 4, 87), (83, 5, 88), (83, 6, 89), (83, 7, 90), (83, 8, 91), (83, 9, 92), (83, 10, 93), (83, 11, 94), (83, 12, 95), (83, 13, 96), (83, 14, 97), (83, 15, 98), (83, 16, 99), (83, 17, 100), (83, 18, 101), (83, 19, 102), (83, 20, 103), (83, 21, 104), (83, 22, 105), (83, 23, 106), (83, 24, 107), (83, 25, 108), (83, 26, 109), (83, 27, 110), (83, 28, 111), (83, 29, 112), (83, 30, 113), (83, 31, 114), (83, 32, 115), (83, 33, 116), (83, 34, 117), (83, 35, 118), (83, 36, 119), (83, 37, 120), (83, 38, 121), (83, 39, 122), (83, 40, 123), (83, 41, 124), (83, 42, 125), (83, 43, 126), (83, 55, 127), (83, 56, 128), (83, 57, 129), (83, 58, 130), (83, 59, 131), (83, 60, 132), (83, 61, 133), (83, 68, 134), (83, 69, 135), (83, 70, 136), (83, 71, 137), (83, 72, 138), (83, 73, 139), (83, 74, 140), (83, 75, 141), (83, 76, 142), (83, 77, 143), (83, 80, 144), (83, 81, 145), (83, 82, 146)]
def SL (h : mS) : Prop := 147 ≤ h.2.2 ∧ (∀ a, a < 147 → h.1 a = layL.getD a (0, 0)) ∧ ∀ q ∈ layR, h.2.1 q.1 q.2.1 = some q.2.2
theorem kk0 {h : mS} (hs : SL h) : h.1 0 = (11, 0) := hs.2.1 0 (by decide)
theorem lt0 {h : mS} (hs : SL h) : 0 < h.2.2 := Nat.lt_of_lt_of_le (by decide) hs.1
theorem kk1 {h : mS} (hs : SL h) : h.1 1 = (0, 0) := hs.2.1 1 (by decide)
theorem lt1 {h : mS} (hs : SL h) : 1 < h.2.2 := Nat.lt_of_lt_of_le (by decide) hs.1
theorem kk2 {h : mS} (hs : SL h) : h.1 2 = (1, 0) := hs.2.1 2 (by decide)
theorem lt2 {h : mS} (hs : SL h) : 2 < h.2.2 := Nat.lt_of_lt_of_le (by decide) hs.1
theorem kk3 {h : mS} (hs : SL h) : h.1 3 = (14, 8) := hs.2.1 3 (by decide)
theorem lt3 {h : mS} (hs : SL h) : 3 < h.2.2 := Nat.lt_of_lt_of_le (by decide) hs.1
theorem kk4 {h : mS} (hs : SL h) : h.1 4 = (14, 8) := hs.2.1 4 (by decide)
theorem lt4 {h : mS} (hs : SL h) : 4 < h.2.2 := Nat.lt_of_lt_of_le (by decide) hs.1
theorem kk5 {h : mS} (hs : SL h) : h.1 5 = (14, 8) := hs.2.1 5 (by decide)
theorem lt5 {h : mS} (hs : SL h) : 5 < h.2.2 := Nat.lt_of_lt_of_le (by decide) hs.1
theorem kk6 {h : mS} (hs : SL h) : h.1 6 = (14, 8) := hs.2.1 6 (by decide)
theorem lt6 {h : mS} (hs : SL h) : 6 < h.2.2 := Nat.lt_of_lt_of_le (by decide) hs.1
theorem kk7 {h : mS} (hs : SL h) : h.1 7 = (7, 0) := hs.2.1 7 (by decide)
theorem lt7 {h : mS} (hs : SL h) : 7 < h.2.2 := Nat.lt_of_lt_of_le (by decide) hs.1
theorem kk8 {h : mS} (hs : SL h) : h.1 8 = (14, 20) := hs.2.1 8 (by decide)
theorem lt8 {h : mS} (hs : SL h) : 8 < h.2.2 := Nat.lt_of_lt_of_le (by decide) hs.1
theorem kk9 {h : mS} (hs : SL h) : h.1 9 = (14, 20) := hs.2.1 9 (by decide)
theorem lt9 {h : mS} (hs : SL h) : 9 < h.2.2 := Nat.lt_of_lt_of_le (by decide) hs.1
theorem kk10 {h : mS} (hs : SL h) : h.1 10 = (14, 20) := hs.2.1 10 (by decide)
theorem lt10 {h : mS} (hs : SL h) : 10 < h.2.2 := Nat.lt_of_lt_of_le (by decide) hs.1
theorem kk11 {h : mS} (hs : SL h) : h.1 11 = (14, 20) := hs.2.1 11 (by decide)
theorem lt11 {h : mS} (hs : SL h) : 11 < h.2.2 := Nat.lt_of_lt_of_le (by decide) hs.1
theorem kk12 {h : mS} (hs : SL h) : h.1 12 = (14, 20) := hs.2.1 12 (by decide)
theorem lt12 {h : mS} (hs : SL h) : 12 < h.2.2 := Nat.lt_of_lt_of_le (by decide) hs.1
theorem kk13 {h : mS} (hs : SL h) : h.1 13 = (14, 20) := hs.2.1 13 (by decide)
theorem lt13 {h : mS} (hs : SL h) : 13 < h.2.2 := Nat.lt_of_lt_of_le (by decide) hs.1
theorem kk14 {h : mS} (hs : SL h) : h.1 14 = (16, 20) := hs.2.1 14 (by decide)
theorem lt14 {h : mS} (hs : SL h) : 14 < h.2.2 := Nat.lt_of_lt_of_le (by decide) hs.1
theorem kk15 {h : mS} (hs : SL h) : h.1 15 = (16, 20) := hs.2.1 15 (by decide)
theorem lt15 {h : mS} (hs : SL h) : 15 < h.2.2 := Nat.lt_of_lt_of_le (by decide) hs.1
theorem kk16 {h : mS} (hs : SL h) : h.1 16 = (16, 20) := hs.2.1 16 (by decide)
theorem lt16 {h : mS} (hs : SL h) : 16 < h.2.2 := Nat.lt_of_lt_of_le (by decide) hs.1
theorem kk17 {h : mS} (hs : SL h) : h.1 17 = (5, 0) := hs.2.1 17 (by decide)
theorem lt17 {h : mS} (hs : SL h) : 17 < h.2.2 := Nat.lt_of_lt_of_le (by decide) hs.1
theorem kk18 {h : mS} (hs : SL h) : h.1 18 = (14, 60) := hs.2.1 18 (by decide)
theorem lt18 {h : mS} (hs : SL h) : 18 < h.2.2 := Nat.lt_of_lt_of_le (by decide) hs.1
theorem kk19 {h : mS} (hs : SL h) : h.1 19 = (14, 60) := hs.2.1 19 (by decide)
theorem lt19 {h : mS} (hs : SL h) : 19 < h.2.2 := Nat.lt_of_lt_of_le (by decide) hs.1
theorem kk20 {h : mS} (hs : SL h) : h.1 20 = (14, 60) := hs.2.1 20 (by decide)
theorem lt20 {h : mS} (hs : SL h) : 20 < h.2.2 := Nat.lt_of_lt_of_le (by decide) hs.1
theorem kk21 {h : mS} (hs : SL h) : h.1 21 = (14, 60) := hs.2.1 21 (by decide)
theorem lt21 {h : mS} (hs : SL h) : 21 < h.2.2 := Nat.lt_of_lt_of_le (by decide) hs.1
theorem kk22 {h : mS} (hs : SL h) : h.1 22 = (14, 25) := hs.2.1 22 (by decide)
theorem lt22 {h : mS} (hs : SL h) : 22 < h.2.2 := Nat.lt_of_lt_of_le (by decide) hs.1
theorem kk23 {h : mS} (hs : SL h) : h.1 23 = (14, 25) := hs.2.1 23 (by decide)
theorem lt23 {h : mS} (hs : SL h) : 23 < h.2.2 := Nat.lt_of_lt_of_le (by decide) hs.1
theorem kk24 {h : mS} (hs : SL h) : h.1 24 = (4, 0) := hs.2.1 24 (by decide)
theorem lt24 {h : mS} (hs : SL h) : 24 < h.2.2 := Nat.lt_of_lt_of_le (by decide) hs.1
theorem kk25 {h : mS} (hs : SL h) : h.1 25 = (14, 30) := hs.2.1 25 (by decide)
theorem lt25 {h : mS} (hs : SL h) : 25 < h.2.2 := Nat.lt_of_lt_of_le (by decide) hs.1
theorem kk26 {h : mS} (hs : SL h) : h.1 26 = (14, 30) := hs.2.1 26 (by decide)
theorem lt26 {h : mS} (hs : SL h) : 26 < h.2.2 := Nat.lt_of_lt_of_le (by decide) hs.1
theorem kk27 {h : mS} (hs : SL h) : h.1 27 = (14, 30) := hs.2.1 27 (by decide)
theorem lt27 {h : mS} (hs : SL h) : 27 < h.2.2 := Nat.lt_of_lt_of_le (by decide) hs.1
theorem kk28 {h : mS} (hs : SL h) : h.1 28 = (14, 30) := hs.2.1 28 (by decide)
theorem lt28 {h : mS} (hs : SL h) : 28 < h.2.2 := Nat.lt_of_lt_of_le (by decide) hs.1
theorem kk29 {h : mS} (hs : SL h) : h.1 29 = (14, 30) := hs.2.1 29 (by decide)
theorem lt29 {h : mS} (hs : SL h) : 29 < h.2.2 := Nat.lt_of_lt_of_le (by decide) hs.1
theorem kk30 {h : mS} (hs : SL h) : h.1 30 = (14, 30) := hs.2.1 30 (by decide)
theorem lt30 {h : mS} (hs : SL h) : 30 < h.2.2 := Nat.lt_of_lt_of_le (by decide) hs.1
theorem kk31 {h : mS} (hs : SL h) : h.1 31 = (14, 30) := hs.2.1 31 (by decide)
theorem lt31 {h : mS} (hs : SL h) : 31 < h.2.2 := Nat.lt_of_lt_of_le (by decide) hs.1
theorem kk32 {h : mS} (hs : SL h) : h.1 32 = (14, 30) := hs.2.1 32 (by decide)
theorem lt32 {h : mS} (hs : SL h) : 32 < h.2.2 := Nat.lt_of_lt_of_le (by decide) hs.1
theorem kk33 {h : mS} (hs : SL h) : h.1 33 = (14, 330) := hs.2.1 33 (by decide)
theorem lt33 {h : mS} (hs : SL h) : 33 < h.2.2 := Nat.lt_of_lt_of_le (by decide) hs.1
theorem kk34 {h : mS} (hs : SL h) : h.1 34 = (18, 30) := hs.2.1 34 (by decide)
theorem lt34 {h : mS} (hs : SL h) : 34 < h.2.2 := Nat.lt_of_lt_of_le (by decide) hs.1
theorem kk35 {h : mS} (hs : SL h) : h.1 35 = (18, 30) := hs.2.1 35 (by decide)
theorem lt35 {h : mS} (hs : SL h) : 35 < h.2.2 := Nat.lt_of_lt_of_le (by decide) hs.1
theorem kk36 {h : mS} (hs : SL h) : h.1 36 = (18, 7) := hs.2.1 36 (by decide)
theorem lt36 {h : mS} (hs : SL h) : 36 < h.2.2 := Nat.lt_of_lt_of_le (by decide) hs.1
theorem kk37 {h : mS} (hs : SL h) : h.1 37 = (13, 500) := hs.2.1 37 (by decide)
theorem lt37 {h : mS} (hs : SL h) : 37 < h.2.2 := Nat.lt_of_lt_of_le (by decide) hs.1
theorem kk38 {h : mS} (hs : SL h) : h.1 38 = (10, 0) := hs.2.1 38 (by decide)
theorem lt38 {h : mS} (hs : SL h) : 38 < h.2.2 := Nat.lt_of_lt_of_le (by decide) hs.1
theorem kk39 {h : mS} (hs : SL h) : h.1 39 = (14, 0) := hs.2.1 39 (by decide)
theorem lt39 {h : mS} (hs : SL h) : 39 < h.2.2 := Nat.lt_of_lt_of_le (by decide) hs.1
theorem kk40 {h : mS} (hs : SL h) : h.1 40 = (14, 0) := hs.2.1 40 (by decide)
theorem lt40 {h : mS} (hs : SL h) : 40 < h.2.2 := Nat.lt_of_lt_of_le (by decide) hs.1
theorem kk41 {h : mS} (hs : SL h) : h.1 41 = (14, 1) := hs.2.1 41 (by decide)
theorem lt41 {h : mS} (hs : SL h) : 41 < h.2.2 := Nat.lt_of_lt_of_le (by decide) hs.1
theorem kk42 {h : mS} (hs : SL h) : h.1 42 = (14, 0) := hs.2.1 42 (by decide)
theorem lt42 {h : mS} (hs : SL h) : 42 < h.2.2 := Nat.lt_of_lt_of_le (by decide) hs.1
theorem kk43 {h : mS} (hs : SL h) : h.1 43 = (14, 0) := hs.2.1 43 (by decide)
theorem lt43 {h : mS} (hs : SL h) : 43 < h.2.2 := Nat.lt_of_lt_of_le (by decide) hs.1
theorem kk44 {h : mS} (hs : SL h) : h.1 44 = (14, 0) := hs.2.1 44 (by decide)
theorem lt44 {h : mS} (hs : SL h) : 44 < h.2.2 := Nat.lt_of_lt_of_le (by decide) hs.1
theorem kk45 {h : mS} (hs : SL h) : h.1 45 = (16, 0) := hs.2.1 45 (by decide)
theorem lt45 {h : mS} (hs : SL h) : 45 < h.2.2 := Nat.lt_of_lt_of_le (by decide) hs.1
theorem kk46 {h : mS} (hs : SL h) : h.1 46 = (17, 3) := hs.2.1 46 (by decide)
theorem lt46 {h : mS} (hs : SL h) : 46 < h.2.2 := Nat.lt_of_lt_of_le (by decide) hs.1
theorem kk47 {h : mS} (hs : SL h) : h.1 47 = (8, 0) := hs.2.1 47 (by decide)
theorem lt47 {h : mS} (hs : SL h) : 47 < h.2.2 := Nat.lt_of_lt_of_le (by decide) hs.1
theorem kk48 {h : mS} (hs : SL h) : h.1 48 = (10, 0) := hs.2.1 48 (by decide)
theorem lt48 {h : mS} (hs : SL h) : 48 < h.2.2 := Nat.lt_of_lt_of_le (by decide) hs.1
theorem kk49 {h : mS} (hs : SL h) : h.1 49 = (14, 16) := hs.2.1 49 (by decide)
theorem lt49 {h : mS} (hs : SL h) : 49 < h.2.2 := Nat.lt_of_lt_of_le (by decide) hs.1
theorem kk50 {h : mS} (hs : SL h) : h.1 50 = (14, 16) := hs.2.1 50 (by decide)
theorem lt50 {h : mS} (hs : SL h) : 50 < h.2.2 := Nat.lt_of_lt_of_le (by decide) hs.1
theorem kk51 {h : mS} (hs : SL h) : h.1 51 = (14, 17) := hs.2.1 51 (by decide)
theorem lt51 {h : mS} (hs : SL h) : 51 < h.2.2 := Nat.lt_of_lt_of_le (by decide) hs.1
theorem kk52 {h : mS} (hs : SL h) : h.1 52 = (14, 64) := hs.2.1 52 (by decide)
theorem lt52 {h : mS} (hs : SL h) : 52 < h.2.2 := Nat.lt_of_lt_of_le (by decide) hs.1
theorem kk53 {h : mS} (hs : SL h) : h.1 53 = (14, 64) := hs.2.1 53 (by decide)
theorem lt53 {h : mS} (hs : SL h) : 53 < h.2.2 := Nat.lt_of_lt_of_le (by decide) hs.1
theorem kk54 {h : mS} (hs : SL h) : h.1 54 = (14, 64) := hs.2.1 54 (by decide)
theorem lt54 {h : mS} (hs : SL h) : 54 < h.2.2 := Nat.lt_of_lt_of_le (by decide) hs.1
theorem kk55 {h : mS} (hs : SL h) : h.1 55 = (16, 64) := hs.2.1 55 (by decide)
theorem lt55 {h : mS} (hs : SL h) : 55 < h.2.2 := Nat.lt_of_lt_of_le (by decide) hs.1
theorem kk56 {h : mS} (hs : SL h) : h.1 56 = (3, 0) := hs.2.1 56 (by decide)
theorem lt56 {h : mS} (hs : SL h) : 56 < h.2.2 := Nat.lt_of_lt_of_le (by decide) hs.1
theorem kk57 {h : mS} (hs : SL h) : h.1 57 = (14, 5) := hs.2.1 57 (by decide)
theorem lt57 {h : mS} (hs : SL h) : 57 < h.2.2 := Nat.lt_of_lt_of_le (by decide) hs.1
theorem kk58 {h : mS} (hs : SL h) : h.1 58 = (14, 200) := hs.2.1 58 (by decide)
theorem lt58 {h : mS} (hs : SL h) : 58 < h.2.2 := Nat.lt_of_lt_of_le (by decide) hs.1
theorem kk59 {h : mS} (hs : SL h) : h.1 59 = (14, 20) := hs.2.1 59 (by decide)
theorem lt59 {h : mS} (hs : SL h) : 59 < h.2.2 := Nat.lt_of_lt_of_le (by decide) hs.1
theorem kk60 {h : mS} (hs : SL h) : h.1 60 = (14, 20) := hs.2.1 60 (by decide)
theorem lt60 {h : mS} (hs : SL h) : 60 < h.2.2 := Nat.lt_of_lt_of_le (by decide) hs.1
theorem kk61 {h : mS} (hs : SL h) : h.1 61 = (14, 20) := hs.2.1 61 (by decide)
theorem lt61 {h : mS} (hs : SL h) : 61 < h.2.2 := Nat.lt_of_lt_of_le (by decide) hs.1
theorem kk62 {h : mS} (hs : SL h) : h.1 62 = (14, 20) := hs.2.1 62 (by decide)
theorem lt62 {h : mS} (hs : SL h) : 62 < h.2.2 := Nat.lt_of_lt_of_le (by decide) hs.1
theorem kk63 {h : mS} (hs : SL h) : h.1 63 = (2, 0) := hs.2.1 63 (by decide)
theorem lt63 {h : mS} (hs : SL h) : 63 < h.2.2 := Nat.lt_of_lt_of_le (by decide) hs.1
theorem kk64 {h : mS} (hs : SL h) : h.1 64 = (14, 11) := hs.2.1 64 (by decide)
theorem lt64 {h : mS} (hs : SL h) : 64 < h.2.2 := Nat.lt_of_lt_of_le (by decide) hs.1
theorem kk65 {h : mS} (hs : SL h) : h.1 65 = (6, 0) := hs.2.1 65 (by decide)
theorem lt65 {h : mS} (hs : SL h) : 65 < h.2.2 := Nat.lt_of_lt_of_le (by decide) hs.1
theorem kk66 {h : mS} (hs : SL h) : h.1 66 = (14, 8) := hs.2.1 66 (by decide)
theorem lt66 {h : mS} (hs : SL h) : 66 < h.2.2 := Nat.lt_of_lt_of_le (by decide) hs.1
theorem kk67 {h : mS} (hs : SL h) : h.1 67 = (14, 8) := hs.2.1 67 (by decide)
theorem lt67 {h : mS} (hs : SL h) : 67 < h.2.2 := Nat.lt_of_lt_of_le (by decide) hs.1
theorem kk68 {h : mS} (hs : SL h) : h.1 68 = (16, 64) := hs.2.1 68 (by decide)
theorem lt68 {h : mS} (hs : SL h) : 68 < h.2.2 := Nat.lt_of_lt_of_le (by decide) hs.1
theorem kk69 {h : mS} (hs : SL h) : h.1 69 = (14, 64) := hs.2.1 69 (by decide)
theorem lt69 {h : mS} (hs : SL h) : 69 < h.2.2 := Nat.lt_of_lt_of_le (by decide) hs.1
theorem kk70 {h : mS} (hs : SL h) : h.1 70 = (16, 64) := hs.2.1 70 (by decide)
theorem lt70 {h : mS} (hs : SL h) : 70 < h.2.2 := Nat.lt_of_lt_of_le (by decide) hs.1
theorem kk71 {h : mS} (hs : SL h) : h.1 71 = (14, 64) := hs.2.1 71 (by decide)
theorem lt71 {h : mS} (hs : SL h) : 71 < h.2.2 := Nat.lt_of_lt_of_le (by decide) hs.1
theorem kk72 {h : mS} (hs : SL h) : h.1 72 = (14, 64) := hs.2.1 72 (by decide)
theorem lt72 {h : mS} (hs : SL h) : 72 < h.2.2 := Nat.lt_of_lt_of_le (by decide) hs.1
theorem kk73 {h : mS} (hs : SL h) : h.1 73 = (14, 64) := hs.2.1 73 (by decide)
theorem lt73 {h : mS} (hs : SL h) : 73 < h.2.2 := Nat.lt_of_lt_of_le (by decide) hs.1
theorem kk74 {h : mS} (hs : SL h) : h.1 74 = (16, 64) := hs.2.1 74 (by decide)
theorem lt74 {h : mS} (hs : SL h) : 74 < h.2.2 := Nat.lt_of_lt_of_le (by decide) hs.1
theorem kk75 {h : mS} (hs : SL h) : h.1 75 = (14, 2304) := hs.2.1 75 (by decide)
theorem lt75 {h : mS} (hs : SL h) : 75 < h.2.2 := Nat.lt_of_lt_of_le (by decide) hs.1
theorem kk76 {h : mS} (hs : SL h) : h.1 76 = (14, 8) := hs.2.1 76 (by decide)
theorem lt76 {h : mS} (hs : SL h) : 76 < h.2.2 := Nat.lt_of_lt_of_le (by decide) hs.1
theorem kk77 {h : mS} (hs : SL h) : h.1 77 = (9, 0) := hs.2.1 77 (by decide)
theorem lt77 {h : mS} (hs : SL h) : 77 < h.2.2 := Nat.lt_of_lt_of_le (by decide) hs.1
theorem kk78 {h : mS} (hs : SL h) : h.1 78 = (14, 64) := hs.2.1 78 (by decide)
theorem lt78 {h : mS} (hs : SL h) : 78 < h.2.2 := Nat.lt_of_lt_of_le (by decide) hs.1
theorem kk79 {h : mS} (hs : SL h) : h.1 79 = (14, 64) := hs.2.1 79 (by decide)
theorem lt79 {h : mS} (hs : SL h) : 79 < h.2.2 := Nat.lt_of_lt_of_le (by decide) hs.1
theorem kk80 {h : mS} (hs : SL h) : h.1 80 = (14, 64) := hs.2.1 80 (by decide)
theorem lt80 {h : mS} (hs : SL h) : 80 < h.2.2 := Nat.lt_of_lt_of_le (by decide) hs.1
theorem kk81 {h : mS} (hs : SL h) : h.1 81 = (14, 4) := hs.2.1 81 (by decide)
theorem lt81 {h : mS} (hs : SL h) : 81 < h.2.2 := Nat.lt_of_lt_of_le (by decide) hs.1
theorem kk82 {h : mS} (hs : SL h) : h.1 82 = (14, 4) := hs.2.1 82 (by decide)
theorem lt82 {h : mS} (hs : SL h) : 82 < h.2.2 := Nat.lt_of_lt_of_le (by decide) hs.1
theorem kk83 {h : mS} (hs : SL h) : h.1 83 = (12, 0) := hs.2.1 83 (by decide)
theorem lt83 {h : mS} (hs : SL h) : 83 < h.2.2 := Nat.lt_of_lt_of_le (by decide) hs.1
theorem kk84 {h : mS} (hs : SL h) : h.1 84 = (13, 2000) := hs.2.1 84 (by decide)
theorem lt84 {h : mS} (hs : SL h) : 84 < h.2.2 := Nat.lt_of_lt_of_le (by decide) hs.1
theorem kk85 {h : mS} (hs : SL h) : h.1 85 = (14, 4) := hs.2.1 85 (by decide)
theorem lt85 {h : mS} (hs : SL h) : 85 < h.2.2 := Nat.lt_of_lt_of_le (by decide) hs.1
theorem kk86 {h : mS} (hs : SL h) : h.1 86 = (14, 4) := hs.2.1 86 (by decide)
theorem lt86 {h : mS} (hs : SL h) : 86 < h.2.2 := Nat.lt_of_lt_of_le (by decide) hs.1
theorem kk87 {h : mS} (hs : SL h) : h.1 87 = (14, 4) := hs.2.1 87 (by decide)
theorem lt87 {h : mS} (hs : SL h) : 87 < h.2.2 := Nat.lt_of_lt_of_le (by decide) hs.1
theorem kk88 {h : mS} (hs : SL h) : h.1 88 = (14, 4) := hs.2.1 88 (by decide)
theorem lt88 {h : mS} (hs : SL h) : 88 < h.2.2 := Nat.lt_of_lt_of_le (by decide) hs.1
theorem kk89 {h : mS} (hs : SL h) : h.1 89 = (14, 100) := hs.2.1 89 (by decide)
theorem lt89 {h : mS} (hs : SL h) : 89 < h.2.2 := Nat.lt_of_lt_of_le (by decide) hs.1
theorem kk90 {h : mS} (hs : SL h) : h.1 90 = (14, 4) := hs.2.1 90 (by decide)
theorem lt90 {h : mS} (hs : SL h) : 90 < h.2.2 := Nat.lt_of_lt_of_le (by decide) hs.1
theorem kk91 {h : mS} (hs : SL h) : h.1 91 = (14, 32) := hs.2.1 91 (by decide)
theorem lt91 {h : mS} (hs : SL h) : 91 < h.2.2 := Nat.lt_of_lt_of_le (by decide) hs.1
theorem kk92 {h : mS} (hs : SL h) : h.1 92 = (14, 32) := hs.2.1 92 (by decide)
theorem lt92 {h : mS} (hs : SL h) : 92 < h.2.2 := Nat.lt_of_lt_of_le (by decide) hs.1
theorem kk93 {h : mS} (hs : SL h) : h.1 93 = (14, 32) := hs.2.1 93 (by decide)
theorem lt93 {h : mS} (hs : SL h) : 93 < h.2.2 := Nat.lt_of_lt_of_le (by decide) hs.1
theorem kk94 {h : mS} (hs : SL h) : h.1 94 = (14, 32) := hs.2.1 94 (by decide)
theorem lt94 {h : mS} (hs : SL h) : 94 < h.2.2 := Nat.lt_of_lt_of_le (by decide) hs.1
theorem kk95 {h : mS} (hs : SL h) : h.1 95 = (14, 4) := hs.2.1 95 (by decide)
theorem lt95 {h : mS} (hs : SL h) : 95 < h.2.2 := Nat.lt_of_lt_of_le (by decide) hs.1
theorem kk96 {h : mS} (hs : SL h) : h.1 96 = (14, 80) := hs.2.1 96 (by decide)
theorem lt96 {h : mS} (hs : SL h) : 96 < h.2.2 := Nat.lt_of_lt_of_le (by decide) hs.1
theorem kk97 {h : mS} (hs : SL h) : h.1 97 = (14, 80) := hs.2.1 97 (by decide)
theorem lt97 {h : mS} (hs : SL h) : 97 < h.2.2 := Nat.lt_of_lt_of_le (by decide) hs.1
theorem kk98 {h : mS} (hs : SL h) : h.1 98 = (14, 80) := hs.2.1 98 (by decide)
theorem lt98 {h : mS} (hs : SL h) : 98 < h.2.2 := Nat.lt_of_lt_of_le (by decide) hs.1
theorem kk99 {h : mS} (hs : SL h) : h.1 99 = (14, 80) := hs.2.1 99 (by decide)
theorem lt99 {h : mS} (hs : SL h) : 99 < h.2.2 := Nat.lt_of_lt_of_le (by decide) hs.1
theorem kk100 {h : mS} (hs : SL h) : h.1 100 = (16, 80) := hs.2.1 100 (by decide)
theorem lt100 {h : mS} (hs : SL h) : 100 < h.2.2 := Nat.lt_of_lt_of_le (by decide) hs.1
theorem kk101 {h : mS} (hs : SL h) : h.1 101 = (14, 80) := hs.2.1 101 (by decide)
theorem lt101 {h : mS} (hs : SL h) : 101 < h.2.2 := Nat.lt_of_lt_of_le (by decide) hs.1
theorem kk102 {h : mS} (hs : SL h) : h.1 102 = (16, 80) := hs.2.1 102 (by decide)
theorem lt102 {h : mS} (hs : SL h) : 102 < h.2.2 := Nat.lt_of_lt_of_le (by decide) hs.1
theorem kk103 {h : mS} (hs : SL h) : h.1 103 = (16, 80) := hs.2.1 103 (by decide)
theorem lt103 {h : mS} (hs : SL h) : 103 < h.2.2 := Nat.lt_of_lt_of_le (by decide) hs.1
theorem kk104 {h : mS} (hs : SL h) : h.1 104 = (14, 4) := hs.2.1 104 (by decide)
theorem lt104 {h : mS} (hs : SL h) : 104 < h.2.2 := Nat.lt_of_lt_of_le (by decide) hs.1
theorem kk105 {h : mS} (hs : SL h) : h.1 105 = (14, 960) := hs.2.1 105 (by decide)
theorem lt105 {h : mS} (hs : SL h) : 105 < h.2.2 := Nat.lt_of_lt_of_le (by decide) hs.1
theorem kk106 {h : mS} (hs : SL h) : h.1 106 = (14, 4) := hs.2.1 106 (by decide)
theorem lt106 {h : mS} (hs : SL h) : 106 < h.2.2 := Nat.lt_of_lt_of_le (by decide) hs.1
theorem kk107 {h : mS} (hs : SL h) : h.1 107 = (14, 120) := hs.2.1 107 (by decide)
theorem lt107 {h : mS} (hs : SL h) : 107 < h.2.2 := Nat.lt_of_lt_of_le (by decide) hs.1
theorem kk108 {h : mS} (hs : SL h) : h.1 108 = (14, 120) := hs.2.1 108 (by decide)
theorem lt108 {h : mS} (hs : SL h) : 108 < h.2.2 := Nat.lt_of_lt_of_le (by decide) hs.1
theorem kk109 {h : mS} (hs : SL h) : h.1 109 = (14, 120) := hs.2.1 109 (by decide)
theorem lt109 {h : mS} (hs : SL h) : 109 < h.2.2 := Nat.lt_of_lt_of_le (by decide) hs.1
theorem kk110 {h : mS} (hs : SL h) : h.1 110 = (14, 120) := hs.2.1 110 (by decide)
theorem lt110 {h : mS} (hs : SL h) : 110 < h.2.2 := Nat.lt_of_lt_of_le (by decide) hs.1
theorem kk111 {h : mS} (hs : SL h) : h.1 111 = (14, 120) := hs.2.1 111 (by decide)
theorem lt111 {h : mS} (hs : SL h) : 111 < h.2.2 := Nat.lt_of_lt_of_le (by decide) hs.1
theorem kk112 {h : mS} (hs : SL h) : h.1 112 = (14, 120) := hs.2.1 112 (by decide)
theorem lt112 {h : mS} (hs : SL h) : 112 < h.2.2 := Nat.lt_of_lt_of_le (by decide) hs.1
theorem kk113 {h : mS} (hs : SL h) : h.1 113 = (14, 120) := hs.2.1 113 (by decide)
theorem lt113 {h : mS} (hs : SL h) : 113 < h.2.2 := Nat.lt_of_lt_of_le (by decide) hs.1
theorem kk114 {h : mS} (hs : SL h) : h.1 114 = (14, 120) := hs.2.1 114 (by decide)
theorem lt114 {h : mS} (hs : SL h) : 114 < h.2.2 := Nat.lt_of_lt_of_le (by decide) hs.1
theorem kk115 {h : mS} (hs : SL h) : h.1 115 = (14, 1320) := hs.2.1 115 (by decide)
theorem lt115 {h : mS} (hs : SL h) : 115 < h.2.2 := Nat.lt_of_lt_of_le (by decide) hs.1
theorem kk116 {h : mS} (hs : SL h) : h.1 116 = (14, 268) := hs.2.1 116 (by decide)
theorem lt116 {h : mS} (hs : SL h) : 116 < h.2.2 := Nat.lt_of_lt_of_le (by decide) hs.1
theorem kk117 {h : mS} (hs : SL h) : h.1 117 = (14, 4288) := hs.2.1 117 (by decide)
theorem lt117 {h : mS} (hs : SL h) : 117 < h.2.2 := Nat.lt_of_lt_of_le (by decide) hs.1
theorem kk118 {h : mS} (hs : SL h) : h.1 118 = (14, 4288) := hs.2.1 118 (by decide)
theorem lt118 {h : mS} (hs : SL h) : 118 < h.2.2 := Nat.lt_of_lt_of_le (by decide) hs.1
theorem kk119 {h : mS} (hs : SL h) : h.1 119 = (14, 4288) := hs.2.1 119 (by decide)
theorem lt119 {h : mS} (hs : SL h) : 119 < h.2.2 := Nat.lt_of_lt_of_le (by decide) hs.1
theorem kk120 {h : mS} (hs : SL h) : h.1 120 = (14, 17152) := hs.2.1 120 (by decide)
theorem lt120 {h : mS} (hs : SL h) : 120 < h.2.2 := Nat.lt_of_lt_of_le (by decide) hs.1
theorem kk121 {h : mS} (hs : SL h) : h.1 121 = (14, 17152) := hs.2.1 121 (by decide)
theorem lt121 {h : mS} (hs : SL h) : 121 < h.2.2 := Nat.lt_of_lt_of_le (by decide) hs.1
theorem kk122 {h : mS} (hs : SL h) : h.1 122 = (14, 17152) := hs.2.1 122 (by decide)
theorem lt122 {h : mS} (hs : SL h) : 122 < h.2.2 := Nat.lt_of_lt_of_le (by decide) hs.1
theorem kk123 {h : mS} (hs : SL h) : h.1 123 = (14, 5) := hs.2.1 123 (by decide)
theorem lt123 {h : mS} (hs : SL h) : 123 < h.2.2 := Nat.lt_of_lt_of_le (by decide) hs.1
theorem kk124 {h : mS} (hs : SL h) : h.1 124 = (14, 40) := hs.2.1 124 (by decide)
theorem lt124 {h : mS} (hs : SL h) : 124 < h.2.2 := Nat.lt_of_lt_of_le (by decide) hs.1
theorem kk125 {h : mS} (hs : SL h) : h.1 125 = (14, 20) := hs.2.1 125 (by decide)
theorem lt125 {h : mS} (hs : SL h) : 125 < h.2.2 := Nat.lt_of_lt_of_le (by decide) hs.1
theorem kk126 {h : mS} (hs : SL h) : h.1 126 = (14, 20) := hs.2.1 126 (by decide)
theorem lt126 {h : mS} (hs : SL h) : 126 < h.2.2 := Nat.lt_of_lt_of_le (by decide) hs.1
theorem kk127 {h : mS} (hs : SL h) : h.1 127 = (14, 17) := hs.2.1 127 (by decide)
theorem lt127 {h : mS} (hs : SL h) : 127 < h.2.2 := Nat.lt_of_lt_of_le (by decide) hs.1
theorem kk128 {h : mS} (hs : SL h) : h.1 128 = (14, 17) := hs.2.1 128 (by decide)
theorem lt128 {h : mS} (hs : SL h) : 128 < h.2.2 := Nat.lt_of_lt_of_le (by decide) hs.1
theorem kk129 {h : mS} (hs : SL h) : h.1 129 = (14, 17) := hs.2.1 129 (by decide)
theorem lt129 {h : mS} (hs : SL h) : 129 < h.2.2 := Nat.lt_of_lt_of_le (by decide) hs.1
theorem kk130 {h : mS} (hs : SL h) : h.1 130 = (14, 64) := hs.2.1 130 (by decide)
theorem lt130 {h : mS} (hs : SL h) : 130 < h.2.2 := Nat.lt_of_lt_of_le (by decide) hs.1
theorem kk131 {h : mS} (hs : SL h) : h.1 131 = (14, 64) := hs.2.1 131 (by decide)
theorem lt131 {h : mS} (hs : SL h) : 131 < h.2.2 := Nat.lt_of_lt_of_le (by decide) hs.1
theorem kk132 {h : mS} (hs : SL h) : h.1 132 = (14, 64) := hs.2.1 132 (by decide)
theorem lt132 {h : mS} (hs : SL h) : 132 < h.2.2 := Nat.lt_of_lt_of_le (by decide) hs.1
theorem kk133 {h : mS} (hs : SL h) : h.1 133 = (14, 11) := hs.2.1 133 (by decide)
theorem lt133 {h : mS} (hs : SL h) : 133 < h.2.2 := Nat.lt_of_lt_of_le (by decide) hs.1
theorem kk134 {h : mS} (hs : SL h) : h.1 134 = (14, 2) := hs.2.1 134 (by decide)
theorem lt134 {h : mS} (hs : SL h) : 134 < h.2.2 := Nat.lt_of_lt_of_le (by decide) hs.1
theorem kk135 {h : mS} (hs : SL h) : h.1 135 = (14, 8) := hs.2.1 135 (by decide)
theorem lt135 {h : mS} (hs : SL h) : 135 < h.2.2 := Nat.lt_of_lt_of_le (by decide) hs.1
theorem kk136 {h : mS} (hs : SL h) : h.1 136 = (14, 8) := hs.2.1 136 (by decide)
theorem lt136 {h : mS} (hs : SL h) : 136 < h.2.2 := Nat.lt_of_lt_of_le (by decide) hs.1
theorem kk137 {h : mS} (hs : SL h) : h.1 137 = (14, 64) := hs.2.1 137 (by decide)
theorem lt137 {h : mS} (hs : SL h) : 137 < h.2.2 := Nat.lt_of_lt_of_le (by decide) hs.1
theorem kk138 {h : mS} (hs : SL h) : h.1 138 = (15, 2304) := hs.2.1 138 (by decide)
theorem lt138 {h : mS} (hs : SL h) : 138 < h.2.2 := Nat.lt_of_lt_of_le (by decide) hs.1
theorem kk139 {h : mS} (hs : SL h) : h.1 139 = (14, 8) := hs.2.1 139 (by decide)
theorem lt139 {h : mS} (hs : SL h) : 139 < h.2.2 := Nat.lt_of_lt_of_le (by decide) hs.1
theorem kk140 {h : mS} (hs : SL h) : h.1 140 = (14, 8) := hs.2.1 140 (by decide)
theorem lt140 {h : mS} (hs : SL h) : 140 < h.2.2 := Nat.lt_of_lt_of_le (by decide) hs.1
theorem kk141 {h : mS} (hs : SL h) : h.1 141 = (14, 64) := hs.2.1 141 (by decide)
theorem lt141 {h : mS} (hs : SL h) : 141 < h.2.2 := Nat.lt_of_lt_of_le (by decide) hs.1
theorem kk142 {h : mS} (hs : SL h) : h.1 142 = (14, 64) := hs.2.1 142 (by decide)
theorem lt142 {h : mS} (hs : SL h) : 142 < h.2.2 := Nat.lt_of_lt_of_le (by decide) hs.1
theorem kk143 {h : mS} (hs : SL h) : h.1 143 = (14, 64) := hs.2.1 143 (by decide)
theorem lt143 {h : mS} (hs : SL h) : 143 < h.2.2 := Nat.lt_of_lt_of_le (by decide) hs.1
theorem kk144 {h : mS} (hs : SL h) : h.1 144 = (14, 4) := hs.2.1 144 (by decide)
theorem lt144 {h : mS} (hs : SL h) : 144 < h.2.2 := Nat.lt_of_lt_of_le (by decide) hs.1
theorem kk145 {h : mS} (hs : SL h) : h.1 145 = (14, 4) := hs.2.1 145 (by decide)
theorem lt145 {h : mS} (hs : SL h) : 145 < h.2.2 := Nat.lt_of_lt_of_le (by decide) hs.1
theorem kk146 {h : mS} (hs : SL h) : h.1 146 = (16, 3) := hs.2.1 146 (by decide)
theorem lt146 {h : mS} (hs : SL h) : 146 < h.2.2 := Nat.lt_of_lt_of_le (by decide) hs.1
theorem rr0_0 {h : mS} (hs : SL h) : h.2.1 0 0 = some 1 := hs.2.2 (0, 0, 1) (by decide)
theorem rr0_1 {h : mS} (hs : SL h) : h.2.1 0 1 = some 46 := hs.2.2 (0, 1, 46) (by decide)
theorem rr0_2 {h : mS} (hs : SL h) : h.2.1 0 2 = some 47 := hs.2.2 (0, 2, 47) (by decide)
theorem rr0_3 {h : mS} (hs : SL h) : h.2.1 0 3 = some 56 := hs.2.2 (0, 3, 56) (by decide)
theorem rr0_4 {h : mS} (hs : SL h) : h.2.1 0 4 = some 63 := hs.2.2 (0, 4, 63) (by decide)
theorem rr0_5 {h : mS} (hs : SL h) : h.2.1 0 5 = some 65 := hs.2.2 (0, 5, 65) (by decide)
theorem rr0_6 {h : mS} (hs : SL h) : h.2.1 0 6 = some 77 := hs.2.2 (0, 6, 77) (by decide)
theorem rr1_1 {h : mS} (hs : SL h) : h.2.1 1 1 = some 2 := hs.2.2 (1, 1, 2) (by decide)
theorem rr1_2 {h : mS} (hs : SL h) : h.2.1 1 2 = some 7 := hs.2.2 (1, 2, 7) (by decide)
theorem rr1_3 {h : mS} (hs : SL h) : h.2.1 1 3 = some 17 := hs.2.2 (1, 3, 17) (by decide)
theorem rr1_4 {h : mS} (hs : SL h) : h.2.1 1 4 = some 24 := hs.2.2 (1, 4, 24) (by decide)
theorem rr1_5 {h : mS} (hs : SL h) : h.2.1 1 5 = some 36 := hs.2.2 (1, 5, 36) (by decide)
theorem rr1_6 {h : mS} (hs : SL h) : h.2.1 1 6 = some 37 := hs.2.2 (1, 6, 37) (by decide)
theorem rr2_1 {h : mS} (hs : SL h) : h.2.1 2 1 = some 3 := hs.2.2 (2, 1, 3) (by decide)
theorem rr2_2 {h : mS} (hs : SL h) : h.2.1 2 2 = some 4 := hs.2.2 (2, 2, 4) (by decide)
theorem rr2_3 {h : mS} (hs : SL h) : h.2.1 2 3 = some 5 := hs.2.2 (2, 3, 5) (by decide)
theorem rr2_4 {h : mS} (hs : SL h) : h.2.1 2 4 = some 6 := hs.2.2 (2, 4, 6) (by decide)
theorem rr7_1 {h : mS} (hs : SL h) : h.2.1 7 1 = some 8 := hs.2.2 (7, 1, 8) (by decide)
theorem rr7_2 {h : mS} (hs : SL h) : h.2.1 7 2 = some 9 := hs.2.2 (7, 2, 9) (by decide)
theorem rr7_3 {h : mS} (hs : SL h) : h.2.1 7 3 = some 10 := hs.2.2 (7, 3, 10) (by decide)
theorem rr7_4 {h : mS} (hs : SL h) : h.2.1 7 4 = some 11 := hs.2.2 (7, 4, 11) (by decide)
theorem rr7_5 {h : mS} (hs : SL h) : h.2.1 7 5 = some 12 := hs.2.2 (7, 5, 12) (by decide)
theorem rr7_6 {h : mS} (hs : SL h) : h.2.1 7 6 = some 13 := hs.2.2 (7, 6, 13) (by decide)
theorem rr7_7 {h : mS} (hs : SL h) : h.2.1 7 7 = some 14 := hs.2.2 (7, 7, 14) (by decide)
theorem rr7_8 {h : mS} (hs : SL h) : h.2.1 7 8 = some 15 := hs.2.2 (7, 8, 15) (by decide)
theorem rr7_9 {h : mS} (hs : SL h) : h.2.1 7 9 = some 16 := hs.2.2 (7, 9, 16) (by decide)
theorem rr17_1 {h : mS} (hs : SL h) : h.2.1 17 1 = some 18 := hs.2.2 (17, 1, 18) (by decide)
theorem rr17_2 {h : mS} (hs : SL h) : h.2.1 17 2 = some 19 := hs.2.2 (17, 2, 19) (by decide)
theorem rr17_3 {h : mS} (hs : SL h) : h.2.1 17 3 = some 20 := hs.2.2 (17, 3, 20) (by decide)
theorem rr17_4 {h : mS} (hs : SL h) : h.2.1 17 4 = some 21 := hs.2.2 (17, 4, 21) (by decide)
theorem rr17_5 {h : mS} (hs : SL h) : h.2.1 17 5 = some 22 := hs.2.2 (17, 5, 22) (by decide)
theorem rr17_6 {h : mS} (hs : SL h) : h.2.1 17 6 = some 23 := hs.2.2 (17, 6, 23) (by decide)
theorem rr24_1 {h : mS} (hs : SL h) : h.2.1 24 1 = some 25 := hs.2.2 (24, 1, 25) (by decide)
theorem rr24_2 {h : mS} (hs : SL h) : h.2.1 24 2 = some 26 := hs.2.2 (24, 2, 26) (by decide)
theorem rr24_3 {h : mS} (hs : SL h) : h.2.1 24 3 = some 27 := hs.2.2 (24, 3, 27) (by decide)
theorem rr24_4 {h : mS} (hs : SL h) : h.2.1 24 4 = some 28 := hs.2.2 (24, 4, 28) (by decide)
theorem rr24_5 {h : mS} (hs : SL h) : h.2.1 24 5 = some 29 := hs.2.2 (24, 5, 29) (by decide)
theorem rr24_6 {h : mS} (hs : SL h) : h.2.1 24 6 = some 30 := hs.2.2 (24, 6, 30) (by decide)
theorem rr24_7 {h : mS} (hs : SL h) : h.2.1 24 7 = some 31 := hs.2.2 (24, 7, 31) (by decide)
theorem rr24_8 {h : mS} (hs : SL h) : h.2.1 24 8 = some 32 := hs.2.2 (24, 8, 32) (by decide)
theorem rr24_9 {h : mS} (hs : SL h) : h.2.1 24 9 = some 33 := hs.2.2 (24, 9, 33) (by decide)
theorem rr24_10 {h : mS} (hs : SL h) : h.2.1 24 10 = some 34 := hs.2.2 (24, 10, 34) (by decide)
theorem rr24_11 {h : mS} (hs : SL h) : h.2.1 24 11 = some 35 := hs.2.2 (24, 11, 35) (by decide)
theorem rr38_1 {h : mS} (hs : SL h) : h.2.1 38 1 = some 39 := hs.2.2 (38, 1, 39) (by decide)
theorem rr38_2 {h : mS} (hs : SL h) : h.2.1 38 2 = some 40 := hs.2.2 (38, 2, 40) (by decide)
theorem rr38_3 {h : mS} (hs : SL h) : h.2.1 38 3 = some 41 := hs.2.2 (38, 3, 41) (by decide)
theorem rr38_4 {h : mS} (hs : SL h) : h.2.1 38 4 = some 42 := hs.2.2 (38, 4, 42) (by decide)
theorem rr38_5 {h : mS} (hs : SL h) : h.2.1 38 5 = some 43 := hs.2.2 (38, 5, 43) (by decide)
theorem rr38_6 {h : mS} (hs : SL h) : h.2.1 38 6 = some 44 := hs.2.2 (38, 6, 44) (by decide)
theorem rr38_7 {h : mS} (hs : SL h) : h.2.1 38 7 = some 45 := hs.2.2 (38, 7, 45) (by decide)
theorem rr47_0 {h : mS} (hs : SL h) : h.2.1 47 0 = some 1 := hs.2.2 (47, 0, 1) (by decide)
theorem rr47_11 {h : mS} (hs : SL h) : h.2.1 47 11 = some 48 := hs.2.2 (47, 11, 48) (by decide)
theorem rr48_1 {h : mS} (hs : SL h) : h.2.1 48 1 = some 49 := hs.2.2 (48, 1, 49) (by decide)
theorem rr48_2 {h : mS} (hs : SL h) : h.2.1 48 2 = some 50 := hs.2.2 (48, 2, 50) (by decide)
theorem rr48_3 {h : mS} (hs : SL h) : h.2.1 48 3 = some 51 := hs.2.2 (48, 3, 51) (by decide)
theorem rr48_4 {h : mS} (hs : SL h) : h.2.1 48 4 = some 52 := hs.2.2 (48, 4, 52) (by decide)
theorem rr48_5 {h : mS} (hs : SL h) : h.2.1 48 5 = some 53 := hs.2.2 (48, 5, 53) (by decide)
theorem rr48_6 {h : mS} (hs : SL h) : h.2.1 48 6 = some 54 := hs.2.2 (48, 6, 54) (by decide)
theorem rr48_7 {h : mS} (hs : SL h) : h.2.1 48 7 = some 55 := hs.2.2 (48, 7, 55) (by decide)
theorem rr56_0 {h : mS} (hs : SL h) : h.2.1 56 0 = some 1 := hs.2.2 (56, 0, 1) (by decide)
theorem rr56_1 {h : mS} (hs : SL h) : h.2.1 56 1 = some 57 := hs.2.2 (56, 1, 57) (by decide)
theorem rr56_2 {h : mS} (hs : SL h) : h.2.1 56 2 = some 58 := hs.2.2 (56, 2, 58) (by decide)
theorem rr56_3 {h : mS} (hs : SL h) : h.2.1 56 3 = some 59 := hs.2.2 (56, 3, 59) (by decide)
theorem rr56_4 {h : mS} (hs : SL h) : h.2.1 56 4 = some 60 := hs.2.2 (56, 4, 60) (by decide)
theorem rr56_5 {h : mS} (hs : SL h) : h.2.1 56 5 = some 61 := hs.2.2 (56, 5, 61) (by decide)
theorem rr56_6 {h : mS} (hs : SL h) : h.2.1 56 6 = some 62 := hs.2.2 (56, 6, 62) (by decide)
theorem rr63_0 {h : mS} (hs : SL h) : h.2.1 63 0 = some 1 := hs.2.2 (63, 0, 1) (by decide)
theorem rr63_1 {h : mS} (hs : SL h) : h.2.1 63 1 = some 56 := hs.2.2 (63, 1, 56) (by decide)
theorem rr63_4 {h : mS} (hs : SL h) : h.2.1 63 4 = some 64 := hs.2.2 (63, 4, 64) (by decide)
theorem rr65_0 {h : mS} (hs : SL h) : h.2.1 65 0 = some 1 := hs.2.2 (65, 0, 1) (by decide)
theorem rr65_1 {h : mS} (hs : SL h) : h.2.1 65 1 = some 63 := hs.2.2 (65, 1, 63) (by decide)
theorem rr65_2 {h : mS} (hs : SL h) : h.2.1 65 2 = some 66 := hs.2.2 (65, 2, 66) (by decide)
theorem rr65_3 {h : mS} (hs : SL h) : h.2.1 65 3 = some 67 := hs.2.2 (65, 3, 67) (by decide)
theorem rr65_6 {h : mS} (hs : SL h) : h.2.1 65 6 = some 68 := hs.2.2 (65, 6, 68) (by decide)
theorem rr65_7 {h : mS} (hs : SL h) : h.2.1 65 7 = some 69 := hs.2.2 (65, 7, 69) (by decide)
theorem rr65_8 {h : mS} (hs : SL h) : h.2.1 65 8 = some 70 := hs.2.2 (65, 8, 70) (by decide)
theorem rr65_9 {h : mS} (hs : SL h) : h.2.1 65 9 = some 71 := hs.2.2 (65, 9, 71) (by decide)
theorem rr65_10 {h : mS} (hs : SL h) : h.2.1 65 10 = some 72 := hs.2.2 (65, 10, 72) (by decide)
theorem rr65_11 {h : mS} (hs : SL h) : h.2.1 65 11 = some 73 := hs.2.2 (65, 11, 73) (by decide)
theorem rr65_12 {h : mS} (hs : SL h) : h.2.1 65 12 = some 74 := hs.2.2 (65, 12, 74) (by decide)
theorem rr65_13 {h : mS} (hs : SL h) : h.2.1 65 13 = some 75 := hs.2.2 (65, 13, 75) (by decide)
theorem rr65_14 {h : mS} (hs : SL h) : h.2.1 65 14 = some 76 := hs.2.2 (65, 14, 76) (by decide)
theorem rr77_0 {h : mS} (hs : SL h) : h.2.1 77 0 = some 1 := hs.2.2 (77, 0, 1) (by decide)
theorem rr77_1 {h : mS} (hs : SL h) : h.2.1 77 1 = some 65 := hs.2.2 (77, 1, 65) (by decide)
theorem rr77_2 {h : mS} (hs : SL h) : h.2.1 77 2 = some 78 := hs.2.2 (77, 2, 78) (by decide)
theorem rr77_3 {h : mS} (hs : SL h) : h.2.1 77 3 = some 79 := hs.2.2 (77, 3, 79) (by decide)
theorem rr77_4 {h : mS} (hs : SL h) : h.2.1 77 4 = some 80 := hs.2.2 (77, 4, 80) (by decide)
theorem rr77_5 {h : mS} (hs : SL h) : h.2.1 77 5 = some 81 := hs.2.2 (77, 5, 81) (by decide)
theorem rr77_6 {h : mS} (hs : SL h) : h.2.1 77 6 = some 82 := hs.2.2 (77, 6, 82) (by decide)
theorem rr83_1 {h : mS} (hs : SL h) : h.2.1 83 1 = some 84 := hs.2.2 (83, 1, 84) (by decide)
theorem rr83_2 {h : mS} (hs : SL h) : h.2.1 83 2 = some 85 := hs.2.2 (83, 2, 85) (by decide)
theorem rr83_3 {h : mS} (hs : SL h) : h.2.1 83 3 = some 86 := hs.2.2 (83, 3, 86) (by decide)
theorem rr83_4 {h : mS} (hs : SL h) : h.2.1 83 4 = some 87 := hs.2.2 (83, 4, 87) (by decide)
theorem rr83_5 {h : mS} (hs : SL h) : h.2.1 83 5 = some 88 := hs.2.2 (83, 5, 88) (by decide)
theorem rr83_6 {h : mS} (hs : SL h) : h.2.1 83 6 = some 89 := hs.2.2 (83, 6, 89) (by decide)
theorem rr83_7 {h : mS} (hs : SL h) : h.2.1 83 7 = some 90 := hs.2.2 (83, 7, 90) (by decide)
theorem rr83_8 {h : mS} (hs : SL h) : h.2.1 83 8 = some 91 := hs.2.2 (83, 8, 91) (by decide)
theorem rr83_9 {h : mS} (hs : SL h) : h.2.1 83 9 = some 92 := hs.2.2 (83, 9, 92) (by decide)
theorem rr83_10 {h : mS} (hs : SL h) : h.2.1 83 10 = some 93 := hs.2.2 (83, 10, 93) (by decide)
theorem rr83_11 {h : mS} (hs : SL h) : h.2.1 83 11 = some 94 := hs.2.2 (83, 11, 94) (by decide)
theorem rr83_12 {h : mS} (hs : SL h) : h.2.1 83 12 = some 95 := hs.2.2 (83, 12, 95) (by decide)
theorem rr83_13 {h : mS} (hs : SL h) : h.2.1 83 13 = some 96 := hs.2.2 (83, 13, 96) (by decide)
theorem rr83_14 {h : mS} (hs : SL h) : h.2.1 83 14 = some 97 := hs.2.2 (83, 14, 97) (by decide)
theorem rr83_15 {h : mS} (hs : SL h) : h.2.1 83 15 = some 98 := hs.2.2 (83, 15, 98) (by decide)
theorem rr83_16 {h : mS} (hs : SL h) : h.2.1 83 16 = some 99 := hs.2.2 (83, 16, 99) (by decide)
theorem rr83_17 {h : mS} (hs : SL h) : h.2.1 83 17 = some 100 := hs.2.2 (83, 17, 100) (by decide)
theorem rr83_18 {h : mS} (hs : SL h) : h.2.1 83 18 = some 101 := hs.2.2 (83, 18, 101) (by decide)
theorem rr83_19 {h : mS} (hs : SL h) : h.2.1 83 19 = some 102 := hs.2.2 (83, 19, 102) (by decide)
theorem rr83_20 {h : mS} (hs : SL h) : h.2.1 83 20 = some 103 := hs.2.2 (83, 20, 103) (by decide)
theorem rr83_21 {h : mS} (hs : SL h) : h.2.1 83 21 = some 104 := hs.2.2 (83, 21, 104) (by decide)
theorem rr83_22 {h : mS} (hs : SL h) : h.2.1 83 22 = some 105 := hs.2.2 (83, 22, 105) (by decide)
theorem rr83_23 {h : mS} (hs : SL h) : h.2.1 83 23 = some 106 := hs.2.2 (83, 23, 106) (by decide)
theorem rr83_24 {h : mS} (hs : SL h) : h.2.1 83 24 = some 107 := hs.2.2 (83, 24, 107) (by decide)
theorem rr83_25 {h : mS} (hs : SL h) : h.2.1 83 25 = some 108 := hs.2.2 (83, 25, 108) (by decide)
theorem rr83_26 {h : mS} (hs : SL h) : h.2.1 83 26 = some 109 := hs.2.2 (83, 26, 109) (by decide)
theorem rr83_27 {h : mS} (hs : SL h) : h.2.1 83 27 = some 110 := hs.2.2 (83, 27, 110) (by decide)
theorem rr83_28 {h : mS} (hs : SL h) : h.2.1 83 28 = some 111 := hs.2.2 (83, 28, 111) (by decide)
theorem rr83_29 {h : mS} (hs : SL h) : h.2.1 83 29 = some 112 := hs.2.2 (83, 29, 112) (by decide)
theorem rr83_30 {h : mS} (hs : SL h) : h.2.1 83 30 = some 113 := hs.2.2 (83, 30, 113) (by decide)
theorem rr83_31 {h : mS} (hs : SL h) : h.2.1 83 31 = some 114 := hs.2.2 (83, 31, 114) (by decide)
theorem rr83_32 {h : mS} (hs : SL h) : h.2.1 83 32 = some 115 := hs.2.2 (83, 32, 115) (by decide)
theorem rr83_33 {h : mS} (hs : SL h) : h.2.1 83 33 = some 116 := hs.2.2 (83, 33, 116) (by decide)
theorem rr83_34 {h : mS} (hs : SL h) : h.2.1 83 34 = some 117 := hs.2.2 (83, 34, 117) (by decide)
theorem rr83_35 {h : mS} (hs : SL h) : h.2.1 83 35 = some 118 := hs.2.2 (83, 35, 118) (by decide)
theorem rr83_36 {h : mS} (hs : SL h) : h.2.1 83 36 = some 119 := hs.2.2 (83, 36, 119) (by decide)
theorem rr83_37 {h : mS} (hs : SL h) : h.2.1 83 37 = some 120 := hs.2.2 (83, 37, 120) (by decide)
theorem rr83_38 {h : mS} (hs : SL h) : h.2.1 83 38 = some 121 := hs.2.2 (83, 38, 121) (by decide)
theorem rr83_39 {h : mS} (hs : SL h) : h.2.1 83 39 = some 122 := hs.2.2 (83, 39, 122) (by decide)
theorem rr83_40 {h : mS} (hs : SL h) : h.2.1 83 40 = some 123 := hs.2.2 (83, 40, 123) (by decide)
theorem rr83_41 {h : mS} (hs : SL h) : h.2.1 83 41 = some 124 := hs.2.2 (83, 41, 124) (by decide)
theorem rr83_42 {h : mS} (hs : SL h) : h.2.1 83 42 = some 125 := hs.2.2 (83, 42, 125) (by decide)
theorem rr83_43 {h : mS} (hs : SL h) : h.2.1 83 43 = some 126 := hs.2.2 (83, 43, 126) (by decide)
theorem rr83_55 {h : mS} (hs : SL h) : h.2.1 83 55 = some 127 := hs.2.2 (83, 55, 127) (by decide)
theorem rr83_56 {h : mS} (hs : SL h) : h.2.1 83 56 = some 128 := hs.2.2 (83, 56, 128) (by decide)
theorem rr83_57 {h : mS} (hs : SL h) : h.2.1 83 57 = some 129 := hs.2.2 (83, 57, 129) (by decide)
theorem rr83_58 {h : mS} (hs : SL h) : h.2.1 83 58 = some 130 := hs.2.2 (83, 58, 130) (by decide)
theorem rr83_59 {h : mS} (hs : SL h) : h.2.1 83 59 = some 131 := hs.2.2 (83, 59, 131) (by decide)
theorem rr83_60 {h : mS} (hs : SL h) : h.2.1 83 60 = some 132 := hs.2.2 (83, 60, 132) (by decide)
theorem rr83_61 {h : mS} (hs : SL h) : h.2.1 83 61 = some 133 := hs.2.2 (83, 61, 133) (by decide)
theorem rr83_68 {h : mS} (hs : SL h) : h.2.1 83 68 = some 134 := hs.2.2 (83, 68, 134) (by decide)
theorem rr83_69 {h : mS} (hs : SL h) : h.2.1 83 69 = some 135 := hs.2.2 (83, 69, 135) (by decide)
theorem rr83_70 {h : mS} (hs : SL h) : h.2.1 83 70 = some 136 := hs.2.2 (83, 70, 136) (by decide)
theorem rr83_71 {h : mS} (hs : SL h) : h.2.1 83 71 = some 137 := hs.2.2 (83, 71, 137) (by decide)
theorem rr83_72 {h : mS} (hs : SL h) : h.2.1 83 72 = some 138 := hs.2.2 (83, 72, 138) (by decide)
theorem rr83_73 {h : mS} (hs : SL h) : h.2.1 83 73 = some 139 := hs.2.2 (83, 73, 139) (by decide)
theorem rr83_74 {h : mS} (hs : SL h) : h.2.1 83 74 = some 140 := hs.2.2 (83, 74, 140) (by decide)
theorem rr83_75 {h : mS} (hs : SL h) : h.2.1 83 75 = some 141 := hs.2.2 (83, 75, 141) (by decide)
theorem rr83_76 {h : mS} (hs : SL h) : h.2.1 83 76 = some 142 := hs.2.2 (83, 76, 142) (by decide)
theorem rr83_77 {h : mS} (hs : SL h) : h.2.1 83 77 = some 143 := hs.2.2 (83, 77, 143) (by decide)
theorem rr83_80 {h : mS} (hs : SL h) : h.2.1 83 80 = some 144 := hs.2.2 (83, 80, 144) (by decide)
theorem rr83_81 {h : mS} (hs : SL h) : h.2.1 83 81 = some 145 := hs.2.2 (83, 81, 145) (by decide)
theorem rr83_82 {h : mS} (hs : SL h) : h.2.1 83 82 = some 146 := hs.2.2 (83, 82, 146) (by decide)
/-- a text at t: nl lines, nt tests -/
def LT (h : mS) (t nl nt : Nat) : Prop := t + 8 ≤ h.2.2 ∧ (h.1 t = (10, 0) ∧ h.1 (t + 1) = (14, nl) ∧ h.1 (t + 2) = (14, nl) ∧ h.1 (t + 3) = (14, nl + 1) ∧ h.1 (t + 4) = (14, nt) ∧ h.1 (t + 5) = (14, nt) ∧ h.1 (t + 6) = (14, nt) ∧ h.1 (t + 7) = (16, nt)) ∧ (h.2.1 t 1 = some (t + 1) ∧ h.2.1 t 2 = some (t + 2) ∧ h.2.1 t 3 = some (t + 3) ∧ h.2.1 t 4 = some (t + 4) ∧ h.2.1 t 5 = some (t + 5) ∧ h.2.1 t 6 = some (t + 6) ∧ h.2.1 t 7 = some (t + 7)) ∧ nl ≤ 16 ∧ nt ≤ 64
theorem LT.k0 {h : mS} {t nl nt : Nat} (ht : LT h t nl nt) : h.1 t = (10, 0) := ht.2.1.1
theorem LT.l0 {h : mS} {t nl nt : Nat} (ht : LT h t nl nt) : t < h.2.2 := by have := ht.1; omega
theorem LT.k1 {h : mS} {t nl nt : Nat} (ht : LT h t nl nt) : h.1 (t + 1) = (14, nl) := ht.2.1.2.1
theorem LT.l1 {h : mS} {t nl nt : Nat} (ht : LT h t nl nt) : (t + 1) < h.2.2 := by have := ht.1; omega
theorem LT.r1 {h : mS} {t nl nt : Nat} (ht : LT h t nl nt) : h.2.1 t 1 = some (t + 1) := ht.2.2.1.1
theorem LT.k2 {h : mS} {t nl nt : Nat} (ht : LT h t nl nt) : h.1 (t + 2) = (14, nl) := ht.2.1.2.2.1
theorem LT.l2 {h : mS} {t nl nt : Nat} (ht : LT h t nl nt) : (t + 2) < h.2.2 := by have := ht.1; omega
theorem LT.r2 {h : mS} {t nl nt : Nat} (ht : LT h t nl nt) : h.2.1 t 2 = some (t + 2) := ht.2.2.1.2.1
theorem LT.k3 {h : mS} {t nl nt : Nat} (ht : LT h t nl nt) : h.1 (t + 3) = (14, nl + 1) := ht.2.1.2.2.2.1
theorem LT.l3 {h : mS} {t nl nt : Nat} (ht : LT h t nl nt) : (t + 3) < h.2.2 := by have := ht.1; omega
theorem LT.r3 {h : mS} {t nl nt : Nat} (ht : LT h t nl nt) : h.2.1 t 3 = some (t + 3) := ht.2.2.1.2.2.1
theorem LT.k4 {h : mS} {t nl nt : Nat} (ht : LT h t nl nt) : h.1 (t + 4) = (14, nt) := ht.2.1.2.2.2.2.1
theorem LT.l4 {h : mS} {t nl nt : Nat} (ht : LT h t nl nt) : (t + 4) < h.2.2 := by have := ht.1; omega
theorem LT.r4 {h : mS} {t nl nt : Nat} (ht : LT h t nl nt) : h.2.1 t 4 = some (t + 4) := ht.2.2.1.2.2.2.1
theorem LT.k5 {h : mS} {t nl nt : Nat} (ht : LT h t nl nt) : h.1 (t + 5) = (14, nt) := ht.2.1.2.2.2.2.2.1
theorem LT.l5 {h : mS} {t nl nt : Nat} (ht : LT h t nl nt) : (t + 5) < h.2.2 := by have := ht.1; omega
theorem LT.r5 {h : mS} {t nl nt : Nat} (ht : LT h t nl nt) : h.2.1 t 5 = some (t + 5) := ht.2.2.1.2.2.2.2.1
theorem LT.k6 {h : mS} {t nl nt : Nat} (ht : LT h t nl nt) : h.1 (t + 6) = (14, nt) := ht.2.1.2.2.2.2.2.2.1
theorem LT.l6 {h : mS} {t nl nt : Nat} (ht : LT h t nl nt) : (t + 6) < h.2.2 := by have := ht.1; omega
theorem LT.r6 {h : mS} {t nl nt : Nat} (ht : LT h t nl nt) : h.2.1 t 6 = some (t + 6) := ht.2.2.1.2.2.2.2.2.1
theorem LT.k7 {h : mS} {t nl nt : Nat} (ht : LT h t nl nt) : h.1 (t + 7) = (16, nt) := ht.2.1.2.2.2.2.2.2.2
theorem LT.l7 {h : mS} {t nl nt : Nat} (ht : LT h t nl nt) : (t + 7) < h.2.2 := by have := ht.1; omega
theorem LT.r7 {h : mS} {t nl nt : Nat} (ht : LT h t nl nt) : h.2.1 t 7 = some (t + 7) := ht.2.2.1.2.2.2.2.2.2
/-! posts -/
def qi (h : mS) (L : mL) (f : Int32 → mI → Prop) : Pst := fun r h' I' L' => h' = h ∧ L' = L ∧ ∃ v, r = some (.int v) ∧ f v I'
def qv (h : mS) (L : mL) (f : mI → Prop) : Pst := fun r h' I' L' => h' = h ∧ L' = L ∧ r = none ∧ f I'
def qt (E : Envt) (h : mS) (L : mL) (f : Nat → mI → Prop) : Pst := fun r h' I' L' => h' = h ∧ L' = L ∧ ∃ t, r = some (.ref (eB E + t)) ∧ f t I'
def ql (h : mS) (L : mL) (f : Int64 → mI → Prop) : Pst := fun r h' I' L' => h' = h ∧ L' = L ∧ ∃ v, r = some (.long v) ∧ f v I'
def qiL (h : mS) (f : Int32 → mI → mL → Prop) : Pst := fun r h' I' L' => h' = h ∧ ∃ v, r = some (.int v) ∧ f v I' L'
def qvL (h : mS) (f : mI → mL → Prop) : Pst := fun r h' I' L' => h' = h ∧ r = none ∧ f I' L'
def gi (f : Int32 → mS → mI → mL → Prop) : Pst := fun r h' I' L' => ∃ v, r = some (.int v) ∧ f v h' I' L'
def gv (f : mS → mI → mL → Prop) : Pst := fun r h' I' L' => r = none ∧ f h' I' L'
def go (E : Envt) (f : Option Nat → mS → mI → mL → Prop) : Pst := fun r h' I' L' => ∃ a, r = some (rlf (eB E) a) ∧ f a h' I' L'
section KQ
variable {E : Envt} {M M' : Mth} {d0 d bc bs bc' bs' pc : Nat} {Qp : Pst} {vs : List (Option Value)} {st av : List Value} {h : mS} {I : mI} {L : mL}
theorem kqi {f : Int32 → mI → Prop} (hc : CT E M' d0 bc' bs' av h I L (qi h L f)) (k : ∀ v I', f v I' → J E M d Qp bc bs pc vs (.int v :: st) h I' L) : CT E M' d0 bc' bs' av h I L (fun r h' I' L' => J E M d Qp bc bs pc vs (r.toList ++ st) h' I' L') := hc.mono (fun r h' I' L' hq => by obtain ⟨rfl, rfl, v, rfl, hf⟩ := hq; exact k v I' hf)
theorem kqv {f : mI → Prop} (hc : CT E M' d0 bc' bs' av h I L (qv h L f)) (k : ∀ I', f I' → J E M d Qp bc bs pc vs st h I' L) : CT E M' d0 bc' bs' av h I L (fun r h' I' L' => J E M d Qp bc bs pc vs (r.toList ++ st) h' I' L') := hc.mono (fun r h' I' L' hq => by obtain ⟨rfl, rfl, rfl, hf⟩ := hq; exact k I' hf)
theorem kqt {f : Nat → mI → Prop} (hc : CT E M' d0 bc' bs' av h I L (qt E h L f)) (k : ∀ t I', f t I' → J E M d Qp bc bs pc vs (.ref (eB E + t) :: st) h I' L) : CT E M' d0 bc' bs' av h I L (fun r h' I' L' => J E M d Qp bc bs pc vs (r.toList ++ st) h' I' L') := hc.mono (fun r h' I' L' hq => by obtain ⟨rfl, rfl, v, rfl, hf⟩ := hq; exact k v I' hf)
theorem kql {f : Int64 → mI → Prop} (hc : CT E M' d0 bc' bs' av h I L (ql h L f)) (k : ∀ t I', f t I' → J E M d Qp bc bs pc vs (.long t :: st) h I' L) : CT E M' d0 bc' bs' av h I L (fun r h' I' L' => J E M d Qp bc bs pc vs (r.toList ++ st) h' I' L') := hc.mono (fun r h' I' L' hq => by obtain ⟨rfl, rfl, v, rfl, hf⟩ := hq; exact k v I' hf)
theorem kqiL {f : Int32 → mI → mL → Prop} (hc : CT E M' d0 bc' bs' av h I L (qiL h f)) (k : ∀ v I' L', f v I' L' → J E M d Qp bc bs pc vs (.int v :: st) h I' L') : CT E M' d0 bc' bs' av h I L (fun r h' I' L' => J E M d Qp bc bs pc vs (r.toList ++ st) h' I' L') := hc.mono (fun r h' I' L' hq => by obtain ⟨rfl, v, rfl, hf⟩ := hq; exact k v I' L' hf)
theorem kqvL {f : mI → mL → Prop} (hc : CT E M' d0 bc' bs' av h I L (qvL h f)) (k : ∀ I' L', f I' L' → J E M d Qp bc bs pc vs st h I' L') : CT E M' d0 bc' bs' av h I L (fun r h' I' L' => J E M d Qp bc bs pc vs (r.toList ++ st) h' I' L') := hc.mono (fun r h' I' L' hq => by obtain ⟨rfl, rfl, hf⟩ := hq; exact k I' L' hf)
theorem kgi {f : Int32 → mS → mI → mL → Prop} (hc : CT E M' d0 bc' bs' av h I L (gi f)) (k : ∀ v h' I' L', f v h' I' L' → J E M d Qp bc bs pc vs (.int v :: st) h' I' L') : CT E M' d0 bc' bs' av h I L (fun r h' I' L' => J E M d Qp bc bs pc vs (r.toList ++ st) h' I' L') := hc.mono (fun r h' I' L' hq => by obtain ⟨v, rfl, hf⟩ := hq; exact k v h' I' L' hf)
theorem kgv {f : mS → mI → mL → Prop} (hc : CT E M' d0 bc' bs' av h I L (gv f)) (k : ∀ h' I' L', f h' I' L' → J E M d Qp bc bs pc vs st h' I' L') : CT E M' d0 bc' bs' av h I L (fun r h' I' L' => J E M d Qp bc bs pc vs (r.toList ++ st) h' I' L') := hc.mono (fun r h' I' L' hq => by obtain ⟨rfl, hf⟩ := hq; exact k h' I' L' hf)
theorem kgo {f : Option Nat → mS → mI → mL → Prop} (hc : CT E M' d0 bc' bs' av h I L (go E f)) (k : ∀ a h' I' L', f a h' I' L' → J E M d Qp bc bs pc vs (rlf (eB E) a :: st) h' I' L') : CT E M' d0 bc' bs' av h I L (fun r h' I' L' => J E M d Qp bc bs pc vs (r.toList ++ st) h' I' L') := hc.mono (fun r h' I' L' hq => by obtain ⟨v, rfl, hf⟩ := hq; exact k v h' I' L' hf)
theorem J.topi {x : Int32} (k : ∀ y : Int32, y = x → J E M d Qp bc bs pc vs (.int y :: st) h I L) : J E M d Qp bc bs pc vs (.int x :: st) h I L := k x rfl
theorem J.topl {x : Int64} (k : ∀ y : Int64, y = x → J E M d Qp bc bs pc vs (.long y :: st) h I L) : J E M d Qp bc bs pc vs (.long x :: st) h I L := k x rfl
end KQ
/-! truth as a number -/
def bI (p : Prop) [Decidable p] : Int32 := if p then 1 else 0
theorem bI_t {p : Prop} [Decidable p] (h : p) : bI p = 1 := if_pos h
theorem bI_f {p : Prop} [Decidable p] (h : ¬ p) : bI p = 0 := if_neg h
theorem bI_bz (p : Prop) [Decidable p] : bz (bI p) := by unfold bI; split; exact Or.inr rfl; exact Or.inl rfl
theorem bI_0 {p : Prop} [Decidable p] : bI p = 0 ↔ ¬ p := by unfold bI; split <;> simp_all
theorem bI_n0 {p : Prop} [Decidable p] : ¬ bI p = 0 ↔ p := by unfold bI; split <;> simp_all
theorem uI_eq {I : mI} {a i : Nat} {v : Int32} : uI I a i v a i = v := by simp [uI]
theorem toInt_ne {x : Int32} {k : Int} {c : Int32} (hc : c.toInt = k) (h : ¬ x = c) : x.toInt ≠ k := fun e => h (Int32.toInt_inj.mp (e.trans hc.symm))
