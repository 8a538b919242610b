/-! where the objects lie: the class from c on, the reference from m on -/
def clK : List Nat := [12, 22, 2, 21, 20, 20, 25, 11, 20, 20, 20, 11, 20, 20, 20, 11, 20, 20, 20, 11, 20, 20, 20, 11, 20, 20, 20, 11, 20, 20, 20, 11, 20, 20, 20, 11, 20, 20, 20, 11, 20, 20, 20, 11, 20, 20, 20, 11, 20, 20, 20, 11, 20, 20, 20, 9, 10, 2, 21, 20, 20, 25, 11, 20, 20, 20, 11, 20, 20, 20, 11, 20, 20, 20, 11, 20, 20, 20, 11, 20, 20, 20, 11, 20, 20, 20, 11, 20, 20, 20, 11, 20, 20, 20, 11, 20, 20, 20, 11, 20, 20, 20, 11, 20, 20, 20, 11, 20, 20, 20, 20, 20, 20, 20, 20, 20, 20, 20, 20, 24, 8, 11, 20, 20, 20, 21, 21, 8, 11, 20, 20, 20, 21, 21, 8, 11, 20, 20, 20, 21, 21, 8, 11, 20, 20, 20, 21, 21, 8, 11, 20, 20, 20, 21, 21, 8, 11, 20, 20, 20, 21, 21, 8, 11, 20, 20, 20, 21, 21, 8, 11, 20, 20, 20, 21, 21, 8, 11, 20, 20, 20, 21, 21, 20, 20, 6, 20, 20, 20, 20, 20, 20, 3, 20, 1, 20, 21, 21, 7, 20, 4, 20, 20, 20, 20, 20, 5, 20]
def clN : List Nat := [0, 500, 0, 6, 6, 6, 12, 0, 12, 12, 12, 0, 12, 12, 12, 0, 12, 12, 12, 0, 12, 12, 12, 0, 12, 12, 12, 0, 12, 12, 12, 0, 12, 12, 12, 0, 12, 12, 12, 0, 12, 12, 12, 0, 12, 12, 12, 0, 12, 12, 12, 0, 12, 12, 12, 0, 0, 0, 6, 6, 6, 12, 0, 12, 12, 12, 0, 12, 12, 12, 0, 12, 12, 12, 0, 12, 12, 12, 0, 12, 12, 12, 0, 12, 12, 12, 0, 12, 12, 12, 0, 12, 12, 12, 0, 12, 12, 12, 0, 12, 12, 12, 0, 12, 12, 12, 0, 12, 12, 12, 60, 60, 60, 60, 60, 360, 360, 1800, 6, 9, 0, 0, 12, 12, 12, 100, 100, 0, 0, 12, 12, 12, 100, 100, 0, 0, 12, 12, 12, 100, 100, 0, 0, 12, 12, 12, 100, 100, 0, 0, 12, 12, 12, 100, 100, 0, 0, 12, 12, 12, 100, 100, 0, 0, 12, 12, 12, 100, 100, 0, 0, 12, 12, 12, 100, 100, 0, 0, 12, 12, 12, 100, 100, 6, 4, 0, 6, 6, 6, 6, 12, 60, 0, 6, 0, 3, 3, 3, 0, 60, 0, 100, 100, 100, 20, 20, 0, 100]
def clR : List (Nat × Nat × Nat) := [(2, 0, 3), (2, 1, 4), (2, 2, 5), (2, 3, 6), (7, 0, 8), (7, 1, 9), (7, 2, 10), (11, 0, 12), (11, 1, 13), (11, 2, 14), (15, 0, 16), (15, 1, 17), (15, 2, 18), (19, 0, 20), (19, 1, 21), (19, 2, 22), (23, 0, 24), (23, 1, 25), (23, 2, 26), (27, 0, 28), (27, 1, 29), (27, 2, 30), (31, 0, 32), (31, 1, 33), (31, 2, 34), (35, 0, 36), (35, 1, 37), (35, 2, 38), (39, 0, 40), (39, 1, 41), (39, 2, 42), (43, 0, 44), (43, 1, 45), (43, 2, 46), (47, 0, 48), (47, 1, 49), (47, 2, 50), (51, 0, 52), (51, 1, 53), (51, 2, 54), (57, 0, 58), (57, 1, 59), (57, 2, 60), (57, 3, 61), (62, 0, 63), (62, 1, 64), (62, 2, 65), (66, 0, 67), (66, 1, 68), (66, 2, 69), (70, 0, 71), (70, 1, 72), (70, 2, 73), (74, 0, 75), (74, 1, 76), (74, 2, 77), (78, 0, 79), (78, 1, 80), (78, 2, 81), (82, 0, 83), (82, 1, 84), (82, 2, 85), (86, 0, 87), (86, 1, 88), (86, 2, 89), (90, 0, 91), (90, 1, 92), (90, 2, 93), (94, 0, 95), (94, 1, 96), (94, 2, 97), (98, 0, 99), (98, 1, 100), (98, 2, 101), (102, 0, 103), (102, 1, 104), (102, 2, 105), (106, 0, 107), (106, 1, 108), (106, 2, 109), (120, 0, 121), (120, 1, 125), (120, 2, 126), (121, 0, 122), (121, 1, 123), (121, 2, 124), (127, 0, 128), (127, 1, 132), (127, 2, 133), (128, 0, 129), (128, 1, 130), (128, 2, 131), (134, 0, 135), (134, 1, 139), (134, 2, 140), (135, 0, 136), (135, 1, 137), (135, 2, 138), (141, 0, 142), (141, 1, 146), (141, 2, 147), (142, 0, 143), (142, 1, 144), (142, 2, 145), (148, 0, 149), (148, 1, 153), (148, 2, 154), (149, 0, 150), (149, 1, 151), (149, 2, 152), (155, 0, 156), (155, 1, 160), (155, 2, 161), (156, 0, 157), (156, 1, 158), (156, 2, 159), (162, 0, 163), (162, 1, 167), (162, 2, 168), (163, 0, 164), (163, 1, 165), (163, 2, 166), (169, 0, 170), (169, 1, 174), (169, 2, 175), (170, 0, 171), (170, 1, 172), (170, 2, 173), (176, 0, 177), (176, 1, 181), (176, 2, 182), (177, 0, 178), (177, 1, 179), (177, 2, 180), (0, 0, 1), (0, 1, 55), (0, 2, 56), (0, 3, 119), (0, 4, 183), (0, 5, 184), (0, 6, 185), (0, 7, 192), (0, 8, 194), (0, 9, 198), (0, 10, 200), (0, 11, 206), (55, 0, 1), (56, 0, 110), (56, 1, 111), (56, 2, 112), (56, 3, 113), (56, 4, 114), (56, 8, 115), (56, 9, 116), (56, 10, 117), (56, 11, 118), (185, 0, 56), (185, 2, 186), (185, 3, 187), (185, 4, 188), (185, 5, 189), (185, 6, 190), (185, 7, 191), (192, 0, 56), (192, 1, 193), (194, 0, 192), (194, 4, 195), (194, 5, 196), (194, 6, 197), (198, 0, 192), (198, 1, 199), (200, 0, 192), (200, 1, 201), (200, 2, 202), (200, 3, 203), (200, 4, 204), (200, 5, 205), (206, 1, 207)]
def clA : List (Nat × Nat × Nat) := [(6, 0, 7), (6, 1, 11), (6, 2, 15), (6, 3, 19), (6, 4, 23), (6, 5, 27), (6, 6, 31), (6, 7, 35), (6, 8, 39), (6, 9, 43), (6, 10, 47), (6, 11, 51), (61, 0, 62), (61, 1, 66), (61, 2, 70), (61, 3, 74), (61, 4, 78), (61, 5, 82), (61, 6, 86), (61, 7, 90), (61, 8, 94), (61, 9, 98), (61, 10, 102), (61, 11, 106), (119, 0, 120), (119, 1, 127), (119, 2, 134), (119, 3, 141), (119, 4, 148), (119, 5, 155), (119, 6, 162), (119, 7, 169), (119, 8, 176)]
def rlK : List Nat := [17, 26, 14, 22, 20, 20, 20, 20, 20, 20, 20, 20, 20, 20, 20, 20, 20, 20, 20, 20, 20, 20, 20, 20, 20, 21]
def rlN : List Nat := [0, 8, 0, 500, 360, 360, 1800, 60, 60, 60, 60, 60, 60, 6, 6, 6, 60, 10, 60, 100, 100, 100, 20, 20, 100, 1]
def rlR : List (Nat × Nat × Nat) := [(0, 6, 1), (0, 8, 2), (0, 9, 3), (0, 20, 4), (0, 21, 5), (0, 22, 6), (0, 23, 7), (0, 24, 8), (0, 25, 9), (0, 26, 10), (0, 27, 11), (0, 28, 12), (0, 29, 13), (0, 30, 14), (0, 31, 15), (0, 33, 16), (0, 35, 17), (0, 36, 18), (0, 42, 19), (0, 43, 20), (0, 44, 21), (0, 47, 22), (0, 48, 23), (0, 50, 24)]
/-- the class's objects as its constructor has laid them: kinds, lengths, what never changes of their references -/
def CL (c : Nat) (h : MHp) : Prop := (∀ k : Nat, k < 208 → hK h (c + k) = clK.getD k 0 ∧ hN h (c + k) = clN.getD k 0) ∧ (∀ x : Nat × Nat × Nat, x ∈ clR → hR h (c + x.1) x.2.1 = some (c + x.2.2)) ∧ ∀ x : Nat × Nat × Nat, x ∈ clA → hAR h (c + x.1) x.2.1 = some (c + x.2.2)
/-- the reference's -/
def QL (m : Nat) (h : MHp) : Prop := (∀ k : Nat, k < 26 → hK h (m + k) = rlK.getD k 0 ∧ hN h (m + k) = rlN.getD k 0) ∧ ∀ x : Nat × Nat × Nat, x ∈ rlR → hR h (m + x.1) x.2.1 = some (m + x.2.2)
theorem lK0 {c : Nat} {h : MHp} (L : CL c h) : hK h c = 12 := (L.1 0 (by decide)).1
theorem lK1 {c : Nat} {h : MHp} (L : CL c h) : hK h (c + 1) = 22 := (L.1 1 (by decide)).1
theorem lN1 {c : Nat} {h : MHp} (L : CL c h) : hN h (c + 1) = 500 := (L.1 1 (by decide)).2
theorem lK55 {c : Nat} {h : MHp} (L : CL c h) : hK h (c + 55) = 9 := (L.1 55 (by decide)).1
theorem lK56 {c : Nat} {h : MHp} (L : CL c h) : hK h (c + 56) = 10 := (L.1 56 (by decide)).1
theorem lK110 {c : Nat} {h : MHp} (L : CL c h) : hK h (c + 110) = 20 := (L.1 110 (by decide)).1
theorem lN110 {c : Nat} {h : MHp} (L : CL c h) : hN h (c + 110) = 60 := (L.1 110 (by decide)).2
theorem lK111 {c : Nat} {h : MHp} (L : CL c h) : hK h (c + 111) = 20 := (L.1 111 (by decide)).1
theorem lN111 {c : Nat} {h : MHp} (L : CL c h) : hN h (c + 111) = 60 := (L.1 111 (by decide)).2
theorem lK112 {c : Nat} {h : MHp} (L : CL c h) : hK h (c + 112) = 20 := (L.1 112 (by decide)).1
theorem lN112 {c : Nat} {h : MHp} (L : CL c h) : hN h (c + 112) = 60 := (L.1 112 (by decide)).2
theorem lK113 {c : Nat} {h : MHp} (L : CL c h) : hK h (c + 113) = 20 := (L.1 113 (by decide)).1
theorem lN113 {c : Nat} {h : MHp} (L : CL c h) : hN h (c + 113) = 60 := (L.1 113 (by decide)).2
theorem lK114 {c : Nat} {h : MHp} (L : CL c h) : hK h (c + 114) = 20 := (L.1 114 (by decide)).1
theorem lN114 {c : Nat} {h : MHp} (L : CL c h) : hN h (c + 114) = 60 := (L.1 114 (by decide)).2
theorem lK115 {c : Nat} {h : MHp} (L : CL c h) : hK h (c + 115) = 20 := (L.1 115 (by decide)).1
theorem lN115 {c : Nat} {h : MHp} (L : CL c h) : hN h (c + 115) = 360 := (L.1 115 (by decide)).2
theorem lK116 {c : Nat} {h : MHp} (L : CL c h) : hK h (c + 116) = 20 := (L.1 116 (by decide)).1
theorem lN116 {c : Nat} {h : MHp} (L : CL c h) : hN h (c + 116) = 360 := (L.1 116 (by decide)).2
theorem lK117 {c : Nat} {h : MHp} (L : CL c h) : hK h (c + 117) = 20 := (L.1 117 (by decide)).1
theorem lN117 {c : Nat} {h : MHp} (L : CL c h) : hN h (c + 117) = 1800 := (L.1 117 (by decide)).2
theorem lK118 {c : Nat} {h : MHp} (L : CL c h) : hK h (c + 118) = 20 := (L.1 118 (by decide)).1
theorem lN118 {c : Nat} {h : MHp} (L : CL c h) : hN h (c + 118) = 6 := (L.1 118 (by decide)).2
theorem lK119 {c : Nat} {h : MHp} (L : CL c h) : hK h (c + 119) = 24 := (L.1 119 (by decide)).1
theorem lN119 {c : Nat} {h : MHp} (L : CL c h) : hN h (c + 119) = 9 := (L.1 119 (by decide)).2
theorem lK183 {c : Nat} {h : MHp} (L : CL c h) : hK h (c + 183) = 20 := (L.1 183 (by decide)).1
theorem lN183 {c : Nat} {h : MHp} (L : CL c h) : hN h (c + 183) = 6 := (L.1 183 (by decide)).2
theorem lK184 {c : Nat} {h : MHp} (L : CL c h) : hK h (c + 184) = 20 := (L.1 184 (by decide)).1
theorem lN184 {c : Nat} {h : MHp} (L : CL c h) : hN h (c + 184) = 4 := (L.1 184 (by decide)).2
theorem lK185 {c : Nat} {h : MHp} (L : CL c h) : hK h (c + 185) = 6 := (L.1 185 (by decide)).1
theorem lK186 {c : Nat} {h : MHp} (L : CL c h) : hK h (c + 186) = 20 := (L.1 186 (by decide)).1
theorem lN186 {c : Nat} {h : MHp} (L : CL c h) : hN h (c + 186) = 6 := (L.1 186 (by decide)).2
theorem lK187 {c : Nat} {h : MHp} (L : CL c h) : hK h (c + 187) = 20 := (L.1 187 (by decide)).1
theorem lN187 {c : Nat} {h : MHp} (L : CL c h) : hN h (c + 187) = 6 := (L.1 187 (by decide)).2
theorem lK188 {c : Nat} {h : MHp} (L : CL c h) : hK h (c + 188) = 20 := (L.1 188 (by decide)).1
theorem lN188 {c : Nat} {h : MHp} (L : CL c h) : hN h (c + 188) = 6 := (L.1 188 (by decide)).2
theorem lK189 {c : Nat} {h : MHp} (L : CL c h) : hK h (c + 189) = 20 := (L.1 189 (by decide)).1
theorem lN189 {c : Nat} {h : MHp} (L : CL c h) : hN h (c + 189) = 6 := (L.1 189 (by decide)).2
theorem lK190 {c : Nat} {h : MHp} (L : CL c h) : hK h (c + 190) = 20 := (L.1 190 (by decide)).1
theorem lN190 {c : Nat} {h : MHp} (L : CL c h) : hN h (c + 190) = 12 := (L.1 190 (by decide)).2
theorem lK191 {c : Nat} {h : MHp} (L : CL c h) : hK h (c + 191) = 20 := (L.1 191 (by decide)).1
theorem lN191 {c : Nat} {h : MHp} (L : CL c h) : hN h (c + 191) = 60 := (L.1 191 (by decide)).2
theorem lK192 {c : Nat} {h : MHp} (L : CL c h) : hK h (c + 192) = 3 := (L.1 192 (by decide)).1
theorem lK193 {c : Nat} {h : MHp} (L : CL c h) : hK h (c + 193) = 20 := (L.1 193 (by decide)).1
theorem lN193 {c : Nat} {h : MHp} (L : CL c h) : hN h (c + 193) = 6 := (L.1 193 (by decide)).2
theorem lK194 {c : Nat} {h : MHp} (L : CL c h) : hK h (c + 194) = 1 := (L.1 194 (by decide)).1
theorem lK195 {c : Nat} {h : MHp} (L : CL c h) : hK h (c + 195) = 20 := (L.1 195 (by decide)).1
theorem lN195 {c : Nat} {h : MHp} (L : CL c h) : hN h (c + 195) = 3 := (L.1 195 (by decide)).2
theorem lK196 {c : Nat} {h : MHp} (L : CL c h) : hK h (c + 196) = 21 := (L.1 196 (by decide)).1
theorem lN196 {c : Nat} {h : MHp} (L : CL c h) : hN h (c + 196) = 3 := (L.1 196 (by decide)).2
theorem lK197 {c : Nat} {h : MHp} (L : CL c h) : hK h (c + 197) = 21 := (L.1 197 (by decide)).1
theorem lN197 {c : Nat} {h : MHp} (L : CL c h) : hN h (c + 197) = 3 := (L.1 197 (by decide)).2
theorem lK198 {c : Nat} {h : MHp} (L : CL c h) : hK h (c + 198) = 7 := (L.1 198 (by decide)).1
theorem lK199 {c : Nat} {h : MHp} (L : CL c h) : hK h (c + 199) = 20 := (L.1 199 (by decide)).1
theorem lN199 {c : Nat} {h : MHp} (L : CL c h) : hN h (c + 199) = 60 := (L.1 199 (by decide)).2
theorem lK200 {c : Nat} {h : MHp} (L : CL c h) : hK h (c + 200) = 4 := (L.1 200 (by decide)).1
theorem lK201 {c : Nat} {h : MHp} (L : CL c h) : hK h (c + 201) = 20 := (L.1 201 (by decide)).1
theorem lN201 {c : Nat} {h : MHp} (L : CL c h) : hN h (c + 201) = 100 := (L.1 201 (by decide)).2
theorem lK202 {c : Nat} {h : MHp} (L : CL c h) : hK h (c + 202) = 20 := (L.1 202 (by decide)).1
theorem lN202 {c : Nat} {h : MHp} (L : CL c h) : hN h (c + 202) = 100 := (L.1 202 (by decide)).2
theorem lK203 {c : Nat} {h : MHp} (L : CL c h) : hK h (c + 203) = 20 := (L.1 203 (by decide)).1
theorem lN203 {c : Nat} {h : MHp} (L : CL c h) : hN h (c + 203) = 100 := (L.1 203 (by decide)).2
theorem lK204 {c : Nat} {h : MHp} (L : CL c h) : hK h (c + 204) = 20 := (L.1 204 (by decide)).1
theorem lN204 {c : Nat} {h : MHp} (L : CL c h) : hN h (c + 204) = 20 := (L.1 204 (by decide)).2
theorem lK205 {c : Nat} {h : MHp} (L : CL c h) : hK h (c + 205) = 20 := (L.1 205 (by decide)).1
theorem lN205 {c : Nat} {h : MHp} (L : CL c h) : hN h (c + 205) = 20 := (L.1 205 (by decide)).2
theorem lK206 {c : Nat} {h : MHp} (L : CL c h) : hK h (c + 206) = 5 := (L.1 206 (by decide)).1
theorem lK207 {c : Nat} {h : MHp} (L : CL c h) : hK h (c + 207) = 20 := (L.1 207 (by decide)).1
theorem lN207 {c : Nat} {h : MHp} (L : CL c h) : hN h (c + 207) = 100 := (L.1 207 (by decide)).2
theorem lR0_0 {c : Nat} {h : MHp} (L : CL c h) : hR h c 0 = some (c + 1) := L.2.1 (0, 0, 1) (by decide)
theorem lR0_1 {c : Nat} {h : MHp} (L : CL c h) : hR h c 1 = some (c + 55) := L.2.1 (0, 1, 55) (by decide)
theorem lR0_2 {c : Nat} {h : MHp} (L : CL c h) : hR h c 2 = some (c + 56) := L.2.1 (0, 2, 56) (by decide)
theorem lR0_3 {c : Nat} {h : MHp} (L : CL c h) : hR h c 3 = some (c + 119) := L.2.1 (0, 3, 119) (by decide)
theorem lR0_4 {c : Nat} {h : MHp} (L : CL c h) : hR h c 4 = some (c + 183) := L.2.1 (0, 4, 183) (by decide)
theorem lR0_5 {c : Nat} {h : MHp} (L : CL c h) : hR h c 5 = some (c + 184) := L.2.1 (0, 5, 184) (by decide)
theorem lR0_6 {c : Nat} {h : MHp} (L : CL c h) : hR h c 6 = some (c + 185) := L.2.1 (0, 6, 185) (by decide)
theorem lR0_7 {c : Nat} {h : MHp} (L : CL c h) : hR h c 7 = some (c + 192) := L.2.1 (0, 7, 192) (by decide)
theorem lR0_8 {c : Nat} {h : MHp} (L : CL c h) : hR h c 8 = some (c + 194) := L.2.1 (0, 8, 194) (by decide)
theorem lR0_9 {c : Nat} {h : MHp} (L : CL c h) : hR h c 9 = some (c + 198) := L.2.1 (0, 9, 198) (by decide)
theorem lR0_10 {c : Nat} {h : MHp} (L : CL c h) : hR h c 10 = some (c + 200) := L.2.1 (0, 10, 200) (by decide)
theorem lR0_11 {c : Nat} {h : MHp} (L : CL c h) : hR h c 11 = some (c + 206) := L.2.1 (0, 11, 206) (by decide)
theorem lR55_0 {c : Nat} {h : MHp} (L : CL c h) : hR h (c + 55) 0 = some (c + 1) := L.2.1 (55, 0, 1) (by decide)
theorem lR56_0 {c : Nat} {h : MHp} (L : CL c h) : hR h (c + 56) 0 = some (c + 110) := L.2.1 (56, 0, 110) (by decide)
theorem lR56_1 {c : Nat} {h : MHp} (L : CL c h) : hR h (c + 56) 1 = some (c + 111) := L.2.1 (56, 1, 111) (by decide)
theorem lR56_2 {c : Nat} {h : MHp} (L : CL c h) : hR h (c + 56) 2 = some (c + 112) := L.2.1 (56, 2, 112) (by decide)
theorem lR56_3 {c : Nat} {h : MHp} (L : CL c h) : hR h (c + 56) 3 = some (c + 113) := L.2.1 (56, 3, 113) (by decide)
theorem lR56_4 {c : Nat} {h : MHp} (L : CL c h) : hR h (c + 56) 4 = some (c + 114) := L.2.1 (56, 4, 114) (by decide)
theorem lR56_8 {c : Nat} {h : MHp} (L : CL c h) : hR h (c + 56) 8 = some (c + 115) := L.2.1 (56, 8, 115) (by decide)
theorem lR56_9 {c : Nat} {h : MHp} (L : CL c h) : hR h (c + 56) 9 = some (c + 116) := L.2.1 (56, 9, 116) (by decide)
theorem lR56_10 {c : Nat} {h : MHp} (L : CL c h) : hR h (c + 56) 10 = some (c + 117) := L.2.1 (56, 10, 117) (by decide)
theorem lR56_11 {c : Nat} {h : MHp} (L : CL c h) : hR h (c + 56) 11 = some (c + 118) := L.2.1 (56, 11, 118) (by decide)
theorem lR185_0 {c : Nat} {h : MHp} (L : CL c h) : hR h (c + 185) 0 = some (c + 56) := L.2.1 (185, 0, 56) (by decide)
theorem lR185_2 {c : Nat} {h : MHp} (L : CL c h) : hR h (c + 185) 2 = some (c + 186) := L.2.1 (185, 2, 186) (by decide)
theorem lR185_3 {c : Nat} {h : MHp} (L : CL c h) : hR h (c + 185) 3 = some (c + 187) := L.2.1 (185, 3, 187) (by decide)
theorem lR185_4 {c : Nat} {h : MHp} (L : CL c h) : hR h (c + 185) 4 = some (c + 188) := L.2.1 (185, 4, 188) (by decide)
theorem lR185_5 {c : Nat} {h : MHp} (L : CL c h) : hR h (c + 185) 5 = some (c + 189) := L.2.1 (185, 5, 189) (by decide)
theorem lR185_6 {c : Nat} {h : MHp} (L : CL c h) : hR h (c + 185) 6 = some (c + 190) := L.2.1 (185, 6, 190) (by decide)
theorem lR185_7 {c : Nat} {h : MHp} (L : CL c h) : hR h (c + 185) 7 = some (c + 191) := L.2.1 (185, 7, 191) (by decide)
theorem lR192_0 {c : Nat} {h : MHp} (L : CL c h) : hR h (c + 192) 0 = some (c + 56) := L.2.1 (192, 0, 56) (by decide)
theorem lR192_1 {c : Nat} {h : MHp} (L : CL c h) : hR h (c + 192) 1 = some (c + 193) := L.2.1 (192, 1, 193) (by decide)
theorem lR194_0 {c : Nat} {h : MHp} (L : CL c h) : hR h (c + 194) 0 = some (c + 192) := L.2.1 (194, 0, 192) (by decide)
theorem lR194_4 {c : Nat} {h : MHp} (L : CL c h) : hR h (c + 194) 4 = some (c + 195) := L.2.1 (194, 4, 195) (by decide)
theorem lR194_5 {c : Nat} {h : MHp} (L : CL c h) : hR h (c + 194) 5 = some (c + 196) := L.2.1 (194, 5, 196) (by decide)
theorem lR194_6 {c : Nat} {h : MHp} (L : CL c h) : hR h (c + 194) 6 = some (c + 197) := L.2.1 (194, 6, 197) (by decide)
theorem lR198_0 {c : Nat} {h : MHp} (L : CL c h) : hR h (c + 198) 0 = some (c + 192) := L.2.1 (198, 0, 192) (by decide)
theorem lR198_1 {c : Nat} {h : MHp} (L : CL c h) : hR h (c + 198) 1 = some (c + 199) := L.2.1 (198, 1, 199) (by decide)
theorem lR200_0 {c : Nat} {h : MHp} (L : CL c h) : hR h (c + 200) 0 = some (c + 192) := L.2.1 (200, 0, 192) (by decide)
theorem lR200_1 {c : Nat} {h : MHp} (L : CL c h) : hR h (c + 200) 1 = some (c + 201) := L.2.1 (200, 1, 201) (by decide)
theorem lR200_2 {c : Nat} {h : MHp} (L : CL c h) : hR h (c + 200) 2 = some (c + 202) := L.2.1 (200, 2, 202) (by decide)
theorem lR200_3 {c : Nat} {h : MHp} (L : CL c h) : hR h (c + 200) 3 = some (c + 203) := L.2.1 (200, 3, 203) (by decide)
theorem lR200_4 {c : Nat} {h : MHp} (L : CL c h) : hR h (c + 200) 4 = some (c + 204) := L.2.1 (200, 4, 204) (by decide)
theorem lR200_5 {c : Nat} {h : MHp} (L : CL c h) : hR h (c + 200) 5 = some (c + 205) := L.2.1 (200, 5, 205) (by decide)
theorem lR206_1 {c : Nat} {h : MHp} (L : CL c h) : hR h (c + 206) 1 = some (c + 207) := L.2.1 (206, 1, 207) (by decide)
theorem qK0 {m : Nat} {h : MHp} (L : QL m h) : hK h m = 17 := (L.1 0 (by decide)).1
theorem qK1 {m : Nat} {h : MHp} (L : QL m h) : hK h (m + 1) = 26 := (L.1 1 (by decide)).1
theorem qN1 {m : Nat} {h : MHp} (L : QL m h) : hN h (m + 1) = 8 := (L.1 1 (by decide)).2
theorem qK2 {m : Nat} {h : MHp} (L : QL m h) : hK h (m + 2) = 14 := (L.1 2 (by decide)).1
theorem qK3 {m : Nat} {h : MHp} (L : QL m h) : hK h (m + 3) = 22 := (L.1 3 (by decide)).1
theorem qN3 {m : Nat} {h : MHp} (L : QL m h) : hN h (m + 3) = 500 := (L.1 3 (by decide)).2
theorem qK4 {m : Nat} {h : MHp} (L : QL m h) : hK h (m + 4) = 20 := (L.1 4 (by decide)).1
theorem qN4 {m : Nat} {h : MHp} (L : QL m h) : hN h (m + 4) = 360 := (L.1 4 (by decide)).2
theorem qK5 {m : Nat} {h : MHp} (L : QL m h) : hK h (m + 5) = 20 := (L.1 5 (by decide)).1
theorem qN5 {m : Nat} {h : MHp} (L : QL m h) : hN h (m + 5) = 360 := (L.1 5 (by decide)).2
theorem qK6 {m : Nat} {h : MHp} (L : QL m h) : hK h (m + 6) = 20 := (L.1 6 (by decide)).1
theorem qN6 {m : Nat} {h : MHp} (L : QL m h) : hN h (m + 6) = 1800 := (L.1 6 (by decide)).2
theorem qK7 {m : Nat} {h : MHp} (L : QL m h) : hK h (m + 7) = 20 := (L.1 7 (by decide)).1
theorem qN7 {m : Nat} {h : MHp} (L : QL m h) : hN h (m + 7) = 60 := (L.1 7 (by decide)).2
theorem qK8 {m : Nat} {h : MHp} (L : QL m h) : hK h (m + 8) = 20 := (L.1 8 (by decide)).1
theorem qN8 {m : Nat} {h : MHp} (L : QL m h) : hN h (m + 8) = 60 := (L.1 8 (by decide)).2
theorem qK9 {m : Nat} {h : MHp} (L : QL m h) : hK h (m + 9) = 20 := (L.1 9 (by decide)).1
theorem qN9 {m : Nat} {h : MHp} (L : QL m h) : hN h (m + 9) = 60 := (L.1 9 (by decide)).2
theorem qK10 {m : Nat} {h : MHp} (L : QL m h) : hK h (m + 10) = 20 := (L.1 10 (by decide)).1
theorem qN10 {m : Nat} {h : MHp} (L : QL m h) : hN h (m + 10) = 60 := (L.1 10 (by decide)).2
theorem qK11 {m : Nat} {h : MHp} (L : QL m h) : hK h (m + 11) = 20 := (L.1 11 (by decide)).1
theorem qN11 {m : Nat} {h : MHp} (L : QL m h) : hN h (m + 11) = 60 := (L.1 11 (by decide)).2
theorem qK12 {m : Nat} {h : MHp} (L : QL m h) : hK h (m + 12) = 20 := (L.1 12 (by decide)).1
theorem qN12 {m : Nat} {h : MHp} (L : QL m h) : hN h (m + 12) = 60 := (L.1 12 (by decide)).2
theorem qK13 {m : Nat} {h : MHp} (L : QL m h) : hK h (m + 13) = 20 := (L.1 13 (by decide)).1
theorem qN13 {m : Nat} {h : MHp} (L : QL m h) : hN h (m + 13) = 6 := (L.1 13 (by decide)).2
theorem qK14 {m : Nat} {h : MHp} (L : QL m h) : hK h (m + 14) = 20 := (L.1 14 (by decide)).1
theorem qN14 {m : Nat} {h : MHp} (L : QL m h) : hN h (m + 14) = 6 := (L.1 14 (by decide)).2
theorem qK15 {m : Nat} {h : MHp} (L : QL m h) : hK h (m + 15) = 20 := (L.1 15 (by decide)).1
theorem qN15 {m : Nat} {h : MHp} (L : QL m h) : hN h (m + 15) = 6 := (L.1 15 (by decide)).2
theorem qK16 {m : Nat} {h : MHp} (L : QL m h) : hK h (m + 16) = 20 := (L.1 16 (by decide)).1
theorem qN16 {m : Nat} {h : MHp} (L : QL m h) : hN h (m + 16) = 60 := (L.1 16 (by decide)).2
theorem qK17 {m : Nat} {h : MHp} (L : QL m h) : hK h (m + 17) = 20 := (L.1 17 (by decide)).1
theorem qN17 {m : Nat} {h : MHp} (L : QL m h) : hN h (m + 17) = 10 := (L.1 17 (by decide)).2
theorem qK18 {m : Nat} {h : MHp} (L : QL m h) : hK h (m + 18) = 20 := (L.1 18 (by decide)).1
theorem qN18 {m : Nat} {h : MHp} (L : QL m h) : hN h (m + 18) = 60 := (L.1 18 (by decide)).2
theorem qK19 {m : Nat} {h : MHp} (L : QL m h) : hK h (m + 19) = 20 := (L.1 19 (by decide)).1
theorem qN19 {m : Nat} {h : MHp} (L : QL m h) : hN h (m + 19) = 100 := (L.1 19 (by decide)).2
theorem qK20 {m : Nat} {h : MHp} (L : QL m h) : hK h (m + 20) = 20 := (L.1 20 (by decide)).1
theorem qN20 {m : Nat} {h : MHp} (L : QL m h) : hN h (m + 20) = 100 := (L.1 20 (by decide)).2
theorem qK21 {m : Nat} {h : MHp} (L : QL m h) : hK h (m + 21) = 20 := (L.1 21 (by decide)).1
theorem qN21 {m : Nat} {h : MHp} (L : QL m h) : hN h (m + 21) = 100 := (L.1 21 (by decide)).2
theorem qK22 {m : Nat} {h : MHp} (L : QL m h) : hK h (m + 22) = 20 := (L.1 22 (by decide)).1
theorem qN22 {m : Nat} {h : MHp} (L : QL m h) : hN h (m + 22) = 20 := (L.1 22 (by decide)).2
theorem qK23 {m : Nat} {h : MHp} (L : QL m h) : hK h (m + 23) = 20 := (L.1 23 (by decide)).1
theorem qN23 {m : Nat} {h : MHp} (L : QL m h) : hN h (m + 23) = 20 := (L.1 23 (by decide)).2
theorem qK24 {m : Nat} {h : MHp} (L : QL m h) : hK h (m + 24) = 20 := (L.1 24 (by decide)).1
theorem qN24 {m : Nat} {h : MHp} (L : QL m h) : hN h (m + 24) = 100 := (L.1 24 (by decide)).2
theorem qK25 {m : Nat} {h : MHp} (L : QL m h) : hK h (m + 25) = 21 := (L.1 25 (by decide)).1
theorem qN25 {m : Nat} {h : MHp} (L : QL m h) : hN h (m + 25) = 1 := (L.1 25 (by decide)).2
theorem qR6 {m : Nat} {h : MHp} (L : QL m h) : hR h m 6 = some (m + 1) := L.2 (0, 6, 1) (by decide)
theorem qR8 {m : Nat} {h : MHp} (L : QL m h) : hR h m 8 = some (m + 2) := L.2 (0, 8, 2) (by decide)
theorem qR9 {m : Nat} {h : MHp} (L : QL m h) : hR h m 9 = some (m + 3) := L.2 (0, 9, 3) (by decide)
theorem qR20 {m : Nat} {h : MHp} (L : QL m h) : hR h m 20 = some (m + 4) := L.2 (0, 20, 4) (by decide)
theorem qR21 {m : Nat} {h : MHp} (L : QL m h) : hR h m 21 = some (m + 5) := L.2 (0, 21, 5) (by decide)
theorem qR22 {m : Nat} {h : MHp} (L : QL m h) : hR h m 22 = some (m + 6) := L.2 (0, 22, 6) (by decide)
theorem qR23 {m : Nat} {h : MHp} (L : QL m h) : hR h m 23 = some (m + 7) := L.2 (0, 23, 7) (by decide)
theorem qR24 {m : Nat} {h : MHp} (L : QL m h) : hR h m 24 = some (m + 8) := L.2 (0, 24, 8) (by decide)
theorem qR25 {m : Nat} {h : MHp} (L : QL m h) : hR h m 25 = some (m + 9) := L.2 (0, 25, 9) (by decide)
theorem qR26 {m : Nat} {h : MHp} (L : QL m h) : hR h m 26 = some (m + 10) := L.2 (0, 26, 10) (by decide)
theorem qR27 {m : Nat} {h : MHp} (L : QL m h) : hR h m 27 = some (m + 11) := L.2 (0, 27, 11) (by decide)
theorem qR28 {m : Nat} {h : MHp} (L : QL m h) : hR h m 28 = some (m + 12) := L.2 (0, 28, 12) (by decide)
theorem qR29 {m : Nat} {h : MHp} (L : QL m h) : hR h m 29 = some (m + 13) := L.2 (0, 29, 13) (by decide)
theorem qR30 {m : Nat} {h : MHp} (L : QL m h) : hR h m 30 = some (m + 14) := L.2 (0, 30, 14) (by decide)
theorem qR31 {m : Nat} {h : MHp} (L : QL m h) : hR h m 31 = some (m + 15) := L.2 (0, 31, 15) (by decide)
theorem qR33 {m : Nat} {h : MHp} (L : QL m h) : hR h m 33 = some (m + 16) := L.2 (0, 33, 16) (by decide)
theorem qR35 {m : Nat} {h : MHp} (L : QL m h) : hR h m 35 = some (m + 17) := L.2 (0, 35, 17) (by decide)
theorem qR36 {m : Nat} {h : MHp} (L : QL m h) : hR h m 36 = some (m + 18) := L.2 (0, 36, 18) (by decide)
theorem qR42 {m : Nat} {h : MHp} (L : QL m h) : hR h m 42 = some (m + 19) := L.2 (0, 42, 19) (by decide)
theorem qR43 {m : Nat} {h : MHp} (L : QL m h) : hR h m 43 = some (m + 20) := L.2 (0, 43, 20) (by decide)
theorem qR44 {m : Nat} {h : MHp} (L : QL m h) : hR h m 44 = some (m + 21) := L.2 (0, 44, 21) (by decide)
theorem qR47 {m : Nat} {h : MHp} (L : QL m h) : hR h m 47 = some (m + 22) := L.2 (0, 47, 22) (by decide)
theorem qR48 {m : Nat} {h : MHp} (L : QL m h) : hR h m 48 = some (m + 23) := L.2 (0, 48, 23) (by decide)
theorem qR50 {m : Nat} {h : MHp} (L : QL m h) : hR h m 50 = some (m + 24) := L.2 (0, 50, 24) (by decide)
/-- a test of the class -/
def IsT (h : MHp) (t : Nat) : Prop := hK h t = 11 ∧ hR h t 0 = some (t + 1) ∧ hR h t 1 = some (t + 2) ∧ hR h t 2 = some (t + 3) ∧ hK h (t + 1) = 20 ∧ hK h (t + 2) = 20 ∧ hK h (t + 3) = 20 ∧ hN h (t + 1) = 12 ∧ hN h (t + 2) = 12 ∧ hN h (t + 3) = 12
/-- a book of the class -/
def IsB (h : MHp) (b : Nat) : Prop := hK h b = 2 ∧ hR h b 0 = some (b + 1) ∧ hR h b 1 = some (b + 2) ∧ hR h b 2 = some (b + 3) ∧ hR h b 3 = some (b + 4) ∧ hK h (b + 1) = 21 ∧ hK h (b + 2) = 20 ∧ hK h (b + 3) = 20 ∧ hK h (b + 4) = 25 ∧ hN h (b + 1) = 6 ∧ hN h (b + 2) = 6 ∧ hN h (b + 3) = 6 ∧ hN h (b + 4) = 12 ∧ ∀ k : Nat, k < 12 → hAR h (b + 4) k = some (b + 5 + 4 * k) ∧ IsT h (b + 5 + 4 * k)
/-- a plan of the class -/
def IsP (h : MHp) (p : Nat) : Prop := hK h p = 8 ∧ hR h p 0 = some (p + 1) ∧ hR h p 1 = some (p + 5) ∧ hR h p 2 = some (p + 6) ∧ hK h (p + 5) = 21 ∧ hK h (p + 6) = 21 ∧ hN h (p + 5) = 100 ∧ hN h (p + 6) = 100 ∧ IsT h (p + 1)
theorem CL.t {c t : Nat} {h : MHp} (L : CL c h) (h1 : (clK.getD t 0 = 11 ∧ clK.getD (t + 1) 0 = 20 ∧ clK.getD (t + 2) 0 = 20 ∧ clK.getD (t + 3) 0 = 20 ∧ clN.getD (t + 1) 0 = 12 ∧ clN.getD (t + 2) 0 = 12 ∧ clN.getD (t + 3) 0 = 12 ∧ (t, 0, t + 1) ∈ clR ∧ (t, 1, t + 2) ∈ clR ∧ (t, 2, t + 3) ∈ clR) ∧ t + 3 < 208) : IsT h (c + t) := by
  obtain ⟨⟨a1, a2, a3, a4, a5, a6, a7, a8, a9, a10⟩, a11⟩ := h1
  exact ⟨(L.1 t (by omega)).1.trans a1, L.2.1 _ a8, L.2.1 _ a9, L.2.1 _ a10, (L.1 (t + 1) (by omega)).1.trans a2, (L.1 (t + 2) (by omega)).1.trans a3, (L.1 (t + 3) (by omega)).1.trans a4, (L.1 (t + 1) (by omega)).2.trans a5, (L.1 (t + 2) (by omega)).2.trans a6, (L.1 (t + 3) (by omega)).2.trans a7⟩
theorem CL.b {c b : Nat} {h : MHp} (L : CL c h) (hb : b = 2 ∨ b = 57) : IsB h (c + b) := by
  have T : ∀ b : Nat, b = 2 ∨ b = 57 → ∀ k : Nat, k < 12 → ((clK.getD (b + 5 + 4 * k) 0 = 11 ∧ clK.getD (b + 5 + 4 * k + 1) 0 = 20 ∧ clK.getD (b + 5 + 4 * k + 2) 0 = 20 ∧ clK.getD (b + 5 + 4 * k + 3) 0 = 20 ∧ clN.getD (b + 5 + 4 * k + 1) 0 = 12 ∧ clN.getD (b + 5 + 4 * k + 2) 0 = 12 ∧ clN.getD (b + 5 + 4 * k + 3) 0 = 12 ∧ (b + 5 + 4 * k, 0, b + 5 + 4 * k + 1) ∈ clR ∧ (b + 5 + 4 * k, 1, b + 5 + 4 * k + 2) ∈ clR ∧ (b + 5 + 4 * k, 2, b + 5 + 4 * k + 3) ∈ clR) ∧ b + 5 + 4 * k + 3 < 208) ∧ (b + 4, k, b + 5 + 4 * k) ∈ clA := by
    intro b hb k hk
    rcases hb with rfl | rfl <;> rcases (show k = 0 ∨ k = 1 ∨ k = 2 ∨ k = 3 ∨ k = 4 ∨ k = 5 ∨ k = 6 ∨ k = 7 ∨ k = 8 ∨ k = 9 ∨ k = 10 ∨ k = 11 by omega) with rfl | rfl | rfl | rfl | rfl | rfl | rfl | rfl | rfl | rfl | rfl | rfl <;> refine ⟨⟨⟨?_, ?_, ?_, ?_, ?_, ?_, ?_, ?_, ?_, ?_⟩, ?_⟩, ?_⟩ <;> decide +kernel
  have T2 : ∀ k : Nat, k < 12 → hAR h (c + b + 4) k = some (c + b + 5 + 4 * k) ∧ IsT h (c + b + 5 + 4 * k) := by
    intro k hk
    obtain ⟨h1, h2⟩ := T b hb k hk
    have h3 := L.t h1
    have h4 := L.2.2 _ h2
    simp only [← Nat.add_assoc] at h3 h4
    exact ⟨h4, h3⟩
  rcases hb with rfl | rfl
  · exact ⟨(L.1 2 (by decide)).1, L.2.1 (2, 0, 3) (by decide), L.2.1 (2, 1, 4) (by decide), L.2.1 (2, 2, 5) (by decide), L.2.1 (2, 3, 6) (by decide), (L.1 3 (by decide)).1, (L.1 4 (by decide)).1, (L.1 5 (by decide)).1, (L.1 6 (by decide)).1, (L.1 3 (by decide)).2, (L.1 4 (by decide)).2, (L.1 5 (by decide)).2, (L.1 6 (by decide)).2, T2⟩
  · exact ⟨(L.1 57 (by decide)).1, L.2.1 (57, 0, 58) (by decide), L.2.1 (57, 1, 59) (by decide), L.2.1 (57, 2, 60) (by decide), L.2.1 (57, 3, 61) (by decide), (L.1 58 (by decide)).1, (L.1 59 (by decide)).1, (L.1 60 (by decide)).1, (L.1 61 (by decide)).1, (L.1 58 (by decide)).2, (L.1 59 (by decide)).2, (L.1 60 (by decide)).2, (L.1 61 (by decide)).2, T2⟩
theorem CL.p {c : Nat} {h : MHp} (L : CL c h) (k : Nat) (hk : k < 9) : IsP h (c + 120 + 7 * k) ∧ hAR h (c + 119) k = some (c + 120 + 7 * k) := by
  have T : ∀ k : Nat, k < 9 → ((clK.getD (120 + 7 * k + 1) 0 = 11 ∧ clK.getD (120 + 7 * k + 1 + 1) 0 = 20 ∧ clK.getD (120 + 7 * k + 1 + 2) 0 = 20 ∧ clK.getD (120 + 7 * k + 1 + 3) 0 = 20 ∧ clN.getD (120 + 7 * k + 1 + 1) 0 = 12 ∧ clN.getD (120 + 7 * k + 1 + 2) 0 = 12 ∧ clN.getD (120 + 7 * k + 1 + 3) 0 = 12 ∧ (120 + 7 * k + 1, 0, 120 + 7 * k + 1 + 1) ∈ clR ∧ (120 + 7 * k + 1, 1, 120 + 7 * k + 1 + 2) ∈ clR ∧ (120 + 7 * k + 1, 2, 120 + 7 * k + 1 + 3) ∈ clR) ∧ 120 + 7 * k + 1 + 3 < 208) ∧ (119, k, 120 + 7 * k) ∈ clA ∧ clK.getD (120 + 7 * k) 0 = 8 ∧ (120 + 7 * k, 0, 120 + 7 * k + 1) ∈ clR ∧ (120 + 7 * k, 1, 120 + 7 * k + 5) ∈ clR ∧ (120 + 7 * k, 2, 120 + 7 * k + 6) ∈ clR ∧ clK.getD (120 + 7 * k + 5) 0 = 21 ∧ clK.getD (120 + 7 * k + 6) 0 = 21 ∧ clN.getD (120 + 7 * k + 5) 0 = 100 ∧ clN.getD (120 + 7 * k + 6) 0 = 100 := by
    intro k hk
    rcases (show k = 0 ∨ k = 1 ∨ k = 2 ∨ k = 3 ∨ k = 4 ∨ k = 5 ∨ k = 6 ∨ k = 7 ∨ k = 8 by omega) with rfl | rfl | rfl | rfl | rfl | rfl | rfl | rfl | rfl <;> refine ⟨⟨⟨?_, ?_, ?_, ?_, ?_, ?_, ?_, ?_, ?_, ?_⟩, ?_⟩, ?_, ?_, ?_, ?_, ?_, ?_, ?_, ?_, ?_⟩ <;> decide +kernel
  obtain ⟨h1, h2, h3, h4, h5, h6, h7, h8, h9, h10⟩ := T k hk
  have i1 := L.t h1
  have i2 := L.2.2 _ h2
  have i3 := (L.1 (120 + 7 * k) (by omega)).1.trans h3
  have i4 := L.2.1 _ h4
  have i5 := L.2.1 _ h5
  have i6 := L.2.1 _ h6
  have i7 := (L.1 (120 + 7 * k + 5) (by omega)).1.trans h7
  have i8 := (L.1 (120 + 7 * k + 6) (by omega)).1.trans h8
  have i9 := (L.1 (120 + 7 * k + 5) (by omega)).2.trans h9
  have i10 := (L.1 (120 + 7 * k + 6) (by omega)).2.trans h10
  simp only [← Nat.add_assoc] at i1 i2 i3 i4 i5 i6 i7 i8 i9 i10
  exact ⟨⟨i3, i4, i5, i6, i7, i8, i9, i10, i1⟩, i2⟩
