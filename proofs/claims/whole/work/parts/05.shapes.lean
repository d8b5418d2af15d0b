def zNo : Nat → Option Nat := fun _ => none
def zshL : List zSp := [.inr (12, [some (some 1), some (some 4), some (some 14), some (some 29), some (some 44), some (some 166), some (some 229), some (some 240), some (some 245), some (some 250), some (some 255), some (some 256), some (some 261), some (some 262), none, none, none]), .inr (10, [some (some 2), none, some (some 3), none, none, none, none, some none, none, none, none]), .inl (3, 940, zNo), .inl (1, 22, zNo), .inr (4, [some (some 5), some (some 6), some (some 7), some (some 8), some (some 9), some (some 10), some (some 11), some (some 12), some (some 13), none, none, none]), .inl (0, 4, zNo), .inl (0, 5, zNo), .inl (0, 6, zNo), .inl (0, 6, zNo), .inl (0, 6, zNo), .inl (1, 6, zNo), .inl (1, 20, zNo), .inl (0, 20, zNo), .inl (0, 20, zNo), .inr (7, [some (some 4), none, none, some (some 15), some (some 16), some (some 17), some (some 18), some (some 19), some (some 26), some (some 27), some (some 28)]), .inl (0, 12, zNo), .inl (0, 12, zNo), .inl (0, 12, zNo), .inl (0, 12, zNo), .inl (7, 6, fun i => some (20 + i)), .inl (0, 12, zNo), .inl (0, 12, zNo), .inl (0, 12, zNo), .inl (0, 12, zNo), .inl (0, 12, zNo), .inl (0, 12, zNo), .inl (0, 6, zNo), .inl (0, 6, zNo), .inl (0, 6, zNo), .inr (7, [some (some 4), none, none, some (some 30), some (some 31), some (some 32), some (some 33), some (some 34), some (some 41), some (some 42), some (some 43)]), .inl (0, 12, zNo), .inl (0, 12, zNo), .inl (0, 12, zNo), .inl (0, 12, zNo), .inl (7, 6, fun i => some (35 + i)), .inl (0, 12, zNo), .inl (0, 12, zNo), .inl (0, 12, zNo), .inl (0, 12, zNo), .inl (0, 12, zNo), .inl (0, 12, zNo), .inl (0, 6, zNo), .inl (0, 6, zNo), .inl (0, 6, zNo), .inr (8, [some (some 45), none, none]), .inl (6, 8, fun i => some (46 + 15 * i)), .inr (7, [some (some 4), none, none, some (some 47), some (some 48), some (some 49), some (some 50), some (some 51), some (some 58), some (some 59), some (some 60)]), .inl (0, 12, zNo), .inl (0, 12, zNo), .inl (0, 12, zNo), .inl (0, 12, zNo), .inl (7, 6, fun i => some (52 + i)), .inl (0, 12, zNo), .inl (0, 12, zNo), .inl (0, 12, zNo), .inl (0, 12, zNo), .inl (0, 12, zNo), .inl (0, 12, zNo), .inl (0, 6, zNo), .inl (0, 6, zNo), .inl (0, 6, zNo), .inr (7, [some (some 4), none, none, some (some 62), some (some 63), some (some 64), some (some 65), some (some 66), some (some 73), some (some 74), some (some 75)]), .inl (0, 12, zNo), .inl (0, 12, zNo), .inl (0, 12, zNo), .inl (0, 12, zNo), .inl (7, 6, fun i => some (67 + i)), .inl (0, 12, zNo), .inl (0, 12, zNo), .inl (0, 12, zNo), .inl (0, 12, zNo), .inl (0, 12, zNo), .inl (0, 12, zNo), .inl (0, 6, zNo), .inl (0, 6, zNo), .inl (0, 6, zNo), .inr (7, [some (some 4), none, none, some (some 77), some (some 78), some (some 79), some (some 80), some (some 81), some (some 88), some (some 89), some (some 90)]), .inl (0, 12, zNo), .inl (0, 12, zNo), .inl (0, 12, zNo), .inl (0, 12, zNo), .inl (7, 6, fun i => some (82 + i)), .inl (0, 12, zNo), .inl (0, 12, zNo), .inl (0, 12, zNo), .inl (0, 12, zNo), .inl (0, 12, zNo), .inl (0, 12, zNo), .inl (0, 6, zNo), .inl (0, 6, zNo), .inl (0, 6, zNo), .inr (7, [some (some 4), none, none, some (some 92), some (some 93), some (some 94), some (some 95), some (some 96), some (some 103), some (some 104), some (some 105)]), .inl (0, 12, zNo), .inl (0, 12, zNo), .inl (0, 12, zNo), .inl (0, 12, zNo), .inl (7, 6, fun i => some (97 + i)), .inl (0, 12, zNo), .inl (0, 12, zNo), .inl (0, 12, zNo), .inl (0, 12, zNo), .inl (0, 12, zNo), .inl (0, 12, zNo), .inl (0, 6, zNo), .inl (0, 6, zNo), .inl (0, 6, zNo), .inr (7, [some (some 4), none, none, some (some 107), some (some 108), some (some 109), some (some 110), some (some 111), some (some 118), some (some 119), some (some 120)]), .inl (0, 12, zNo), .inl (0, 12, zNo), .inl (0, 12, zNo), .inl (0, 12, zNo), .inl (7, 6, fun i => some (112 + i)), .inl (0, 12, zNo), .inl (0, 12, zNo), .inl (0, 12, zNo), .inl (0, 12, zNo), .inl (0, 12, zNo), .inl (0, 12, zNo), .inl (0, 6, zNo), .inl (0, 6, zNo), .inl (0, 6, zNo), .inr (7, [some (some 4), none, none, some (some 122), some (some 123), some (some 124), some (some 125), some (some 126), some (some 133), some (some 134), some (some 135)]), .inl (0, 12, zNo), .inl (0, 12, zNo), .inl (0, 12, zNo), .inl (0, 12, zNo), .inl (7, 6, fun i => some (127 + i)), .inl (0, 12, zNo), .inl (0, 12, zNo), .inl (0, 12, zNo), .inl (0, 12, zNo), .inl (0, 12, zNo), .inl (0, 12, zNo), .inl (0, 6, zNo), .inl (0, 6, zNo), .inl (0, 6, zNo), .inr (7, [some (some 4), none, none, some (some 137), some (some 138), some (some 139), some (some 140), some (some 141), some (some 148), some (some 149), some (some 150)]), .inl (0, 12, zNo), .inl (0, 12, zNo), .inl (0, 12, zNo), .inl (0, 12, zNo), .inl (7, 6, fun i => some (142 + i)), .inl (0, 12, zNo), .inl (0, 12, zNo), .inl (0, 12, zNo), .inl (0, 12, zNo), .inl (0, 12, zNo), .inl (0, 12, zNo), .inl (0, 6, zNo), .inl (0, 6, zNo), .inl (0, 6, zNo), .inr (7, [some (some 4), none, none, some (some 152), some (some 153), some (some 154), some (some 155), some (some 156), some (some 163), some (some 164), some (some 165)]), .inl (0, 12, zNo), .inl (0, 12, zNo), .inl (0, 12, zNo), .inl (0, 12, zNo), .inl (7, 6, fun i => some (157 + i)), .inl (0, 12, zNo), .inl (0, 12, zNo), .inl (0, 12, zNo), .inl (0, 12, zNo), .inl (0, 12, zNo), .inl (0, 12, zNo), .inl (0, 6, zNo), .inl (0, 6, zNo), .inl (0, 6, zNo), .inl (5, 2, fun i => some (167 + 31 * i)), .inr (6, [some (some 168), some (some 178), some (some 193), none]), .inr (4, [some (some 169), some (some 170), some (some 171), some (some 172), some (some 173), some (some 174), some (some 175), some (some 176), some (some 177), none, none, none]), .inl (0, 4, zNo), .inl (0, 5, zNo), .inl (0, 6, zNo), .inl (0, 6, zNo), .inl (0, 6, zNo), .inl (1, 6, zNo), .inl (1, 20, zNo), .inl (0, 20, zNo), .inl (0, 20, zNo), .inr (7, [some (some 168), none, none, some (some 179), some (some 180), some (some 181), some (some 182), some (some 183), some (some 190), some (some 191), some (some 192)]), .inl (0, 12, zNo), .inl (0, 12, zNo), .inl (0, 12, zNo), .inl (0, 12, zNo), .inl (7, 6, fun i => some (184 + i)), .inl (0, 12, zNo), .inl (0, 12, zNo), .inl (0, 12, zNo), .inl (0, 12, zNo), .inl (0, 12, zNo), .inl (0, 12, zNo), .inl (0, 6, zNo), .inl (0, 6, zNo), .inl (0, 6, zNo), .inr (9, [some (some 194), some (some 195), some (some 196), some (some 197), none, none]), .inl (0, 40, zNo), .inl (0, 40, zNo), .inl (0, 40, zNo), .inl (0, 40, zNo), .inr (6, [some (some 199), some (some 209), some (some 224), none]), .inr (4, [some (some 200), some (some 201), some (some 202), some (some 203), some (some 204), some (some 205), some (some 206), some (some 207), some (some 208), none, none, none]), .inl (0, 4, zNo), .inl (0, 5, zNo), .inl (0, 6, zNo), .inl (0, 6, zNo), .inl (0, 6, zNo), .inl (1, 6, zNo), .inl (1, 20, zNo), .inl (0, 20, zNo), .inl (0, 20, zNo), .inr (7, [some (some 199), none, none, some (some 210), some (some 211), some (some 212), some (some 213), some (some 214), some (some 221), some (some 222), some (some 223)]), .inl (0, 12, zNo), .inl (0, 12, zNo), .inl (0, 12, zNo), .inl (0, 12, zNo), .inl (7, 6, fun i => some (215 + i)), .inl (0, 12, zNo), .inl (0, 12, zNo), .inl (0, 12, zNo), .inl (0, 12, zNo), .inl (0, 12, zNo), .inl (0, 12, zNo), .inl (0, 6, zNo), .inl (0, 6, zNo), .inl (0, 6, zNo), .inr (9, [some (some 225), some (some 226), some (some 227), some (some 228), none, none]), .inl (0, 40, zNo), .inl (0, 40, zNo), .inl (0, 40, zNo), .inl (0, 40, zNo), .inr (5, [some (some 1), some (some 230), none, none]), .inr (4, [some (some 231), some (some 232), some (some 233), some (some 234), some (some 235), some (some 236), some (some 237), some (some 238), some (some 239), none, none, none]), .inl (0, 4, zNo), .inl (0, 5, zNo), .inl (0, 6, zNo), .inl (0, 6, zNo), .inl (0, 6, zNo), .inl (1, 6, zNo), .inl (1, 20, zNo), .inl (0, 20, zNo), .inl (0, 20, zNo), .inr (1, [some (some 1), some (some 4), some (some 241), some (some 242), some (some 243), some (some 244), none, none, none, none, none]), .inl (0, 40, zNo), .inl (0, 40, zNo), .inl (0, 40, zNo), .inl (0, 40, zNo), .inr (9, [some (some 246), some (some 247), some (some 248), some (some 249), none, none]), .inl (0, 40, zNo), .inl (0, 40, zNo), .inl (0, 40, zNo), .inl (0, 40, zNo), .inr (9, [some (some 251), some (some 252), some (some 253), some (some 254), none, none]), .inl (0, 40, zNo), .inl (0, 40, zNo), .inl (0, 40, zNo), .inl (0, 40, zNo), .inr (3, [some (some 4), some (some 14), none, none, none]), .inr (11, [some (some 257), some (some 258), some (some 259), some (some 260), none]), .inl (0, 160, zNo), .inl (0, 160, zNo), .inl (2, 160, zNo), .inl (0, 160, zNo), .inr (2, [none])]
def zsh (k : Nat) : zSp := zshL.getD k (.inl (0, 0, zNo))
def zshML : List zSp := [.inr (13, [none, some (some 1), none, none, none, none, none, none, none, none, none, none, some none, none, some (some 2), some (some 3), some (some 4), some (some 5), some (some 6), some (some 7), some (some 8), some (some 9), some (some 10), some (some 11), none, none, none, some (some 12), some (some 13), none, some (some 14), none, none, some (some 15), none, none, some (some 16), some (some 17), none, none, some (some 18), none, none, none, none]), .inl (0, 940, zNo), .inl (0, 406, zNo), .inl (0, 24, zNo), .inl (0, 812, zNo), .inl (0, 1120, zNo), .inl (0, 140, zNo), .inl (1, 20, zNo), .inl (1, 20, zNo), .inl (1, 40, zNo), .inl (2, 2, zNo), .inl (2, 2, zNo), .inl (0, 160, zNo), .inl (0, 32, zNo), .inl (0, 3, zNo), .inl (0, 64, zNo), .inl (0, 160, zNo), .inl (0, 4, zNo), .inl (0, 240, zNo)]
def zshM (k : Nat) : zSp := zshML.getD k (.inl (0, 0, zNo))
abbrev zNC : Nat := 262
abbrev zNM : Nat := 19
theorem sC_0 : zsh 0 = .inr (12, [some (some 1), some (some 4), some (some 14), some (some 29), some (some 44), some (some 166), some (some 229), some (some 240), some (some 245), some (some 250), some (some 255), some (some 256), some (some 261), some (some 262), none, none, none]) := rfl
theorem nC_0 : 0 < zNC := by decide
theorem sC_1 : zsh 1 = .inr (10, [some (some 2), none, some (some 3), none, none, none, none, some none, none, none, none]) := rfl
theorem nC_1 : 1 < zNC := by decide
theorem sC_2 : zsh 2 = .inl (3, 940, zNo) := rfl
theorem nC_2 : 2 < zNC := by decide
theorem sC_3 : zsh 3 = .inl (1, 22, zNo) := rfl
theorem nC_3 : 3 < zNC := by decide
theorem sC_4 : zsh 4 = .inr (4, [some (some 5), some (some 6), some (some 7), some (some 8), some (some 9), some (some 10), some (some 11), some (some 12), some (some 13), none, none, none]) := rfl
theorem nC_4 : 4 < zNC := by decide
theorem sC_5 : zsh 5 = .inl (0, 4, zNo) := rfl
theorem nC_5 : 5 < zNC := by decide
theorem sC_6 : zsh 6 = .inl (0, 5, zNo) := rfl
theorem nC_6 : 6 < zNC := by decide
theorem sC_7 : zsh 7 = .inl (0, 6, zNo) := rfl
theorem nC_7 : 7 < zNC := by decide
theorem sC_8 : zsh 8 = .inl (0, 6, zNo) := rfl
theorem nC_8 : 8 < zNC := by decide
theorem sC_9 : zsh 9 = .inl (0, 6, zNo) := rfl
theorem nC_9 : 9 < zNC := by decide
theorem sC_10 : zsh 10 = .inl (1, 6, zNo) := rfl
theorem nC_10 : 10 < zNC := by decide
theorem sC_11 : zsh 11 = .inl (1, 20, zNo) := rfl
theorem nC_11 : 11 < zNC := by decide
theorem sC_12 : zsh 12 = .inl (0, 20, zNo) := rfl
theorem nC_12 : 12 < zNC := by decide
theorem sC_13 : zsh 13 = .inl (0, 20, zNo) := rfl
theorem nC_13 : 13 < zNC := by decide
theorem sC_14 : zsh 14 = .inr (7, [some (some 4), none, none, some (some 15), some (some 16), some (some 17), some (some 18), some (some 19), some (some 26), some (some 27), some (some 28)]) := rfl
theorem nC_14 : 14 < zNC := by decide
theorem sC_15 : zsh 15 = .inl (0, 12, zNo) := rfl
theorem nC_15 : 15 < zNC := by decide
theorem sC_16 : zsh 16 = .inl (0, 12, zNo) := rfl
theorem nC_16 : 16 < zNC := by decide
theorem sC_17 : zsh 17 = .inl (0, 12, zNo) := rfl
theorem nC_17 : 17 < zNC := by decide
theorem sC_18 : zsh 18 = .inl (0, 12, zNo) := rfl
theorem nC_18 : 18 < zNC := by decide
theorem sC_19 : zsh 19 = .inl (7, 6, fun i => some (20 + i)) := rfl
theorem nC_19 : 19 < zNC := by decide
theorem sC_20 : zsh 20 = .inl (0, 12, zNo) := rfl
theorem nC_20 : 20 < zNC := by decide
theorem sC_21 : zsh 21 = .inl (0, 12, zNo) := rfl
theorem nC_21 : 21 < zNC := by decide
theorem sC_22 : zsh 22 = .inl (0, 12, zNo) := rfl
theorem nC_22 : 22 < zNC := by decide
theorem sC_23 : zsh 23 = .inl (0, 12, zNo) := rfl
theorem nC_23 : 23 < zNC := by decide
theorem sC_24 : zsh 24 = .inl (0, 12, zNo) := rfl
theorem nC_24 : 24 < zNC := by decide
theorem sC_25 : zsh 25 = .inl (0, 12, zNo) := rfl
theorem nC_25 : 25 < zNC := by decide
theorem sC_26 : zsh 26 = .inl (0, 6, zNo) := rfl
theorem nC_26 : 26 < zNC := by decide
theorem sC_27 : zsh 27 = .inl (0, 6, zNo) := rfl
theorem nC_27 : 27 < zNC := by decide
theorem sC_28 : zsh 28 = .inl (0, 6, zNo) := rfl
theorem nC_28 : 28 < zNC := by decide
theorem sC_29 : zsh 29 = .inr (7, [some (some 4), none, none, some (some 30), some (some 31), some (some 32), some (some 33), some (some 34), some (some 41), some (some 42), some (some 43)]) := rfl
theorem nC_29 : 29 < zNC := by decide
theorem sC_30 : zsh 30 = .inl (0, 12, zNo) := rfl
theorem nC_30 : 30 < zNC := by decide
theorem sC_31 : zsh 31 = .inl (0, 12, zNo) := rfl
theorem nC_31 : 31 < zNC := by decide
theorem sC_32 : zsh 32 = .inl (0, 12, zNo) := rfl
theorem nC_32 : 32 < zNC := by decide
theorem sC_33 : zsh 33 = .inl (0, 12, zNo) := rfl
theorem nC_33 : 33 < zNC := by decide
theorem sC_34 : zsh 34 = .inl (7, 6, fun i => some (35 + i)) := rfl
theorem nC_34 : 34 < zNC := by decide
theorem sC_35 : zsh 35 = .inl (0, 12, zNo) := rfl
theorem nC_35 : 35 < zNC := by decide
theorem sC_36 : zsh 36 = .inl (0, 12, zNo) := rfl
theorem nC_36 : 36 < zNC := by decide
theorem sC_37 : zsh 37 = .inl (0, 12, zNo) := rfl
theorem nC_37 : 37 < zNC := by decide
theorem sC_38 : zsh 38 = .inl (0, 12, zNo) := rfl
theorem nC_38 : 38 < zNC := by decide
theorem sC_39 : zsh 39 = .inl (0, 12, zNo) := rfl
theorem nC_39 : 39 < zNC := by decide
theorem sC_40 : zsh 40 = .inl (0, 12, zNo) := rfl
theorem nC_40 : 40 < zNC := by decide
theorem sC_41 : zsh 41 = .inl (0, 6, zNo) := rfl
theorem nC_41 : 41 < zNC := by decide
theorem sC_42 : zsh 42 = .inl (0, 6, zNo) := rfl
theorem nC_42 : 42 < zNC := by decide
theorem sC_43 : zsh 43 = .inl (0, 6, zNo) := rfl
theorem nC_43 : 43 < zNC := by decide
theorem sC_44 : zsh 44 = .inr (8, [some (some 45), none, none]) := rfl
theorem nC_44 : 44 < zNC := by decide
theorem sC_45 : zsh 45 = .inl (6, 8, fun i => some (46 + 15 * i)) := rfl
theorem nC_45 : 45 < zNC := by decide
theorem sC_46 : zsh 46 = .inr (7, [some (some 4), none, none, some (some 47), some (some 48), some (some 49), some (some 50), some (some 51), some (some 58), some (some 59), some (some 60)]) := rfl
theorem nC_46 : 46 < zNC := by decide
theorem sC_47 : zsh 47 = .inl (0, 12, zNo) := rfl
theorem nC_47 : 47 < zNC := by decide
theorem sC_48 : zsh 48 = .inl (0, 12, zNo) := rfl
theorem nC_48 : 48 < zNC := by decide
theorem sC_49 : zsh 49 = .inl (0, 12, zNo) := rfl
theorem nC_49 : 49 < zNC := by decide
theorem sC_50 : zsh 50 = .inl (0, 12, zNo) := rfl
theorem nC_50 : 50 < zNC := by decide
theorem sC_51 : zsh 51 = .inl (7, 6, fun i => some (52 + i)) := rfl
theorem nC_51 : 51 < zNC := by decide
theorem sC_52 : zsh 52 = .inl (0, 12, zNo) := rfl
theorem nC_52 : 52 < zNC := by decide
theorem sC_53 : zsh 53 = .inl (0, 12, zNo) := rfl
theorem nC_53 : 53 < zNC := by decide
theorem sC_54 : zsh 54 = .inl (0, 12, zNo) := rfl
theorem nC_54 : 54 < zNC := by decide
theorem sC_55 : zsh 55 = .inl (0, 12, zNo) := rfl
theorem nC_55 : 55 < zNC := by decide
theorem sC_56 : zsh 56 = .inl (0, 12, zNo) := rfl
theorem nC_56 : 56 < zNC := by decide
theorem sC_57 : zsh 57 = .inl (0, 12, zNo) := rfl
theorem nC_57 : 57 < zNC := by decide
theorem sC_58 : zsh 58 = .inl (0, 6, zNo) := rfl
theorem nC_58 : 58 < zNC := by decide
theorem sC_59 : zsh 59 = .inl (0, 6, zNo) := rfl
theorem nC_59 : 59 < zNC := by decide
theorem sC_60 : zsh 60 = .inl (0, 6, zNo) := rfl
theorem nC_60 : 60 < zNC := by decide
theorem sC_61 : zsh 61 = .inr (7, [some (some 4), none, none, some (some 62), some (some 63), some (some 64), some (some 65), some (some 66), some (some 73), some (some 74), some (some 75)]) := rfl
theorem nC_61 : 61 < zNC := by decide
theorem sC_62 : zsh 62 = .inl (0, 12, zNo) := rfl
theorem nC_62 : 62 < zNC := by decide
theorem sC_63 : zsh 63 = .inl (0, 12, zNo) := rfl
theorem nC_63 : 63 < zNC := by decide
theorem sC_64 : zsh 64 = .inl (0, 12, zNo) := rfl
theorem nC_64 : 64 < zNC := by decide
theorem sC_65 : zsh 65 = .inl (0, 12, zNo) := rfl
theorem nC_65 : 65 < zNC := by decide
theorem sC_66 : zsh 66 = .inl (7, 6, fun i => some (67 + i)) := rfl
theorem nC_66 : 66 < zNC := by decide
theorem sC_67 : zsh 67 = .inl (0, 12, zNo) := rfl
theorem nC_67 : 67 < zNC := by decide
theorem sC_68 : zsh 68 = .inl (0, 12, zNo) := rfl
theorem nC_68 : 68 < zNC := by decide
theorem sC_69 : zsh 69 = .inl (0, 12, zNo) := rfl
theorem nC_69 : 69 < zNC := by decide
theorem sC_70 : zsh 70 = .inl (0, 12, zNo) := rfl
theorem nC_70 : 70 < zNC := by decide
theorem sC_71 : zsh 71 = .inl (0, 12, zNo) := rfl
theorem nC_71 : 71 < zNC := by decide
theorem sC_72 : zsh 72 = .inl (0, 12, zNo) := rfl
theorem nC_72 : 72 < zNC := by decide
theorem sC_73 : zsh 73 = .inl (0, 6, zNo) := rfl
theorem nC_73 : 73 < zNC := by decide
theorem sC_74 : zsh 74 = .inl (0, 6, zNo) := rfl
theorem nC_74 : 74 < zNC := by decide
theorem sC_75 : zsh 75 = .inl (0, 6, zNo) := rfl
theorem nC_75 : 75 < zNC := by decide
theorem sC_76 : zsh 76 = .inr (7, [some (some 4), none, none, some (some 77), some (some 78), some (some 79), some (some 80), some (some 81), some (some 88), some (some 89), some (some 90)]) := rfl
theorem nC_76 : 76 < zNC := by decide
theorem sC_77 : zsh 77 = .inl (0, 12, zNo) := rfl
theorem nC_77 : 77 < zNC := by decide
theorem sC_78 : zsh 78 = .inl (0, 12, zNo) := rfl
theorem nC_78 : 78 < zNC := by decide
theorem sC_79 : zsh 79 = .inl (0, 12, zNo) := rfl
theorem nC_79 : 79 < zNC := by decide
theorem sC_80 : zsh 80 = .inl (0, 12, zNo) := rfl
theorem nC_80 : 80 < zNC := by decide
theorem sC_81 : zsh 81 = .inl (7, 6, fun i => some (82 + i)) := rfl
theorem nC_81 : 81 < zNC := by decide
theorem sC_82 : zsh 82 = .inl (0, 12, zNo) := rfl
theorem nC_82 : 82 < zNC := by decide
theorem sC_83 : zsh 83 = .inl (0, 12, zNo) := rfl
theorem nC_83 : 83 < zNC := by decide
theorem sC_84 : zsh 84 = .inl (0, 12, zNo) := rfl
theorem nC_84 : 84 < zNC := by decide
theorem sC_85 : zsh 85 = .inl (0, 12, zNo) := rfl
theorem nC_85 : 85 < zNC := by decide
theorem sC_86 : zsh 86 = .inl (0, 12, zNo) := rfl
theorem nC_86 : 86 < zNC := by decide
theorem sC_87 : zsh 87 = .inl (0, 12, zNo) := rfl
theorem nC_87 : 87 < zNC := by decide
theorem sC_88 : zsh 88 = .inl (0, 6, zNo) := rfl
theorem nC_88 : 88 < zNC := by decide
theorem sC_89 : zsh 89 = .inl (0, 6, zNo) := rfl
theorem nC_89 : 89 < zNC := by decide
theorem sC_90 : zsh 90 = .inl (0, 6, zNo) := rfl
theorem nC_90 : 90 < zNC := by decide
theorem sC_91 : zsh 91 = .inr (7, [some (some 4), none, none, some (some 92), some (some 93), some (some 94), some (some 95), some (some 96), some (some 103), some (some 104), some (some 105)]) := rfl
theorem nC_91 : 91 < zNC := by decide
theorem sC_92 : zsh 92 = .inl (0, 12, zNo) := rfl
theorem nC_92 : 92 < zNC := by decide
theorem sC_93 : zsh 93 = .inl (0, 12, zNo) := rfl
theorem nC_93 : 93 < zNC := by decide
theorem sC_94 : zsh 94 = .inl (0, 12, zNo) := rfl
theorem nC_94 : 94 < zNC := by decide
theorem sC_95 : zsh 95 = .inl (0, 12, zNo) := rfl
theorem nC_95 : 95 < zNC := by decide
theorem sC_96 : zsh 96 = .inl (7, 6, fun i => some (97 + i)) := rfl
theorem nC_96 : 96 < zNC := by decide
theorem sC_97 : zsh 97 = .inl (0, 12, zNo) := rfl
theorem nC_97 : 97 < zNC := by decide
theorem sC_98 : zsh 98 = .inl (0, 12, zNo) := rfl
theorem nC_98 : 98 < zNC := by decide
theorem sC_99 : zsh 99 = .inl (0, 12, zNo) := rfl
theorem nC_99 : 99 < zNC := by decide
theorem sC_100 : zsh 100 = .inl (0, 12, zNo) := rfl
theorem nC_100 : 100 < zNC := by decide
theorem sC_101 : zsh 101 = .inl (0, 12, zNo) := rfl
theorem nC_101 : 101 < zNC := by decide
theorem sC_102 : zsh 102 = .inl (0, 12, zNo) := rfl
theorem nC_102 : 102 < zNC := by decide
theorem sC_103 : zsh 103 = .inl (0, 6, zNo) := rfl
theorem nC_103 : 103 < zNC := by decide
theorem sC_104 : zsh 104 = .inl (0, 6, zNo) := rfl
theorem nC_104 : 104 < zNC := by decide
theorem sC_105 : zsh 105 = .inl (0, 6, zNo) := rfl
theorem nC_105 : 105 < zNC := by decide
theorem sC_106 : zsh 106 = .inr (7, [some (some 4), none, none, some (some 107), some (some 108), some (some 109), some (some 110), some (some 111), some (some 118), some (some 119), some (some 120)]) := rfl
theorem nC_106 : 106 < zNC := by decide
theorem sC_107 : zsh 107 = .inl (0, 12, zNo) := rfl
theorem nC_107 : 107 < zNC := by decide
theorem sC_108 : zsh 108 = .inl (0, 12, zNo) := rfl
theorem nC_108 : 108 < zNC := by decide
theorem sC_109 : zsh 109 = .inl (0, 12, zNo) := rfl
theorem nC_109 : 109 < zNC := by decide
theorem sC_110 : zsh 110 = .inl (0, 12, zNo) := rfl
theorem nC_110 : 110 < zNC := by decide
theorem sC_111 : zsh 111 = .inl (7, 6, fun i => some (112 + i)) := rfl
theorem nC_111 : 111 < zNC := by decide
theorem sC_112 : zsh 112 = .inl (0, 12, zNo) := rfl
theorem nC_112 : 112 < zNC := by decide
theorem sC_113 : zsh 113 = .inl (0, 12, zNo) := rfl
theorem nC_113 : 113 < zNC := by decide
theorem sC_114 : zsh 114 = .inl (0, 12, zNo) := rfl
theorem nC_114 : 114 < zNC := by decide
theorem sC_115 : zsh 115 = .inl (0, 12, zNo) := rfl
theorem nC_115 : 115 < zNC := by decide
theorem sC_116 : zsh 116 = .inl (0, 12, zNo) := rfl
theorem nC_116 : 116 < zNC := by decide
theorem sC_117 : zsh 117 = .inl (0, 12, zNo) := rfl
theorem nC_117 : 117 < zNC := by decide
theorem sC_118 : zsh 118 = .inl (0, 6, zNo) := rfl
theorem nC_118 : 118 < zNC := by decide
theorem sC_119 : zsh 119 = .inl (0, 6, zNo) := rfl
theorem nC_119 : 119 < zNC := by decide
theorem sC_120 : zsh 120 = .inl (0, 6, zNo) := rfl
theorem nC_120 : 120 < zNC := by decide
theorem sC_121 : zsh 121 = .inr (7, [some (some 4), none, none, some (some 122), some (some 123), some (some 124), some (some 125), some (some 126), some (some 133), some (some 134), some (some 135)]) := rfl
theorem nC_121 : 121 < zNC := by decide
theorem sC_122 : zsh 122 = .inl (0, 12, zNo) := rfl
theorem nC_122 : 122 < zNC := by decide
theorem sC_123 : zsh 123 = .inl (0, 12, zNo) := rfl
theorem nC_123 : 123 < zNC := by decide
theorem sC_124 : zsh 124 = .inl (0, 12, zNo) := rfl
theorem nC_124 : 124 < zNC := by decide
theorem sC_125 : zsh 125 = .inl (0, 12, zNo) := rfl
theorem nC_125 : 125 < zNC := by decide
theorem sC_126 : zsh 126 = .inl (7, 6, fun i => some (127 + i)) := rfl
theorem nC_126 : 126 < zNC := by decide
theorem sC_127 : zsh 127 = .inl (0, 12, zNo) := rfl
theorem nC_127 : 127 < zNC := by decide
theorem sC_128 : zsh 128 = .inl (0, 12, zNo) := rfl
theorem nC_128 : 128 < zNC := by decide
theorem sC_129 : zsh 129 = .inl (0, 12, zNo) := rfl
theorem nC_129 : 129 < zNC := by decide
theorem sC_130 : zsh 130 = .inl (0, 12, zNo) := rfl
theorem nC_130 : 130 < zNC := by decide
theorem sC_131 : zsh 131 = .inl (0, 12, zNo) := rfl
theorem nC_131 : 131 < zNC := by decide
theorem sC_132 : zsh 132 = .inl (0, 12, zNo) := rfl
theorem nC_132 : 132 < zNC := by decide
theorem sC_133 : zsh 133 = .inl (0, 6, zNo) := rfl
theorem nC_133 : 133 < zNC := by decide
theorem sC_134 : zsh 134 = .inl (0, 6, zNo) := rfl
theorem nC_134 : 134 < zNC := by decide
theorem sC_135 : zsh 135 = .inl (0, 6, zNo) := rfl
theorem nC_135 : 135 < zNC := by decide
theorem sC_136 : zsh 136 = .inr (7, [some (some 4), none, none, some (some 137), some (some 138), some (some 139), some (some 140), some (some 141), some (some 148), some (some 149), some (some 150)]) := rfl
theorem nC_136 : 136 < zNC := by decide
theorem sC_137 : zsh 137 = .inl (0, 12, zNo) := rfl
theorem nC_137 : 137 < zNC := by decide
theorem sC_138 : zsh 138 = .inl (0, 12, zNo) := rfl
theorem nC_138 : 138 < zNC := by decide
theorem sC_139 : zsh 139 = .inl (0, 12, zNo) := rfl
theorem nC_139 : 139 < zNC := by decide
theorem sC_140 : zsh 140 = .inl (0, 12, zNo) := rfl
theorem nC_140 : 140 < zNC := by decide
theorem sC_141 : zsh 141 = .inl (7, 6, fun i => some (142 + i)) := rfl
theorem nC_141 : 141 < zNC := by decide
theorem sC_142 : zsh 142 = .inl (0, 12, zNo) := rfl
theorem nC_142 : 142 < zNC := by decide
theorem sC_143 : zsh 143 = .inl (0, 12, zNo) := rfl
theorem nC_143 : 143 < zNC := by decide
theorem sC_144 : zsh 144 = .inl (0, 12, zNo) := rfl
theorem nC_144 : 144 < zNC := by decide
theorem sC_145 : zsh 145 = .inl (0, 12, zNo) := rfl
theorem nC_145 : 145 < zNC := by decide
theorem sC_146 : zsh 146 = .inl (0, 12, zNo) := rfl
theorem nC_146 : 146 < zNC := by decide
theorem sC_147 : zsh 147 = .inl (0, 12, zNo) := rfl
theorem nC_147 : 147 < zNC := by decide
theorem sC_148 : zsh 148 = .inl (0, 6, zNo) := rfl
theorem nC_148 : 148 < zNC := by decide
theorem sC_149 : zsh 149 = .inl (0, 6, zNo) := rfl
theorem nC_149 : 149 < zNC := by decide
theorem sC_150 : zsh 150 = .inl (0, 6, zNo) := rfl
theorem nC_150 : 150 < zNC := by decide
theorem sC_151 : zsh 151 = .inr (7, [some (some 4), none, none, some (some 152), some (some 153), some (some 154), some (some 155), some (some 156), some (some 163), some (some 164), some (some 165)]) := rfl
theorem nC_151 : 151 < zNC := by decide
theorem sC_152 : zsh 152 = .inl (0, 12, zNo) := rfl
theorem nC_152 : 152 < zNC := by decide
theorem sC_153 : zsh 153 = .inl (0, 12, zNo) := rfl
theorem nC_153 : 153 < zNC := by decide
theorem sC_154 : zsh 154 = .inl (0, 12, zNo) := rfl
theorem nC_154 : 154 < zNC := by decide
theorem sC_155 : zsh 155 = .inl (0, 12, zNo) := rfl
theorem nC_155 : 155 < zNC := by decide
theorem sC_156 : zsh 156 = .inl (7, 6, fun i => some (157 + i)) := rfl
theorem nC_156 : 156 < zNC := by decide
theorem sC_157 : zsh 157 = .inl (0, 12, zNo) := rfl
theorem nC_157 : 157 < zNC := by decide
theorem sC_158 : zsh 158 = .inl (0, 12, zNo) := rfl
theorem nC_158 : 158 < zNC := by decide
theorem sC_159 : zsh 159 = .inl (0, 12, zNo) := rfl
theorem nC_159 : 159 < zNC := by decide
theorem sC_160 : zsh 160 = .inl (0, 12, zNo) := rfl
theorem nC_160 : 160 < zNC := by decide
theorem sC_161 : zsh 161 = .inl (0, 12, zNo) := rfl
theorem nC_161 : 161 < zNC := by decide
theorem sC_162 : zsh 162 = .inl (0, 12, zNo) := rfl
theorem nC_162 : 162 < zNC := by decide
theorem sC_163 : zsh 163 = .inl (0, 6, zNo) := rfl
theorem nC_163 : 163 < zNC := by decide
theorem sC_164 : zsh 164 = .inl (0, 6, zNo) := rfl
theorem nC_164 : 164 < zNC := by decide
theorem sC_165 : zsh 165 = .inl (0, 6, zNo) := rfl
theorem nC_165 : 165 < zNC := by decide
theorem sC_166 : zsh 166 = .inl (5, 2, fun i => some (167 + 31 * i)) := rfl
theorem nC_166 : 166 < zNC := by decide
theorem sC_167 : zsh 167 = .inr (6, [some (some 168), some (some 178), some (some 193), none]) := rfl
theorem nC_167 : 167 < zNC := by decide
theorem sC_168 : zsh 168 = .inr (4, [some (some 169), some (some 170), some (some 171), some (some 172), some (some 173), some (some 174), some (some 175), some (some 176), some (some 177), none, none, none]) := rfl
theorem nC_168 : 168 < zNC := by decide
theorem sC_169 : zsh 169 = .inl (0, 4, zNo) := rfl
theorem nC_169 : 169 < zNC := by decide
theorem sC_170 : zsh 170 = .inl (0, 5, zNo) := rfl
theorem nC_170 : 170 < zNC := by decide
theorem sC_171 : zsh 171 = .inl (0, 6, zNo) := rfl
theorem nC_171 : 171 < zNC := by decide
theorem sC_172 : zsh 172 = .inl (0, 6, zNo) := rfl
theorem nC_172 : 172 < zNC := by decide
theorem sC_173 : zsh 173 = .inl (0, 6, zNo) := rfl
theorem nC_173 : 173 < zNC := by decide
theorem sC_174 : zsh 174 = .inl (1, 6, zNo) := rfl
theorem nC_174 : 174 < zNC := by decide
theorem sC_175 : zsh 175 = .inl (1, 20, zNo) := rfl
theorem nC_175 : 175 < zNC := by decide
theorem sC_176 : zsh 176 = .inl (0, 20, zNo) := rfl
theorem nC_176 : 176 < zNC := by decide
theorem sC_177 : zsh 177 = .inl (0, 20, zNo) := rfl
theorem nC_177 : 177 < zNC := by decide
theorem sC_178 : zsh 178 = .inr (7, [some (some 168), none, none, some (some 179), some (some 180), some (some 181), some (some 182), some (some 183), some (some 190), some (some 191), some (some 192)]) := rfl
theorem nC_178 : 178 < zNC := by decide
theorem sC_179 : zsh 179 = .inl (0, 12, zNo) := rfl
theorem nC_179 : 179 < zNC := by decide
theorem sC_180 : zsh 180 = .inl (0, 12, zNo) := rfl
theorem nC_180 : 180 < zNC := by decide
theorem sC_181 : zsh 181 = .inl (0, 12, zNo) := rfl
theorem nC_181 : 181 < zNC := by decide
theorem sC_182 : zsh 182 = .inl (0, 12, zNo) := rfl
theorem nC_182 : 182 < zNC := by decide
theorem sC_183 : zsh 183 = .inl (7, 6, fun i => some (184 + i)) := rfl
theorem nC_183 : 183 < zNC := by decide
theorem sC_184 : zsh 184 = .inl (0, 12, zNo) := rfl
theorem nC_184 : 184 < zNC := by decide
theorem sC_185 : zsh 185 = .inl (0, 12, zNo) := rfl
theorem nC_185 : 185 < zNC := by decide
theorem sC_186 : zsh 186 = .inl (0, 12, zNo) := rfl
theorem nC_186 : 186 < zNC := by decide
theorem sC_187 : zsh 187 = .inl (0, 12, zNo) := rfl
theorem nC_187 : 187 < zNC := by decide
theorem sC_188 : zsh 188 = .inl (0, 12, zNo) := rfl
theorem nC_188 : 188 < zNC := by decide
theorem sC_189 : zsh 189 = .inl (0, 12, zNo) := rfl
theorem nC_189 : 189 < zNC := by decide
theorem sC_190 : zsh 190 = .inl (0, 6, zNo) := rfl
theorem nC_190 : 190 < zNC := by decide
theorem sC_191 : zsh 191 = .inl (0, 6, zNo) := rfl
theorem nC_191 : 191 < zNC := by decide
theorem sC_192 : zsh 192 = .inl (0, 6, zNo) := rfl
theorem nC_192 : 192 < zNC := by decide
theorem sC_193 : zsh 193 = .inr (9, [some (some 194), some (some 195), some (some 196), some (some 197), none, none]) := rfl
theorem nC_193 : 193 < zNC := by decide
theorem sC_194 : zsh 194 = .inl (0, 40, zNo) := rfl
theorem nC_194 : 194 < zNC := by decide
theorem sC_195 : zsh 195 = .inl (0, 40, zNo) := rfl
theorem nC_195 : 195 < zNC := by decide
theorem sC_196 : zsh 196 = .inl (0, 40, zNo) := rfl
theorem nC_196 : 196 < zNC := by decide
theorem sC_197 : zsh 197 = .inl (0, 40, zNo) := rfl
theorem nC_197 : 197 < zNC := by decide
theorem sC_198 : zsh 198 = .inr (6, [some (some 199), some (some 209), some (some 224), none]) := rfl
theorem nC_198 : 198 < zNC := by decide
theorem sC_199 : zsh 199 = .inr (4, [some (some 200), some (some 201), some (some 202), some (some 203), some (some 204), some (some 205), some (some 206), some (some 207), some (some 208), none, none, none]) := rfl
theorem nC_199 : 199 < zNC := by decide
theorem sC_200 : zsh 200 = .inl (0, 4, zNo) := rfl
theorem nC_200 : 200 < zNC := by decide
theorem sC_201 : zsh 201 = .inl (0, 5, zNo) := rfl
theorem nC_201 : 201 < zNC := by decide
theorem sC_202 : zsh 202 = .inl (0, 6, zNo) := rfl
theorem nC_202 : 202 < zNC := by decide
theorem sC_203 : zsh 203 = .inl (0, 6, zNo) := rfl
theorem nC_203 : 203 < zNC := by decide
theorem sC_204 : zsh 204 = .inl (0, 6, zNo) := rfl
theorem nC_204 : 204 < zNC := by decide
theorem sC_205 : zsh 205 = .inl (1, 6, zNo) := rfl
theorem nC_205 : 205 < zNC := by decide
theorem sC_206 : zsh 206 = .inl (1, 20, zNo) := rfl
theorem nC_206 : 206 < zNC := by decide
theorem sC_207 : zsh 207 = .inl (0, 20, zNo) := rfl
theorem nC_207 : 207 < zNC := by decide
theorem sC_208 : zsh 208 = .inl (0, 20, zNo) := rfl
theorem nC_208 : 208 < zNC := by decide
theorem sC_209 : zsh 209 = .inr (7, [some (some 199), none, none, some (some 210), some (some 211), some (some 212), some (some 213), some (some 214), some (some 221), some (some 222), some (some 223)]) := rfl
theorem nC_209 : 209 < zNC := by decide
theorem sC_210 : zsh 210 = .inl (0, 12, zNo) := rfl
theorem nC_210 : 210 < zNC := by decide
theorem sC_211 : zsh 211 = .inl (0, 12, zNo) := rfl
theorem nC_211 : 211 < zNC := by decide
theorem sC_212 : zsh 212 = .inl (0, 12, zNo) := rfl
theorem nC_212 : 212 < zNC := by decide
theorem sC_213 : zsh 213 = .inl (0, 12, zNo) := rfl
theorem nC_213 : 213 < zNC := by decide
theorem sC_214 : zsh 214 = .inl (7, 6, fun i => some (215 + i)) := rfl
theorem nC_214 : 214 < zNC := by decide
theorem sC_215 : zsh 215 = .inl (0, 12, zNo) := rfl
theorem nC_215 : 215 < zNC := by decide
theorem sC_216 : zsh 216 = .inl (0, 12, zNo) := rfl
theorem nC_216 : 216 < zNC := by decide
theorem sC_217 : zsh 217 = .inl (0, 12, zNo) := rfl
theorem nC_217 : 217 < zNC := by decide
theorem sC_218 : zsh 218 = .inl (0, 12, zNo) := rfl
theorem nC_218 : 218 < zNC := by decide
theorem sC_219 : zsh 219 = .inl (0, 12, zNo) := rfl
theorem nC_219 : 219 < zNC := by decide
theorem sC_220 : zsh 220 = .inl (0, 12, zNo) := rfl
theorem nC_220 : 220 < zNC := by decide
theorem sC_221 : zsh 221 = .inl (0, 6, zNo) := rfl
theorem nC_221 : 221 < zNC := by decide
theorem sC_222 : zsh 222 = .inl (0, 6, zNo) := rfl
theorem nC_222 : 222 < zNC := by decide
theorem sC_223 : zsh 223 = .inl (0, 6, zNo) := rfl
theorem nC_223 : 223 < zNC := by decide
theorem sC_224 : zsh 224 = .inr (9, [some (some 225), some (some 226), some (some 227), some (some 228), none, none]) := rfl
theorem nC_224 : 224 < zNC := by decide
theorem sC_225 : zsh 225 = .inl (0, 40, zNo) := rfl
theorem nC_225 : 225 < zNC := by decide
theorem sC_226 : zsh 226 = .inl (0, 40, zNo) := rfl
theorem nC_226 : 226 < zNC := by decide
theorem sC_227 : zsh 227 = .inl (0, 40, zNo) := rfl
theorem nC_227 : 227 < zNC := by decide
theorem sC_228 : zsh 228 = .inl (0, 40, zNo) := rfl
theorem nC_228 : 228 < zNC := by decide
theorem sC_229 : zsh 229 = .inr (5, [some (some 1), some (some 230), none, none]) := rfl
theorem nC_229 : 229 < zNC := by decide
theorem sC_230 : zsh 230 = .inr (4, [some (some 231), some (some 232), some (some 233), some (some 234), some (some 235), some (some 236), some (some 237), some (some 238), some (some 239), none, none, none]) := rfl
theorem nC_230 : 230 < zNC := by decide
theorem sC_231 : zsh 231 = .inl (0, 4, zNo) := rfl
theorem nC_231 : 231 < zNC := by decide
theorem sC_232 : zsh 232 = .inl (0, 5, zNo) := rfl
theorem nC_232 : 232 < zNC := by decide
theorem sC_233 : zsh 233 = .inl (0, 6, zNo) := rfl
theorem nC_233 : 233 < zNC := by decide
theorem sC_234 : zsh 234 = .inl (0, 6, zNo) := rfl
theorem nC_234 : 234 < zNC := by decide
theorem sC_235 : zsh 235 = .inl (0, 6, zNo) := rfl
theorem nC_235 : 235 < zNC := by decide
theorem sC_236 : zsh 236 = .inl (1, 6, zNo) := rfl
theorem nC_236 : 236 < zNC := by decide
theorem sC_237 : zsh 237 = .inl (1, 20, zNo) := rfl
theorem nC_237 : 237 < zNC := by decide
theorem sC_238 : zsh 238 = .inl (0, 20, zNo) := rfl
theorem nC_238 : 238 < zNC := by decide
theorem sC_239 : zsh 239 = .inl (0, 20, zNo) := rfl
theorem nC_239 : 239 < zNC := by decide
theorem sC_240 : zsh 240 = .inr (1, [some (some 1), some (some 4), some (some 241), some (some 242), some (some 243), some (some 244), none, none, none, none, none]) := rfl
theorem nC_240 : 240 < zNC := by decide
theorem sC_241 : zsh 241 = .inl (0, 40, zNo) := rfl
theorem nC_241 : 241 < zNC := by decide
theorem sC_242 : zsh 242 = .inl (0, 40, zNo) := rfl
theorem nC_242 : 242 < zNC := by decide
theorem sC_243 : zsh 243 = .inl (0, 40, zNo) := rfl
theorem nC_243 : 243 < zNC := by decide
theorem sC_244 : zsh 244 = .inl (0, 40, zNo) := rfl
theorem nC_244 : 244 < zNC := by decide
theorem sC_245 : zsh 245 = .inr (9, [some (some 246), some (some 247), some (some 248), some (some 249), none, none]) := rfl
theorem nC_245 : 245 < zNC := by decide
theorem sC_246 : zsh 246 = .inl (0, 40, zNo) := rfl
theorem nC_246 : 246 < zNC := by decide
theorem sC_247 : zsh 247 = .inl (0, 40, zNo) := rfl
theorem nC_247 : 247 < zNC := by decide
theorem sC_248 : zsh 248 = .inl (0, 40, zNo) := rfl
theorem nC_248 : 248 < zNC := by decide
theorem sC_249 : zsh 249 = .inl (0, 40, zNo) := rfl
theorem nC_249 : 249 < zNC := by decide
theorem sC_250 : zsh 250 = .inr (9, [some (some 251), some (some 252), some (some 253), some (some 254), none, none]) := rfl
theorem nC_250 : 250 < zNC := by decide
theorem sC_251 : zsh 251 = .inl (0, 40, zNo) := rfl
theorem nC_251 : 251 < zNC := by decide
theorem sC_252 : zsh 252 = .inl (0, 40, zNo) := rfl
theorem nC_252 : 252 < zNC := by decide
theorem sC_253 : zsh 253 = .inl (0, 40, zNo) := rfl
theorem nC_253 : 253 < zNC := by decide
theorem sC_254 : zsh 254 = .inl (0, 40, zNo) := rfl
theorem nC_254 : 254 < zNC := by decide
theorem sC_255 : zsh 255 = .inr (3, [some (some 4), some (some 14), none, none, none]) := rfl
theorem nC_255 : 255 < zNC := by decide
theorem sC_256 : zsh 256 = .inr (11, [some (some 257), some (some 258), some (some 259), some (some 260), none]) := rfl
theorem nC_256 : 256 < zNC := by decide
theorem sC_257 : zsh 257 = .inl (0, 160, zNo) := rfl
theorem nC_257 : 257 < zNC := by decide
theorem sC_258 : zsh 258 = .inl (0, 160, zNo) := rfl
theorem nC_258 : 258 < zNC := by decide
theorem sC_259 : zsh 259 = .inl (2, 160, zNo) := rfl
theorem nC_259 : 259 < zNC := by decide
theorem sC_260 : zsh 260 = .inl (0, 160, zNo) := rfl
theorem nC_260 : 260 < zNC := by decide
theorem sC_261 : zsh 261 = .inr (2, [none]) := rfl
theorem nC_261 : 261 < zNC := by decide
theorem sM_0 : zshM 0 = .inr (13, [none, some (some 1), none, none, none, none, none, none, none, none, none, none, some none, none, some (some 2), some (some 3), some (some 4), some (some 5), some (some 6), some (some 7), some (some 8), some (some 9), some (some 10), some (some 11), none, none, none, some (some 12), some (some 13), none, some (some 14), none, none, some (some 15), none, none, some (some 16), some (some 17), none, none, some (some 18), none, none, none, none]) := rfl
theorem nM_0 : 0 < zNM := by decide
theorem sM_1 : zshM 1 = .inl (0, 940, zNo) := rfl
theorem nM_1 : 1 < zNM := by decide
theorem sM_2 : zshM 2 = .inl (0, 406, zNo) := rfl
theorem nM_2 : 2 < zNM := by decide
theorem sM_3 : zshM 3 = .inl (0, 24, zNo) := rfl
theorem nM_3 : 3 < zNM := by decide
theorem sM_4 : zshM 4 = .inl (0, 812, zNo) := rfl
theorem nM_4 : 4 < zNM := by decide
theorem sM_5 : zshM 5 = .inl (0, 1120, zNo) := rfl
theorem nM_5 : 5 < zNM := by decide
theorem sM_6 : zshM 6 = .inl (0, 140, zNo) := rfl
theorem nM_6 : 6 < zNM := by decide
theorem sM_7 : zshM 7 = .inl (1, 20, zNo) := rfl
theorem nM_7 : 7 < zNM := by decide
theorem sM_8 : zshM 8 = .inl (1, 20, zNo) := rfl
theorem nM_8 : 8 < zNM := by decide
theorem sM_9 : zshM 9 = .inl (1, 40, zNo) := rfl
theorem nM_9 : 9 < zNM := by decide
theorem sM_10 : zshM 10 = .inl (2, 2, zNo) := rfl
theorem nM_10 : 10 < zNM := by decide
theorem sM_11 : zshM 11 = .inl (2, 2, zNo) := rfl
theorem nM_11 : 11 < zNM := by decide
theorem sM_12 : zshM 12 = .inl (0, 160, zNo) := rfl
theorem nM_12 : 12 < zNM := by decide
theorem sM_13 : zshM 13 = .inl (0, 32, zNo) := rfl
theorem nM_13 : 13 < zNM := by decide
theorem sM_14 : zshM 14 = .inl (0, 3, zNo) := rfl
theorem nM_14 : 14 < zNM := by decide
theorem sM_15 : zshM 15 = .inl (0, 64, zNo) := rfl
theorem nM_15 : 15 < zNM := by decide
theorem sM_16 : zshM 16 = .inl (0, 160, zNo) := rfl
theorem nM_16 : 16 < zNM := by decide
theorem sM_17 : zshM 17 = .inl (0, 4, zNo) := rfl
theorem nM_17 : 17 < zNM := by decide
theorem sM_18 : zshM 18 = .inl (0, 240, zNo) := rfl
theorem nM_18 : 18 < zNM := by decide
def zLife (a : Nat) : Prop := a = 14 ∨ a = 29 ∨ a = 46 ∨ a = 61 ∨ a = 76 ∨ a = 91 ∨ a = 106 ∨ a = 121 ∨ a = 136 ∨ a = 151 ∨ a = 178 ∨ a = 209
theorem zLife_14 : zLife 14 := Or.inl rfl
theorem zLife_29 : zLife 29 := Or.inr (Or.inl rfl)
theorem zLife_46 : zLife 46 := Or.inr (Or.inr (Or.inl rfl))
theorem zLife_61 : zLife 61 := Or.inr (Or.inr (Or.inr (Or.inl rfl)))
theorem zLife_76 : zLife 76 := Or.inr (Or.inr (Or.inr (Or.inr (Or.inl rfl))))
theorem zLife_91 : zLife 91 := Or.inr (Or.inr (Or.inr (Or.inr (Or.inr (Or.inl rfl)))))
theorem zLife_106 : zLife 106 := Or.inr (Or.inr (Or.inr (Or.inr (Or.inr (Or.inr (Or.inl rfl))))))
theorem zLife_121 : zLife 121 := Or.inr (Or.inr (Or.inr (Or.inr (Or.inr (Or.inr (Or.inr (Or.inl rfl)))))))
theorem zLife_136 : zLife 136 := Or.inr (Or.inr (Or.inr (Or.inr (Or.inr (Or.inr (Or.inr (Or.inr (Or.inl rfl))))))))
theorem zLife_151 : zLife 151 := Or.inr (Or.inr (Or.inr (Or.inr (Or.inr (Or.inr (Or.inr (Or.inr (Or.inr (Or.inl rfl)))))))))
theorem zLife_178 : zLife 178 := Or.inr (Or.inr (Or.inr (Or.inr (Or.inr (Or.inr (Or.inr (Or.inr (Or.inr (Or.inr (Or.inl rfl))))))))))
theorem zLife_209 : zLife 209 := Or.inr (Or.inr (Or.inr (Or.inr (Or.inr (Or.inr (Or.inr (Or.inr (Or.inr (Or.inr (Or.inr (rfl)))))))))))
def zHouse (a : Nat) : Prop := a = 4 ∨ a = 168 ∨ a = 199 ∨ a = 230
theorem zHouse_4 : zHouse 4 := Or.inl rfl
theorem zHouse_168 : zHouse 168 := Or.inr (Or.inl rfl)
theorem zHouse_199 : zHouse 199 := Or.inr (Or.inr (Or.inl rfl))
theorem zHouse_230 : zHouse 230 := Or.inr (Or.inr (Or.inr (rfl)))
def zSent (a : Nat) : Prop := a = 193 ∨ a = 224 ∨ a = 245 ∨ a = 250
theorem zSent_193 : zSent 193 := Or.inl rfl
theorem zSent_224 : zSent 224 := Or.inr (Or.inl rfl)
theorem zSent_245 : zSent 245 := Or.inr (Or.inr (Or.inl rfl))
theorem zSent_250 : zSent 250 := Or.inr (Or.inr (Or.inr (rfl)))
def zImg (a : Nat) : Prop := a = 167 ∨ a = 198
theorem zImg_167 : zImg 167 := Or.inl rfl
theorem zImg_198 : zImg 198 := Or.inr (rfl)
def zHs (a : Nat) : Nat := if a = 178 then 168 else if a = 209 then 199 else 4
theorem sX6_0 {a : Nat} (h : zLife a) : zsh (a) = .inr (7, [some (some (zHs a)), none, none, some (some (a + 1)), some (some (a + 2)), some (some (a + 3)), some (some (a + 4)), some (some (a + 5)), some (some (a + 12)), some (some (a + 13)), some (some (a + 14))]) := by
  rcases h with rfl | rfl | rfl | rfl | rfl | rfl | rfl | rfl | rfl | rfl | rfl | rfl <;> rfl
theorem nX6_0 {a : Nat} (h : zLife a) : a < zNC := by
  rcases h with rfl | rfl | rfl | rfl | rfl | rfl | rfl | rfl | rfl | rfl | rfl | rfl <;> decide
theorem sX6_1 {a : Nat} (h : zLife a) : zsh (a + 1) = .inl (0, 12, zNo) := by
  rcases h with rfl | rfl | rfl | rfl | rfl | rfl | rfl | rfl | rfl | rfl | rfl | rfl <;> rfl
theorem nX6_1 {a : Nat} (h : zLife a) : a + 1 < zNC := by
  rcases h with rfl | rfl | rfl | rfl | rfl | rfl | rfl | rfl | rfl | rfl | rfl | rfl <;> decide
theorem sX6_2 {a : Nat} (h : zLife a) : zsh (a + 2) = .inl (0, 12, zNo) := by
  rcases h with rfl | rfl | rfl | rfl | rfl | rfl | rfl | rfl | rfl | rfl | rfl | rfl <;> rfl
theorem nX6_2 {a : Nat} (h : zLife a) : a + 2 < zNC := by
  rcases h with rfl | rfl | rfl | rfl | rfl | rfl | rfl | rfl | rfl | rfl | rfl | rfl <;> decide
theorem sX6_3 {a : Nat} (h : zLife a) : zsh (a + 3) = .inl (0, 12, zNo) := by
  rcases h with rfl | rfl | rfl | rfl | rfl | rfl | rfl | rfl | rfl | rfl | rfl | rfl <;> rfl
theorem nX6_3 {a : Nat} (h : zLife a) : a + 3 < zNC := by
  rcases h with rfl | rfl | rfl | rfl | rfl | rfl | rfl | rfl | rfl | rfl | rfl | rfl <;> decide
theorem sX6_4 {a : Nat} (h : zLife a) : zsh (a + 4) = .inl (0, 12, zNo) := by
  rcases h with rfl | rfl | rfl | rfl | rfl | rfl | rfl | rfl | rfl | rfl | rfl | rfl <;> rfl
theorem nX6_4 {a : Nat} (h : zLife a) : a + 4 < zNC := by
  rcases h with rfl | rfl | rfl | rfl | rfl | rfl | rfl | rfl | rfl | rfl | rfl | rfl <;> decide
theorem sX6_5 {a : Nat} (h : zLife a) : zsh (a + 5) = .inl (7, 6, fun i => some (a + 6 + i)) := by
  rcases h with rfl | rfl | rfl | rfl | rfl | rfl | rfl | rfl | rfl | rfl | rfl | rfl <;> rfl
theorem nX6_5 {a : Nat} (h : zLife a) : a + 5 < zNC := by
  rcases h with rfl | rfl | rfl | rfl | rfl | rfl | rfl | rfl | rfl | rfl | rfl | rfl <;> decide
theorem sX6_12 {a : Nat} (h : zLife a) : zsh (a + 12) = .inl (0, 6, zNo) := by
  rcases h with rfl | rfl | rfl | rfl | rfl | rfl | rfl | rfl | rfl | rfl | rfl | rfl <;> rfl
theorem nX6_12 {a : Nat} (h : zLife a) : a + 12 < zNC := by
  rcases h with rfl | rfl | rfl | rfl | rfl | rfl | rfl | rfl | rfl | rfl | rfl | rfl <;> decide
theorem sX6_13 {a : Nat} (h : zLife a) : zsh (a + 13) = .inl (0, 6, zNo) := by
  rcases h with rfl | rfl | rfl | rfl | rfl | rfl | rfl | rfl | rfl | rfl | rfl | rfl <;> rfl
theorem nX6_13 {a : Nat} (h : zLife a) : a + 13 < zNC := by
  rcases h with rfl | rfl | rfl | rfl | rfl | rfl | rfl | rfl | rfl | rfl | rfl | rfl <;> decide
theorem sX6_14 {a : Nat} (h : zLife a) : zsh (a + 14) = .inl (0, 6, zNo) := by
  rcases h with rfl | rfl | rfl | rfl | rfl | rfl | rfl | rfl | rfl | rfl | rfl | rfl <;> rfl
theorem nX6_14 {a : Nat} (h : zLife a) : a + 14 < zNC := by
  rcases h with rfl | rfl | rfl | rfl | rfl | rfl | rfl | rfl | rfl | rfl | rfl | rfl <;> decide
theorem sX3_0 {a : Nat} (h : zHouse a) : zsh (a) = .inr (4, [some (some (a + 1)), some (some (a + 2)), some (some (a + 3)), some (some (a + 4)), some (some (a + 5)), some (some (a + 6)), some (some (a + 7)), some (some (a + 8)), some (some (a + 9)), none, none, none]) := by
  rcases h with rfl | rfl | rfl | rfl <;> rfl
theorem nX3_0 {a : Nat} (h : zHouse a) : a < zNC := by
  rcases h with rfl | rfl | rfl | rfl <;> decide
theorem sX3_1 {a : Nat} (h : zHouse a) : zsh (a + 1) = .inl (0, 4, zNo) := by
  rcases h with rfl | rfl | rfl | rfl <;> rfl
theorem nX3_1 {a : Nat} (h : zHouse a) : a + 1 < zNC := by
  rcases h with rfl | rfl | rfl | rfl <;> decide
theorem sX3_2 {a : Nat} (h : zHouse a) : zsh (a + 2) = .inl (0, 5, zNo) := by
  rcases h with rfl | rfl | rfl | rfl <;> rfl
theorem nX3_2 {a : Nat} (h : zHouse a) : a + 2 < zNC := by
  rcases h with rfl | rfl | rfl | rfl <;> decide
theorem sX3_3 {a : Nat} (h : zHouse a) : zsh (a + 3) = .inl (0, 6, zNo) := by
  rcases h with rfl | rfl | rfl | rfl <;> rfl
theorem nX3_3 {a : Nat} (h : zHouse a) : a + 3 < zNC := by
  rcases h with rfl | rfl | rfl | rfl <;> decide
theorem sX3_4 {a : Nat} (h : zHouse a) : zsh (a + 4) = .inl (0, 6, zNo) := by
  rcases h with rfl | rfl | rfl | rfl <;> rfl
theorem nX3_4 {a : Nat} (h : zHouse a) : a + 4 < zNC := by
  rcases h with rfl | rfl | rfl | rfl <;> decide
theorem sX3_5 {a : Nat} (h : zHouse a) : zsh (a + 5) = .inl (0, 6, zNo) := by
  rcases h with rfl | rfl | rfl | rfl <;> rfl
theorem nX3_5 {a : Nat} (h : zHouse a) : a + 5 < zNC := by
  rcases h with rfl | rfl | rfl | rfl <;> decide
theorem sX3_6 {a : Nat} (h : zHouse a) : zsh (a + 6) = .inl (1, 6, zNo) := by
  rcases h with rfl | rfl | rfl | rfl <;> rfl
theorem nX3_6 {a : Nat} (h : zHouse a) : a + 6 < zNC := by
  rcases h with rfl | rfl | rfl | rfl <;> decide
theorem sX3_7 {a : Nat} (h : zHouse a) : zsh (a + 7) = .inl (1, 20, zNo) := by
  rcases h with rfl | rfl | rfl | rfl <;> rfl
theorem nX3_7 {a : Nat} (h : zHouse a) : a + 7 < zNC := by
  rcases h with rfl | rfl | rfl | rfl <;> decide
theorem sX3_8 {a : Nat} (h : zHouse a) : zsh (a + 8) = .inl (0, 20, zNo) := by
  rcases h with rfl | rfl | rfl | rfl <;> rfl
theorem nX3_8 {a : Nat} (h : zHouse a) : a + 8 < zNC := by
  rcases h with rfl | rfl | rfl | rfl <;> decide
theorem sX3_9 {a : Nat} (h : zHouse a) : zsh (a + 9) = .inl (0, 20, zNo) := by
  rcases h with rfl | rfl | rfl | rfl <;> rfl
theorem nX3_9 {a : Nat} (h : zHouse a) : a + 9 < zNC := by
  rcases h with rfl | rfl | rfl | rfl <;> decide
theorem sX8_0 {a : Nat} (h : zSent a) : zsh (a) = .inr (9, [some (some (a + 1)), some (some (a + 2)), some (some (a + 3)), some (some (a + 4)), none, none]) := by
  rcases h with rfl | rfl | rfl | rfl <;> rfl
theorem nX8_0 {a : Nat} (h : zSent a) : a < zNC := by
  rcases h with rfl | rfl | rfl | rfl <;> decide
theorem sX8_1 {a : Nat} (h : zSent a) : zsh (a + 1) = .inl (0, 40, zNo) := by
  rcases h with rfl | rfl | rfl | rfl <;> rfl
theorem nX8_1 {a : Nat} (h : zSent a) : a + 1 < zNC := by
  rcases h with rfl | rfl | rfl | rfl <;> decide
theorem sX8_2 {a : Nat} (h : zSent a) : zsh (a + 2) = .inl (0, 40, zNo) := by
  rcases h with rfl | rfl | rfl | rfl <;> rfl
theorem nX8_2 {a : Nat} (h : zSent a) : a + 2 < zNC := by
  rcases h with rfl | rfl | rfl | rfl <;> decide
theorem sX8_3 {a : Nat} (h : zSent a) : zsh (a + 3) = .inl (0, 40, zNo) := by
  rcases h with rfl | rfl | rfl | rfl <;> rfl
theorem nX8_3 {a : Nat} (h : zSent a) : a + 3 < zNC := by
  rcases h with rfl | rfl | rfl | rfl <;> decide
theorem sX8_4 {a : Nat} (h : zSent a) : zsh (a + 4) = .inl (0, 40, zNo) := by
  rcases h with rfl | rfl | rfl | rfl <;> rfl
theorem nX8_4 {a : Nat} (h : zSent a) : a + 4 < zNC := by
  rcases h with rfl | rfl | rfl | rfl <;> decide
theorem sX5_0 {a : Nat} (h : zImg a) : zsh (a) = .inr (6, [some (some (a + 1)), some (some (a + 11)), some (some (a + 26)), none]) := by
  rcases h with rfl | rfl <;> rfl
theorem nX5_0 {a : Nat} (h : zImg a) : a < zNC := by
  rcases h with rfl | rfl <;> decide
theorem zIx_lt {i : Int32} {n : Nat} (h : zIx i n = true) : i.toNatClampNeg < n := by
  simp only [zIx, Bool.and_eq_true, decide_eq_true_eq] at h
  exact h.2
theorem sX6_r {a : Nat} {i : Int32} (h : zLife a) (hi : zIx i 6 = true) : zsh (a + 6 + i.toNatClampNeg) = .inl (0, 12, zNo) := by
  have h6 := zIx_lt hi
  generalize i.toNatClampNeg = j at h6 ⊢
  rcases (show j = 0 ∨ j = 1 ∨ j = 2 ∨ j = 3 ∨ j = 4 ∨ j = 5 by omega) with rfl | rfl | rfl | rfl | rfl | rfl <;> rcases h with rfl | rfl | rfl | rfl | rfl | rfl | rfl | rfl | rfl | rfl | rfl | rfl <;> rfl
theorem nX6_r {a : Nat} {i : Int32} (h : zLife a) (hi : zIx i 6 = true) : a + 6 + i.toNatClampNeg < zNC := by
  have h6 := zIx_lt hi
  have h7 := nX6_14 h
  omega
theorem zHs_ok {a : Nat} (h : zLife a) : zHouse (zHs a) := by
  rcases h with rfl | rfl | rfl | rfl | rfl | rfl | rfl | rfl | rfl | rfl | rfl | rfl <;> simp [zHs, zHouse]
theorem zLf_ix {i : Int32} (hi : zIx i 8 = true) : zLife (46 + 15 * i.toNatClampNeg) := by
  have h6 := zIx_lt hi
  unfold zLife
  omega
theorem zIm_ix {i : Int32} (hi : zIx i 2 = true) : zImg (167 + 31 * i.toNatClampNeg) := by
  have h6 := zIx_lt hi
  unfold zImg
  omega
theorem zIm_h {a : Nat} (h : zImg a) : zHouse (a + 1) := by
  unfold zImg at h
  unfold zHouse
  omega
theorem zIm_l {a : Nat} (h : zImg a) : zLife (a + 11) := by
  unfold zImg at h
  unfold zLife
  omega
theorem zIm_s {a : Nat} (h : zImg a) : zSent (a + 26) := by
  unfold zImg at h
  unfold zSent
  omega
def zNm (a : Nat) : Prop := zshM a = .inl (1, 20, zNo) ∧ a < zNM
