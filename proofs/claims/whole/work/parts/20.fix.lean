/-! ===== the cells that stand from the start: 5 .. 93 ===== -/
def fxT : List (Nat × Nat × Nat) := [(5, 9, 18), (6, 23, 6), (7, 24, 4), (8, 25, 10), (9, 23, 6), (10, 3, 4), (11, 20, 16), (12, 20, 16), (13, 20, 80), (14, 6, 2), (15, 26, 20), (16, 1, 4), (17, 20, 12), (18, 20, 12), (19, 20, 1), (20, 8, 7), (21, 20, 8), (22, 20, 8), (23, 20, 20), (24, 20, 10), (25, 20, 10), (26, 20, 20), (27, 20, 20), (28, 0, 7), (29, 20, 61), (30, 20, 10), (31, 20, 10), (32, 20, 20), (33, 25, 20), (34, 2, 5), (35, 20, 40), (36, 20, 40), (37, 20, 40), (38, 20, 40), (39, 4, 6), (40, 23, 4), (41, 20, 30), (42, 20, 30), (43, 20, 30), (44, 20, 10), (45, 20, 6), (46, 10, 62), (47, 20, 6), (48, 20, 6), (49, 20, 240), (50, 20, 40), (51, 20, 4), (52, 20, 240), (53, 20, 10), (54, 20, 600), (55, 20, 70), (56, 20, 70), (57, 20, 6), (58, 20, 48), (59, 20, 16), (60, 20, 16), (61, 20, 80), (62, 20, 5), (63, 20, 8), (64, 20, 8), (65, 20, 20), (66, 20, 20), (67, 20, 20), (68, 20, 20), (69, 20, 20), (70, 20, 20), (71, 20, 20), (72, 20, 20), (73, 20, 20), (74, 20, 20), (75, 20, 20), (76, 20, 800), (77, 20, 20), (78, 20, 20), (79, 22, 4096), (80, 20, 20), (81, 20, 20), (82, 20, 70), (83, 20, 70), (84, 20, 71), (85, 20, 71), (86, 20, 40), (87, 20, 40), (88, 20, 40), (89, 20, 4), (90, 20, 160), (91, 20, 30), (92, 20, 30), (93, 20, 30)]
def fxR : List (Nat × Nat × Nat) := [(5, 0, 6), (5, 1, 7), (5, 2, 8), (5, 3, 9), (5, 5, 10), (5, 6, 14), (5, 7, 16), (5, 8, 20), (5, 9, 28), (5, 10, 34), (5, 11, 39), (5, 13, 45), (10, 0, 11), (10, 1, 12), (10, 2, 13), (14, 0, 15), (16, 0, 17), (16, 1, 18), (20, 0, 21), (20, 1, 22), (20, 2, 23), (20, 3, 24), (20, 4, 25), (20, 5, 26), (20, 6, 27), (28, 0, 29), (28, 1, 30), (28, 2, 31), (28, 3, 32), (28, 4, 33), (34, 0, 35), (34, 1, 36), (34, 2, 37), (34, 3, 38), (39, 0, 40), (39, 1, 41), (39, 2, 42), (39, 3, 43), (39, 4, 44), (46, 1, 47), (46, 7, 48), (46, 8, 49), (46, 9, 50), (46, 10, 51), (46, 11, 52), (46, 12, 53), (46, 13, 54), (46, 15, 55), (46, 16, 56), (46, 17, 57), (46, 18, 58), (46, 20, 59), (46, 21, 60), (46, 22, 61), (46, 23, 62), (46, 24, 63), (46, 25, 64), (46, 27, 65), (46, 28, 66), (46, 29, 67), (46, 30, 68), (46, 31, 69), (46, 32, 70), (46, 33, 71), (46, 34, 72), (46, 35, 73), (46, 36, 74), (46, 37, 75), (46, 38, 76), (46, 40, 77), (46, 41, 78), (46, 42, 79), (46, 43, 80), (46, 44, 81), (46, 45, 82), (46, 46, 83), (46, 47, 84), (46, 48, 85), (46, 50, 86), (46, 51, 87), (46, 52, 88), (46, 53, 89), (46, 54, 90), (46, 56, 91), (46, 57, 92), (46, 58, 93)]
def Ifx (h : z_Hp) : Prop := (∀ e ∈ fxT, hT h e.1 = e.2.1 ∧ hN h e.1 = e.2.2) ∧ (∀ e ∈ fxR, hR h e.1 e.2.1 = some e.2.2) ∧ 94 ≤ hZ h ∧ ∀ a, hZ h ≤ a → hT h a = 99
theorem fT5 {h : z_Hp} (I : Ifx h) : hT h 5 = 9 := (I.1 (5, 9, 18) (by decide)).1
theorem fN5 {h : z_Hp} (I : Ifx h) : hN h 5 = 18 := (I.1 (5, 9, 18) (by decide)).2
theorem fT6 {h : z_Hp} (I : Ifx h) : hT h 6 = 23 := (I.1 (6, 23, 6) (by decide)).1
theorem fN6 {h : z_Hp} (I : Ifx h) : hN h 6 = 6 := (I.1 (6, 23, 6) (by decide)).2
theorem fT7 {h : z_Hp} (I : Ifx h) : hT h 7 = 24 := (I.1 (7, 24, 4) (by decide)).1
theorem fN7 {h : z_Hp} (I : Ifx h) : hN h 7 = 4 := (I.1 (7, 24, 4) (by decide)).2
theorem fT8 {h : z_Hp} (I : Ifx h) : hT h 8 = 25 := (I.1 (8, 25, 10) (by decide)).1
theorem fN8 {h : z_Hp} (I : Ifx h) : hN h 8 = 10 := (I.1 (8, 25, 10) (by decide)).2
theorem fT9 {h : z_Hp} (I : Ifx h) : hT h 9 = 23 := (I.1 (9, 23, 6) (by decide)).1
theorem fN9 {h : z_Hp} (I : Ifx h) : hN h 9 = 6 := (I.1 (9, 23, 6) (by decide)).2
theorem fT10 {h : z_Hp} (I : Ifx h) : hT h 10 = 3 := (I.1 (10, 3, 4) (by decide)).1
theorem fN10 {h : z_Hp} (I : Ifx h) : hN h 10 = 4 := (I.1 (10, 3, 4) (by decide)).2
theorem fT11 {h : z_Hp} (I : Ifx h) : hT h 11 = 20 := (I.1 (11, 20, 16) (by decide)).1
theorem fN11 {h : z_Hp} (I : Ifx h) : hN h 11 = 16 := (I.1 (11, 20, 16) (by decide)).2
theorem fT12 {h : z_Hp} (I : Ifx h) : hT h 12 = 20 := (I.1 (12, 20, 16) (by decide)).1
theorem fN12 {h : z_Hp} (I : Ifx h) : hN h 12 = 16 := (I.1 (12, 20, 16) (by decide)).2
theorem fT13 {h : z_Hp} (I : Ifx h) : hT h 13 = 20 := (I.1 (13, 20, 80) (by decide)).1
theorem fN13 {h : z_Hp} (I : Ifx h) : hN h 13 = 80 := (I.1 (13, 20, 80) (by decide)).2
theorem fT14 {h : z_Hp} (I : Ifx h) : hT h 14 = 6 := (I.1 (14, 6, 2) (by decide)).1
theorem fN14 {h : z_Hp} (I : Ifx h) : hN h 14 = 2 := (I.1 (14, 6, 2) (by decide)).2
theorem fT15 {h : z_Hp} (I : Ifx h) : hT h 15 = 26 := (I.1 (15, 26, 20) (by decide)).1
theorem fN15 {h : z_Hp} (I : Ifx h) : hN h 15 = 20 := (I.1 (15, 26, 20) (by decide)).2
theorem fT16 {h : z_Hp} (I : Ifx h) : hT h 16 = 1 := (I.1 (16, 1, 4) (by decide)).1
theorem fN16 {h : z_Hp} (I : Ifx h) : hN h 16 = 4 := (I.1 (16, 1, 4) (by decide)).2
theorem fT17 {h : z_Hp} (I : Ifx h) : hT h 17 = 20 := (I.1 (17, 20, 12) (by decide)).1
theorem fN17 {h : z_Hp} (I : Ifx h) : hN h 17 = 12 := (I.1 (17, 20, 12) (by decide)).2
theorem fT18 {h : z_Hp} (I : Ifx h) : hT h 18 = 20 := (I.1 (18, 20, 12) (by decide)).1
theorem fN18 {h : z_Hp} (I : Ifx h) : hN h 18 = 12 := (I.1 (18, 20, 12) (by decide)).2
theorem fT19 {h : z_Hp} (I : Ifx h) : hT h 19 = 20 := (I.1 (19, 20, 1) (by decide)).1
theorem fN19 {h : z_Hp} (I : Ifx h) : hN h 19 = 1 := (I.1 (19, 20, 1) (by decide)).2
theorem fT20 {h : z_Hp} (I : Ifx h) : hT h 20 = 8 := (I.1 (20, 8, 7) (by decide)).1
theorem fN20 {h : z_Hp} (I : Ifx h) : hN h 20 = 7 := (I.1 (20, 8, 7) (by decide)).2
theorem fT21 {h : z_Hp} (I : Ifx h) : hT h 21 = 20 := (I.1 (21, 20, 8) (by decide)).1
theorem fN21 {h : z_Hp} (I : Ifx h) : hN h 21 = 8 := (I.1 (21, 20, 8) (by decide)).2
theorem fT22 {h : z_Hp} (I : Ifx h) : hT h 22 = 20 := (I.1 (22, 20, 8) (by decide)).1
theorem fN22 {h : z_Hp} (I : Ifx h) : hN h 22 = 8 := (I.1 (22, 20, 8) (by decide)).2
theorem fT23 {h : z_Hp} (I : Ifx h) : hT h 23 = 20 := (I.1 (23, 20, 20) (by decide)).1
theorem fN23 {h : z_Hp} (I : Ifx h) : hN h 23 = 20 := (I.1 (23, 20, 20) (by decide)).2
theorem fT24 {h : z_Hp} (I : Ifx h) : hT h 24 = 20 := (I.1 (24, 20, 10) (by decide)).1
theorem fN24 {h : z_Hp} (I : Ifx h) : hN h 24 = 10 := (I.1 (24, 20, 10) (by decide)).2
theorem fT25 {h : z_Hp} (I : Ifx h) : hT h 25 = 20 := (I.1 (25, 20, 10) (by decide)).1
theorem fN25 {h : z_Hp} (I : Ifx h) : hN h 25 = 10 := (I.1 (25, 20, 10) (by decide)).2
theorem fT26 {h : z_Hp} (I : Ifx h) : hT h 26 = 20 := (I.1 (26, 20, 20) (by decide)).1
theorem fN26 {h : z_Hp} (I : Ifx h) : hN h 26 = 20 := (I.1 (26, 20, 20) (by decide)).2
theorem fT27 {h : z_Hp} (I : Ifx h) : hT h 27 = 20 := (I.1 (27, 20, 20) (by decide)).1
theorem fN27 {h : z_Hp} (I : Ifx h) : hN h 27 = 20 := (I.1 (27, 20, 20) (by decide)).2
theorem fT28 {h : z_Hp} (I : Ifx h) : hT h 28 = 0 := (I.1 (28, 0, 7) (by decide)).1
theorem fN28 {h : z_Hp} (I : Ifx h) : hN h 28 = 7 := (I.1 (28, 0, 7) (by decide)).2
theorem fT29 {h : z_Hp} (I : Ifx h) : hT h 29 = 20 := (I.1 (29, 20, 61) (by decide)).1
theorem fN29 {h : z_Hp} (I : Ifx h) : hN h 29 = 61 := (I.1 (29, 20, 61) (by decide)).2
theorem fT30 {h : z_Hp} (I : Ifx h) : hT h 30 = 20 := (I.1 (30, 20, 10) (by decide)).1
theorem fN30 {h : z_Hp} (I : Ifx h) : hN h 30 = 10 := (I.1 (30, 20, 10) (by decide)).2
theorem fT31 {h : z_Hp} (I : Ifx h) : hT h 31 = 20 := (I.1 (31, 20, 10) (by decide)).1
theorem fN31 {h : z_Hp} (I : Ifx h) : hN h 31 = 10 := (I.1 (31, 20, 10) (by decide)).2
theorem fT32 {h : z_Hp} (I : Ifx h) : hT h 32 = 20 := (I.1 (32, 20, 20) (by decide)).1
theorem fN32 {h : z_Hp} (I : Ifx h) : hN h 32 = 20 := (I.1 (32, 20, 20) (by decide)).2
theorem fT33 {h : z_Hp} (I : Ifx h) : hT h 33 = 25 := (I.1 (33, 25, 20) (by decide)).1
theorem fN33 {h : z_Hp} (I : Ifx h) : hN h 33 = 20 := (I.1 (33, 25, 20) (by decide)).2
theorem fT34 {h : z_Hp} (I : Ifx h) : hT h 34 = 2 := (I.1 (34, 2, 5) (by decide)).1
theorem fN34 {h : z_Hp} (I : Ifx h) : hN h 34 = 5 := (I.1 (34, 2, 5) (by decide)).2
theorem fT35 {h : z_Hp} (I : Ifx h) : hT h 35 = 20 := (I.1 (35, 20, 40) (by decide)).1
theorem fN35 {h : z_Hp} (I : Ifx h) : hN h 35 = 40 := (I.1 (35, 20, 40) (by decide)).2
theorem fT36 {h : z_Hp} (I : Ifx h) : hT h 36 = 20 := (I.1 (36, 20, 40) (by decide)).1
theorem fN36 {h : z_Hp} (I : Ifx h) : hN h 36 = 40 := (I.1 (36, 20, 40) (by decide)).2
theorem fT37 {h : z_Hp} (I : Ifx h) : hT h 37 = 20 := (I.1 (37, 20, 40) (by decide)).1
theorem fN37 {h : z_Hp} (I : Ifx h) : hN h 37 = 40 := (I.1 (37, 20, 40) (by decide)).2
theorem fT38 {h : z_Hp} (I : Ifx h) : hT h 38 = 20 := (I.1 (38, 20, 40) (by decide)).1
theorem fN38 {h : z_Hp} (I : Ifx h) : hN h 38 = 40 := (I.1 (38, 20, 40) (by decide)).2
theorem fT39 {h : z_Hp} (I : Ifx h) : hT h 39 = 4 := (I.1 (39, 4, 6) (by decide)).1
theorem fN39 {h : z_Hp} (I : Ifx h) : hN h 39 = 6 := (I.1 (39, 4, 6) (by decide)).2
theorem fT40 {h : z_Hp} (I : Ifx h) : hT h 40 = 23 := (I.1 (40, 23, 4) (by decide)).1
theorem fN40 {h : z_Hp} (I : Ifx h) : hN h 40 = 4 := (I.1 (40, 23, 4) (by decide)).2
theorem fT41 {h : z_Hp} (I : Ifx h) : hT h 41 = 20 := (I.1 (41, 20, 30) (by decide)).1
theorem fN41 {h : z_Hp} (I : Ifx h) : hN h 41 = 30 := (I.1 (41, 20, 30) (by decide)).2
theorem fT42 {h : z_Hp} (I : Ifx h) : hT h 42 = 20 := (I.1 (42, 20, 30) (by decide)).1
theorem fN42 {h : z_Hp} (I : Ifx h) : hN h 42 = 30 := (I.1 (42, 20, 30) (by decide)).2
theorem fT43 {h : z_Hp} (I : Ifx h) : hT h 43 = 20 := (I.1 (43, 20, 30) (by decide)).1
theorem fN43 {h : z_Hp} (I : Ifx h) : hN h 43 = 30 := (I.1 (43, 20, 30) (by decide)).2
theorem fT44 {h : z_Hp} (I : Ifx h) : hT h 44 = 20 := (I.1 (44, 20, 10) (by decide)).1
theorem fN44 {h : z_Hp} (I : Ifx h) : hN h 44 = 10 := (I.1 (44, 20, 10) (by decide)).2
theorem fT45 {h : z_Hp} (I : Ifx h) : hT h 45 = 20 := (I.1 (45, 20, 6) (by decide)).1
theorem fN45 {h : z_Hp} (I : Ifx h) : hN h 45 = 6 := (I.1 (45, 20, 6) (by decide)).2
theorem fT46 {h : z_Hp} (I : Ifx h) : hT h 46 = 10 := (I.1 (46, 10, 62) (by decide)).1
theorem fN46 {h : z_Hp} (I : Ifx h) : hN h 46 = 62 := (I.1 (46, 10, 62) (by decide)).2
theorem fT47 {h : z_Hp} (I : Ifx h) : hT h 47 = 20 := (I.1 (47, 20, 6) (by decide)).1
theorem fN47 {h : z_Hp} (I : Ifx h) : hN h 47 = 6 := (I.1 (47, 20, 6) (by decide)).2
theorem fT48 {h : z_Hp} (I : Ifx h) : hT h 48 = 20 := (I.1 (48, 20, 6) (by decide)).1
theorem fN48 {h : z_Hp} (I : Ifx h) : hN h 48 = 6 := (I.1 (48, 20, 6) (by decide)).2
theorem fT49 {h : z_Hp} (I : Ifx h) : hT h 49 = 20 := (I.1 (49, 20, 240) (by decide)).1
theorem fN49 {h : z_Hp} (I : Ifx h) : hN h 49 = 240 := (I.1 (49, 20, 240) (by decide)).2
theorem fT50 {h : z_Hp} (I : Ifx h) : hT h 50 = 20 := (I.1 (50, 20, 40) (by decide)).1
theorem fN50 {h : z_Hp} (I : Ifx h) : hN h 50 = 40 := (I.1 (50, 20, 40) (by decide)).2
theorem fT51 {h : z_Hp} (I : Ifx h) : hT h 51 = 20 := (I.1 (51, 20, 4) (by decide)).1
theorem fN51 {h : z_Hp} (I : Ifx h) : hN h 51 = 4 := (I.1 (51, 20, 4) (by decide)).2
theorem fT52 {h : z_Hp} (I : Ifx h) : hT h 52 = 20 := (I.1 (52, 20, 240) (by decide)).1
theorem fN52 {h : z_Hp} (I : Ifx h) : hN h 52 = 240 := (I.1 (52, 20, 240) (by decide)).2
theorem fT53 {h : z_Hp} (I : Ifx h) : hT h 53 = 20 := (I.1 (53, 20, 10) (by decide)).1
theorem fN53 {h : z_Hp} (I : Ifx h) : hN h 53 = 10 := (I.1 (53, 20, 10) (by decide)).2
theorem fT54 {h : z_Hp} (I : Ifx h) : hT h 54 = 20 := (I.1 (54, 20, 600) (by decide)).1
theorem fN54 {h : z_Hp} (I : Ifx h) : hN h 54 = 600 := (I.1 (54, 20, 600) (by decide)).2
theorem fT55 {h : z_Hp} (I : Ifx h) : hT h 55 = 20 := (I.1 (55, 20, 70) (by decide)).1
theorem fN55 {h : z_Hp} (I : Ifx h) : hN h 55 = 70 := (I.1 (55, 20, 70) (by decide)).2
theorem fT56 {h : z_Hp} (I : Ifx h) : hT h 56 = 20 := (I.1 (56, 20, 70) (by decide)).1
theorem fN56 {h : z_Hp} (I : Ifx h) : hN h 56 = 70 := (I.1 (56, 20, 70) (by decide)).2
theorem fT57 {h : z_Hp} (I : Ifx h) : hT h 57 = 20 := (I.1 (57, 20, 6) (by decide)).1
theorem fN57 {h : z_Hp} (I : Ifx h) : hN h 57 = 6 := (I.1 (57, 20, 6) (by decide)).2
theorem fT58 {h : z_Hp} (I : Ifx h) : hT h 58 = 20 := (I.1 (58, 20, 48) (by decide)).1
theorem fN58 {h : z_Hp} (I : Ifx h) : hN h 58 = 48 := (I.1 (58, 20, 48) (by decide)).2
theorem fT59 {h : z_Hp} (I : Ifx h) : hT h 59 = 20 := (I.1 (59, 20, 16) (by decide)).1
theorem fN59 {h : z_Hp} (I : Ifx h) : hN h 59 = 16 := (I.1 (59, 20, 16) (by decide)).2
theorem fT60 {h : z_Hp} (I : Ifx h) : hT h 60 = 20 := (I.1 (60, 20, 16) (by decide)).1
theorem fN60 {h : z_Hp} (I : Ifx h) : hN h 60 = 16 := (I.1 (60, 20, 16) (by decide)).2
theorem fT61 {h : z_Hp} (I : Ifx h) : hT h 61 = 20 := (I.1 (61, 20, 80) (by decide)).1
theorem fN61 {h : z_Hp} (I : Ifx h) : hN h 61 = 80 := (I.1 (61, 20, 80) (by decide)).2
theorem fT62 {h : z_Hp} (I : Ifx h) : hT h 62 = 20 := (I.1 (62, 20, 5) (by decide)).1
theorem fN62 {h : z_Hp} (I : Ifx h) : hN h 62 = 5 := (I.1 (62, 20, 5) (by decide)).2
theorem fT63 {h : z_Hp} (I : Ifx h) : hT h 63 = 20 := (I.1 (63, 20, 8) (by decide)).1
theorem fN63 {h : z_Hp} (I : Ifx h) : hN h 63 = 8 := (I.1 (63, 20, 8) (by decide)).2
theorem fT64 {h : z_Hp} (I : Ifx h) : hT h 64 = 20 := (I.1 (64, 20, 8) (by decide)).1
theorem fN64 {h : z_Hp} (I : Ifx h) : hN h 64 = 8 := (I.1 (64, 20, 8) (by decide)).2
theorem fT65 {h : z_Hp} (I : Ifx h) : hT h 65 = 20 := (I.1 (65, 20, 20) (by decide)).1
theorem fN65 {h : z_Hp} (I : Ifx h) : hN h 65 = 20 := (I.1 (65, 20, 20) (by decide)).2
theorem fT66 {h : z_Hp} (I : Ifx h) : hT h 66 = 20 := (I.1 (66, 20, 20) (by decide)).1
theorem fN66 {h : z_Hp} (I : Ifx h) : hN h 66 = 20 := (I.1 (66, 20, 20) (by decide)).2
theorem fT67 {h : z_Hp} (I : Ifx h) : hT h 67 = 20 := (I.1 (67, 20, 20) (by decide)).1
theorem fN67 {h : z_Hp} (I : Ifx h) : hN h 67 = 20 := (I.1 (67, 20, 20) (by decide)).2
theorem fT68 {h : z_Hp} (I : Ifx h) : hT h 68 = 20 := (I.1 (68, 20, 20) (by decide)).1
theorem fN68 {h : z_Hp} (I : Ifx h) : hN h 68 = 20 := (I.1 (68, 20, 20) (by decide)).2
theorem fT69 {h : z_Hp} (I : Ifx h) : hT h 69 = 20 := (I.1 (69, 20, 20) (by decide)).1
theorem fN69 {h : z_Hp} (I : Ifx h) : hN h 69 = 20 := (I.1 (69, 20, 20) (by decide)).2
theorem fT70 {h : z_Hp} (I : Ifx h) : hT h 70 = 20 := (I.1 (70, 20, 20) (by decide)).1
theorem fN70 {h : z_Hp} (I : Ifx h) : hN h 70 = 20 := (I.1 (70, 20, 20) (by decide)).2
theorem fT71 {h : z_Hp} (I : Ifx h) : hT h 71 = 20 := (I.1 (71, 20, 20) (by decide)).1
theorem fN71 {h : z_Hp} (I : Ifx h) : hN h 71 = 20 := (I.1 (71, 20, 20) (by decide)).2
theorem fT72 {h : z_Hp} (I : Ifx h) : hT h 72 = 20 := (I.1 (72, 20, 20) (by decide)).1
theorem fN72 {h : z_Hp} (I : Ifx h) : hN h 72 = 20 := (I.1 (72, 20, 20) (by decide)).2
theorem fT73 {h : z_Hp} (I : Ifx h) : hT h 73 = 20 := (I.1 (73, 20, 20) (by decide)).1
theorem fN73 {h : z_Hp} (I : Ifx h) : hN h 73 = 20 := (I.1 (73, 20, 20) (by decide)).2
theorem fT74 {h : z_Hp} (I : Ifx h) : hT h 74 = 20 := (I.1 (74, 20, 20) (by decide)).1
theorem fN74 {h : z_Hp} (I : Ifx h) : hN h 74 = 20 := (I.1 (74, 20, 20) (by decide)).2
theorem fT75 {h : z_Hp} (I : Ifx h) : hT h 75 = 20 := (I.1 (75, 20, 20) (by decide)).1
theorem fN75 {h : z_Hp} (I : Ifx h) : hN h 75 = 20 := (I.1 (75, 20, 20) (by decide)).2
theorem fT76 {h : z_Hp} (I : Ifx h) : hT h 76 = 20 := (I.1 (76, 20, 800) (by decide)).1
theorem fN76 {h : z_Hp} (I : Ifx h) : hN h 76 = 800 := (I.1 (76, 20, 800) (by decide)).2
theorem fT77 {h : z_Hp} (I : Ifx h) : hT h 77 = 20 := (I.1 (77, 20, 20) (by decide)).1
theorem fN77 {h : z_Hp} (I : Ifx h) : hN h 77 = 20 := (I.1 (77, 20, 20) (by decide)).2
theorem fT78 {h : z_Hp} (I : Ifx h) : hT h 78 = 20 := (I.1 (78, 20, 20) (by decide)).1
theorem fN78 {h : z_Hp} (I : Ifx h) : hN h 78 = 20 := (I.1 (78, 20, 20) (by decide)).2
theorem fT79 {h : z_Hp} (I : Ifx h) : hT h 79 = 22 := (I.1 (79, 22, 4096) (by decide)).1
theorem fN79 {h : z_Hp} (I : Ifx h) : hN h 79 = 4096 := (I.1 (79, 22, 4096) (by decide)).2
theorem fT80 {h : z_Hp} (I : Ifx h) : hT h 80 = 20 := (I.1 (80, 20, 20) (by decide)).1
theorem fN80 {h : z_Hp} (I : Ifx h) : hN h 80 = 20 := (I.1 (80, 20, 20) (by decide)).2
theorem fT81 {h : z_Hp} (I : Ifx h) : hT h 81 = 20 := (I.1 (81, 20, 20) (by decide)).1
theorem fN81 {h : z_Hp} (I : Ifx h) : hN h 81 = 20 := (I.1 (81, 20, 20) (by decide)).2
theorem fT82 {h : z_Hp} (I : Ifx h) : hT h 82 = 20 := (I.1 (82, 20, 70) (by decide)).1
theorem fN82 {h : z_Hp} (I : Ifx h) : hN h 82 = 70 := (I.1 (82, 20, 70) (by decide)).2
theorem fT83 {h : z_Hp} (I : Ifx h) : hT h 83 = 20 := (I.1 (83, 20, 70) (by decide)).1
theorem fN83 {h : z_Hp} (I : Ifx h) : hN h 83 = 70 := (I.1 (83, 20, 70) (by decide)).2
theorem fT84 {h : z_Hp} (I : Ifx h) : hT h 84 = 20 := (I.1 (84, 20, 71) (by decide)).1
theorem fN84 {h : z_Hp} (I : Ifx h) : hN h 84 = 71 := (I.1 (84, 20, 71) (by decide)).2
theorem fT85 {h : z_Hp} (I : Ifx h) : hT h 85 = 20 := (I.1 (85, 20, 71) (by decide)).1
theorem fN85 {h : z_Hp} (I : Ifx h) : hN h 85 = 71 := (I.1 (85, 20, 71) (by decide)).2
theorem fT86 {h : z_Hp} (I : Ifx h) : hT h 86 = 20 := (I.1 (86, 20, 40) (by decide)).1
theorem fN86 {h : z_Hp} (I : Ifx h) : hN h 86 = 40 := (I.1 (86, 20, 40) (by decide)).2
theorem fT87 {h : z_Hp} (I : Ifx h) : hT h 87 = 20 := (I.1 (87, 20, 40) (by decide)).1
theorem fN87 {h : z_Hp} (I : Ifx h) : hN h 87 = 40 := (I.1 (87, 20, 40) (by decide)).2
theorem fT88 {h : z_Hp} (I : Ifx h) : hT h 88 = 20 := (I.1 (88, 20, 40) (by decide)).1
theorem fN88 {h : z_Hp} (I : Ifx h) : hN h 88 = 40 := (I.1 (88, 20, 40) (by decide)).2
theorem fT89 {h : z_Hp} (I : Ifx h) : hT h 89 = 20 := (I.1 (89, 20, 4) (by decide)).1
theorem fN89 {h : z_Hp} (I : Ifx h) : hN h 89 = 4 := (I.1 (89, 20, 4) (by decide)).2
theorem fT90 {h : z_Hp} (I : Ifx h) : hT h 90 = 20 := (I.1 (90, 20, 160) (by decide)).1
theorem fN90 {h : z_Hp} (I : Ifx h) : hN h 90 = 160 := (I.1 (90, 20, 160) (by decide)).2
theorem fT91 {h : z_Hp} (I : Ifx h) : hT h 91 = 20 := (I.1 (91, 20, 30) (by decide)).1
theorem fN91 {h : z_Hp} (I : Ifx h) : hN h 91 = 30 := (I.1 (91, 20, 30) (by decide)).2
theorem fT92 {h : z_Hp} (I : Ifx h) : hT h 92 = 20 := (I.1 (92, 20, 30) (by decide)).1
theorem fN92 {h : z_Hp} (I : Ifx h) : hN h 92 = 30 := (I.1 (92, 20, 30) (by decide)).2
theorem fT93 {h : z_Hp} (I : Ifx h) : hT h 93 = 20 := (I.1 (93, 20, 30) (by decide)).1
theorem fN93 {h : z_Hp} (I : Ifx h) : hN h 93 = 30 := (I.1 (93, 20, 30) (by decide)).2
theorem fR5_0 {h : z_Hp} (I : Ifx h) : hR h 5 0 = some 6 := I.2.1 (5, 0, 6) (by decide)
theorem fR5_1 {h : z_Hp} (I : Ifx h) : hR h 5 1 = some 7 := I.2.1 (5, 1, 7) (by decide)
theorem fR5_2 {h : z_Hp} (I : Ifx h) : hR h 5 2 = some 8 := I.2.1 (5, 2, 8) (by decide)
theorem fR5_3 {h : z_Hp} (I : Ifx h) : hR h 5 3 = some 9 := I.2.1 (5, 3, 9) (by decide)
theorem fR5_5 {h : z_Hp} (I : Ifx h) : hR h 5 5 = some 10 := I.2.1 (5, 5, 10) (by decide)
theorem fR5_6 {h : z_Hp} (I : Ifx h) : hR h 5 6 = some 14 := I.2.1 (5, 6, 14) (by decide)
theorem fR5_7 {h : z_Hp} (I : Ifx h) : hR h 5 7 = some 16 := I.2.1 (5, 7, 16) (by decide)
theorem fR5_8 {h : z_Hp} (I : Ifx h) : hR h 5 8 = some 20 := I.2.1 (5, 8, 20) (by decide)
theorem fR5_9 {h : z_Hp} (I : Ifx h) : hR h 5 9 = some 28 := I.2.1 (5, 9, 28) (by decide)
theorem fR5_10 {h : z_Hp} (I : Ifx h) : hR h 5 10 = some 34 := I.2.1 (5, 10, 34) (by decide)
theorem fR5_11 {h : z_Hp} (I : Ifx h) : hR h 5 11 = some 39 := I.2.1 (5, 11, 39) (by decide)
theorem fR5_13 {h : z_Hp} (I : Ifx h) : hR h 5 13 = some 45 := I.2.1 (5, 13, 45) (by decide)
theorem fR10_0 {h : z_Hp} (I : Ifx h) : hR h 10 0 = some 11 := I.2.1 (10, 0, 11) (by decide)
theorem fR10_1 {h : z_Hp} (I : Ifx h) : hR h 10 1 = some 12 := I.2.1 (10, 1, 12) (by decide)
theorem fR10_2 {h : z_Hp} (I : Ifx h) : hR h 10 2 = some 13 := I.2.1 (10, 2, 13) (by decide)
theorem fR14_0 {h : z_Hp} (I : Ifx h) : hR h 14 0 = some 15 := I.2.1 (14, 0, 15) (by decide)
theorem fR16_0 {h : z_Hp} (I : Ifx h) : hR h 16 0 = some 17 := I.2.1 (16, 0, 17) (by decide)
theorem fR16_1 {h : z_Hp} (I : Ifx h) : hR h 16 1 = some 18 := I.2.1 (16, 1, 18) (by decide)
theorem fR20_0 {h : z_Hp} (I : Ifx h) : hR h 20 0 = some 21 := I.2.1 (20, 0, 21) (by decide)
theorem fR20_1 {h : z_Hp} (I : Ifx h) : hR h 20 1 = some 22 := I.2.1 (20, 1, 22) (by decide)
theorem fR20_2 {h : z_Hp} (I : Ifx h) : hR h 20 2 = some 23 := I.2.1 (20, 2, 23) (by decide)
theorem fR20_3 {h : z_Hp} (I : Ifx h) : hR h 20 3 = some 24 := I.2.1 (20, 3, 24) (by decide)
theorem fR20_4 {h : z_Hp} (I : Ifx h) : hR h 20 4 = some 25 := I.2.1 (20, 4, 25) (by decide)
theorem fR20_5 {h : z_Hp} (I : Ifx h) : hR h 20 5 = some 26 := I.2.1 (20, 5, 26) (by decide)
theorem fR20_6 {h : z_Hp} (I : Ifx h) : hR h 20 6 = some 27 := I.2.1 (20, 6, 27) (by decide)
theorem fR28_0 {h : z_Hp} (I : Ifx h) : hR h 28 0 = some 29 := I.2.1 (28, 0, 29) (by decide)
theorem fR28_1 {h : z_Hp} (I : Ifx h) : hR h 28 1 = some 30 := I.2.1 (28, 1, 30) (by decide)
theorem fR28_2 {h : z_Hp} (I : Ifx h) : hR h 28 2 = some 31 := I.2.1 (28, 2, 31) (by decide)
theorem fR28_3 {h : z_Hp} (I : Ifx h) : hR h 28 3 = some 32 := I.2.1 (28, 3, 32) (by decide)
theorem fR28_4 {h : z_Hp} (I : Ifx h) : hR h 28 4 = some 33 := I.2.1 (28, 4, 33) (by decide)
theorem fR34_0 {h : z_Hp} (I : Ifx h) : hR h 34 0 = some 35 := I.2.1 (34, 0, 35) (by decide)
theorem fR34_1 {h : z_Hp} (I : Ifx h) : hR h 34 1 = some 36 := I.2.1 (34, 1, 36) (by decide)
theorem fR34_2 {h : z_Hp} (I : Ifx h) : hR h 34 2 = some 37 := I.2.1 (34, 2, 37) (by decide)
theorem fR34_3 {h : z_Hp} (I : Ifx h) : hR h 34 3 = some 38 := I.2.1 (34, 3, 38) (by decide)
theorem fR39_0 {h : z_Hp} (I : Ifx h) : hR h 39 0 = some 40 := I.2.1 (39, 0, 40) (by decide)
theorem fR39_1 {h : z_Hp} (I : Ifx h) : hR h 39 1 = some 41 := I.2.1 (39, 1, 41) (by decide)
theorem fR39_2 {h : z_Hp} (I : Ifx h) : hR h 39 2 = some 42 := I.2.1 (39, 2, 42) (by decide)
theorem fR39_3 {h : z_Hp} (I : Ifx h) : hR h 39 3 = some 43 := I.2.1 (39, 3, 43) (by decide)
theorem fR39_4 {h : z_Hp} (I : Ifx h) : hR h 39 4 = some 44 := I.2.1 (39, 4, 44) (by decide)
theorem fR46_1 {h : z_Hp} (I : Ifx h) : hR h 46 1 = some 47 := I.2.1 (46, 1, 47) (by decide)
theorem fR46_7 {h : z_Hp} (I : Ifx h) : hR h 46 7 = some 48 := I.2.1 (46, 7, 48) (by decide)
theorem fR46_8 {h : z_Hp} (I : Ifx h) : hR h 46 8 = some 49 := I.2.1 (46, 8, 49) (by decide)
theorem fR46_9 {h : z_Hp} (I : Ifx h) : hR h 46 9 = some 50 := I.2.1 (46, 9, 50) (by decide)
theorem fR46_10 {h : z_Hp} (I : Ifx h) : hR h 46 10 = some 51 := I.2.1 (46, 10, 51) (by decide)
theorem fR46_11 {h : z_Hp} (I : Ifx h) : hR h 46 11 = some 52 := I.2.1 (46, 11, 52) (by decide)
theorem fR46_12 {h : z_Hp} (I : Ifx h) : hR h 46 12 = some 53 := I.2.1 (46, 12, 53) (by decide)
theorem fR46_13 {h : z_Hp} (I : Ifx h) : hR h 46 13 = some 54 := I.2.1 (46, 13, 54) (by decide)
theorem fR46_15 {h : z_Hp} (I : Ifx h) : hR h 46 15 = some 55 := I.2.1 (46, 15, 55) (by decide)
theorem fR46_16 {h : z_Hp} (I : Ifx h) : hR h 46 16 = some 56 := I.2.1 (46, 16, 56) (by decide)
theorem fR46_17 {h : z_Hp} (I : Ifx h) : hR h 46 17 = some 57 := I.2.1 (46, 17, 57) (by decide)
theorem fR46_18 {h : z_Hp} (I : Ifx h) : hR h 46 18 = some 58 := I.2.1 (46, 18, 58) (by decide)
theorem fR46_20 {h : z_Hp} (I : Ifx h) : hR h 46 20 = some 59 := I.2.1 (46, 20, 59) (by decide)
theorem fR46_21 {h : z_Hp} (I : Ifx h) : hR h 46 21 = some 60 := I.2.1 (46, 21, 60) (by decide)
theorem fR46_22 {h : z_Hp} (I : Ifx h) : hR h 46 22 = some 61 := I.2.1 (46, 22, 61) (by decide)
theorem fR46_23 {h : z_Hp} (I : Ifx h) : hR h 46 23 = some 62 := I.2.1 (46, 23, 62) (by decide)
theorem fR46_24 {h : z_Hp} (I : Ifx h) : hR h 46 24 = some 63 := I.2.1 (46, 24, 63) (by decide)
theorem fR46_25 {h : z_Hp} (I : Ifx h) : hR h 46 25 = some 64 := I.2.1 (46, 25, 64) (by decide)
theorem fR46_27 {h : z_Hp} (I : Ifx h) : hR h 46 27 = some 65 := I.2.1 (46, 27, 65) (by decide)
theorem fR46_28 {h : z_Hp} (I : Ifx h) : hR h 46 28 = some 66 := I.2.1 (46, 28, 66) (by decide)
theorem fR46_29 {h : z_Hp} (I : Ifx h) : hR h 46 29 = some 67 := I.2.1 (46, 29, 67) (by decide)
theorem fR46_30 {h : z_Hp} (I : Ifx h) : hR h 46 30 = some 68 := I.2.1 (46, 30, 68) (by decide)
theorem fR46_31 {h : z_Hp} (I : Ifx h) : hR h 46 31 = some 69 := I.2.1 (46, 31, 69) (by decide)
theorem fR46_32 {h : z_Hp} (I : Ifx h) : hR h 46 32 = some 70 := I.2.1 (46, 32, 70) (by decide)
theorem fR46_33 {h : z_Hp} (I : Ifx h) : hR h 46 33 = some 71 := I.2.1 (46, 33, 71) (by decide)
theorem fR46_34 {h : z_Hp} (I : Ifx h) : hR h 46 34 = some 72 := I.2.1 (46, 34, 72) (by decide)
theorem fR46_35 {h : z_Hp} (I : Ifx h) : hR h 46 35 = some 73 := I.2.1 (46, 35, 73) (by decide)
theorem fR46_36 {h : z_Hp} (I : Ifx h) : hR h 46 36 = some 74 := I.2.1 (46, 36, 74) (by decide)
theorem fR46_37 {h : z_Hp} (I : Ifx h) : hR h 46 37 = some 75 := I.2.1 (46, 37, 75) (by decide)
theorem fR46_38 {h : z_Hp} (I : Ifx h) : hR h 46 38 = some 76 := I.2.1 (46, 38, 76) (by decide)
theorem fR46_40 {h : z_Hp} (I : Ifx h) : hR h 46 40 = some 77 := I.2.1 (46, 40, 77) (by decide)
theorem fR46_41 {h : z_Hp} (I : Ifx h) : hR h 46 41 = some 78 := I.2.1 (46, 41, 78) (by decide)
theorem fR46_42 {h : z_Hp} (I : Ifx h) : hR h 46 42 = some 79 := I.2.1 (46, 42, 79) (by decide)
theorem fR46_43 {h : z_Hp} (I : Ifx h) : hR h 46 43 = some 80 := I.2.1 (46, 43, 80) (by decide)
theorem fR46_44 {h : z_Hp} (I : Ifx h) : hR h 46 44 = some 81 := I.2.1 (46, 44, 81) (by decide)
theorem fR46_45 {h : z_Hp} (I : Ifx h) : hR h 46 45 = some 82 := I.2.1 (46, 45, 82) (by decide)
theorem fR46_46 {h : z_Hp} (I : Ifx h) : hR h 46 46 = some 83 := I.2.1 (46, 46, 83) (by decide)
theorem fR46_47 {h : z_Hp} (I : Ifx h) : hR h 46 47 = some 84 := I.2.1 (46, 47, 84) (by decide)
theorem fR46_48 {h : z_Hp} (I : Ifx h) : hR h 46 48 = some 85 := I.2.1 (46, 48, 85) (by decide)
theorem fR46_50 {h : z_Hp} (I : Ifx h) : hR h 46 50 = some 86 := I.2.1 (46, 50, 86) (by decide)
theorem fR46_51 {h : z_Hp} (I : Ifx h) : hR h 46 51 = some 87 := I.2.1 (46, 51, 87) (by decide)
theorem fR46_52 {h : z_Hp} (I : Ifx h) : hR h 46 52 = some 88 := I.2.1 (46, 52, 88) (by decide)
theorem fR46_53 {h : z_Hp} (I : Ifx h) : hR h 46 53 = some 89 := I.2.1 (46, 53, 89) (by decide)
theorem fR46_54 {h : z_Hp} (I : Ifx h) : hR h 46 54 = some 90 := I.2.1 (46, 54, 90) (by decide)
theorem fR46_56 {h : z_Hp} (I : Ifx h) : hR h 46 56 = some 91 := I.2.1 (46, 56, 91) (by decide)
theorem fR46_57 {h : z_Hp} (I : Ifx h) : hR h 46 57 = some 92 := I.2.1 (46, 57, 92) (by decide)
theorem fR46_58 {h : z_Hp} (I : Ifx h) : hR h 46 58 = some 93 := I.2.1 (46, 58, 93) (by decide)
