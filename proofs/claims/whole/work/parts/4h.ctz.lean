section Ctz
variable (F : Nat)
def tsA : List (Nat × Nat × Nat) := [(93, 20, 30), (92, 20, 30), (91, 20, 30), (90, 20, 160), (89, 20, 4), (88, 20, 40), (87, 20, 40), (86, 20, 40), (85, 20, 71), (84, 20, 71), (83, 20, 70), (82, 20, 70), (81, 20, 20), (80, 20, 20), (79, 22, 4096), (78, 20, 20), (77, 20, 20), (76, 20, 800), (75, 20, 20), (74, 20, 20), (73, 20, 20), (72, 20, 20), (71, 20, 20), (70, 20, 20), (69, 20, 20), (68, 20, 20), (67, 20, 20), (66, 20, 20), (65, 20, 20), (64, 20, 8), (63, 20, 8), (62, 20, 5), (61, 20, 80), (60, 20, 16), (59, 20, 16), (58, 20, 48), (57, 20, 6), (56, 20, 70), (55, 20, 70), (54, 20, 600), (53, 20, 10), (52, 20, 240), (51, 20, 4), (50, 20, 40), (49, 20, 240), (48, 20, 6), (47, 20, 6), (46, 10, 62), (45, 20, 6), (44, 20, 10), (43, 20, 30), (42, 20, 30), (41, 20, 30), (40, 23, 4), (39, 4, 6), (38, 20, 40), (37, 20, 40), (36, 20, 40), (35, 20, 40), (34, 2, 5), (33, 25, 20), (32, 20, 20), (31, 20, 10), (30, 20, 10), (29, 20, 61), (28, 0, 7), (27, 20, 20), (26, 20, 20), (25, 20, 10), (24, 20, 10), (23, 20, 20), (22, 20, 8), (21, 20, 8), (20, 8, 7), (19, 20, 1), (18, 20, 12), (17, 20, 12), (16, 1, 4), (15, 26, 20), (14, 6, 2), (13, 20, 80), (12, 20, 16), (11, 20, 16), (10, 3, 4), (9, 23, 6), (8, 25, 10), (7, 24, 4), (6, 23, 6), (5, 9, 18)]
def rsA : List (Nat × Nat × Nat) := [(46, 58, 93), (46, 57, 92), (46, 56, 91), (46, 54, 90), (46, 53, 89), (46, 52, 88), (46, 51, 87), (46, 50, 86), (46, 48, 85), (46, 47, 84), (46, 46, 83), (46, 45, 82), (46, 44, 81), (46, 43, 80), (46, 42, 79), (46, 41, 78), (46, 40, 77), (46, 38, 76), (46, 37, 75), (46, 36, 74), (46, 35, 73), (46, 34, 72), (46, 33, 71), (46, 32, 70), (46, 31, 69), (46, 30, 68), (46, 29, 67), (46, 28, 66), (46, 27, 65), (46, 25, 64), (46, 24, 63), (46, 23, 62), (46, 22, 61), (46, 21, 60), (46, 20, 59), (46, 18, 58), (46, 17, 57), (46, 16, 56), (46, 15, 55), (46, 13, 54), (46, 12, 53), (46, 11, 52), (46, 10, 51), (46, 9, 50), (46, 8, 49), (46, 7, 48), (46, 1, 47), (5, 13, 45), (5, 11, 39), (39, 4, 44), (39, 3, 43), (39, 2, 42), (39, 1, 41), (39, 0, 40), (5, 10, 34), (34, 3, 38), (34, 2, 37), (34, 1, 36), (34, 0, 35), (5, 9, 28), (28, 4, 33), (28, 3, 32), (28, 2, 31), (28, 1, 30), (28, 0, 29), (5, 8, 20), (20, 6, 27), (20, 5, 26), (20, 4, 25), (20, 3, 24), (20, 2, 23), (20, 1, 22), (20, 0, 21), (5, 7, 16), (16, 2, 19), (16, 1, 18), (16, 0, 17), (5, 6, 14), (14, 0, 15), (5, 5, 10), (10, 2, 13), (10, 1, 12), (10, 0, 11), (5, 3, 9), (5, 2, 8), (5, 1, 7), (5, 0, 6)]
/-- where the reference begins with -9 -/
def m9 (a i : Nat) : Prop := (a = 48 ∧ i < 6) ∨ ((a = 51 ∨ a = 89) ∧ i < 4) ∨ (a = 53 ∧ i < 10) ∨ (a = 57 ∧ i < 6) ∨ ((a = 63 ∨ a = 64) ∧ i < 8)
theorem b_X10 (hF : 5000 ≤ F) {L : Nat} {V : Nat → Nat → Int32} (hV : ∀ a j, 46 ≤ a → V a j = 0) {P : z_Hp → Prop} (k : ∀ W : Nat → Nat → Int32, (∀ a j, ¬ m9 a j → W a j = V a j) → (∀ p, p < 6 → W 48 p = -9) → (∀ p, p < 4 → W 51 p = -9 ∧ W 89 p = -9) → (∀ p, p < 10 → W 53 p = -9) → (∀ p, p < 6 → W 57 p = -9) → (∀ p, p < 8 → W 63 p = -9 ∧ W 64 p = -9) → P (Bd L 94 8110 W tsA rsA [(46, 5), (5, 17)])) : Wp (c_X10_init F 46 (Bd L 47 785 V ((46, 10, 62) :: [(45, 20, 6), (44, 20, 10), (43, 20, 30), (42, 20, 30), (41, 20, 30), (40, 23, 4), (39, 4, 6), (38, 20, 40), (37, 20, 40), (36, 20, 40), (35, 20, 40), (34, 2, 5), (33, 25, 20), (32, 20, 20), (31, 20, 10), (30, 20, 10), (29, 20, 61), (28, 0, 7), (27, 20, 20), (26, 20, 20), (25, 20, 10), (24, 20, 10), (23, 20, 20), (22, 20, 8), (21, 20, 8), (20, 8, 7), (19, 20, 1), (18, 20, 12), (17, 20, 12), (16, 1, 4), (15, 26, 20), (14, 6, 2), (13, 20, 80), (12, 20, 16), (11, 20, 16), (10, 3, 4), (9, 23, 6), (8, 25, 10), (7, 24, 4), (6, 23, 6), (5, 9, 18)]) [(5, 13, 45), (5, 11, 39), (39, 4, 44), (39, 3, 43), (39, 2, 42), (39, 1, 41), (39, 0, 40), (5, 10, 34), (34, 3, 38), (34, 2, 37), (34, 1, 36), (34, 0, 35), (5, 9, 28), (28, 4, 33), (28, 3, 32), (28, 2, 31), (28, 1, 30), (28, 0, 29), (5, 8, 20), (20, 6, 27), (20, 5, 26), (20, 4, 25), (20, 3, 24), (20, 2, 23), (20, 1, 22), (20, 0, 21), (5, 7, 16), (16, 2, 19), (16, 1, 18), (16, 0, 17), (5, 6, 14), (14, 0, 15), (5, 5, 10), (10, 2, 13), (10, 1, 12), (10, 0, 11), (5, 3, 9), (5, 2, 8), (5, 1, 7), (5, 0, 6)] [(5, 17)])) P := by
  unfold c_X10_init
  refine wbN (n := 6) (z' := 48) (by decide) (by decide) rfl (by decide) (fun a j ha => hV a j (by omega)) (by decide) (by decide) ?_
  refine wbR rfl ?_
  refine wbJ rfl ?_
  refine wbN (n := 6) (z' := 49) (by decide) (by decide) rfl (by decide) (fun a j ha => hV a j (by omega)) (by decide) (by decide) ?_
  refine wbR rfl ?_
  refine wbN (n := 240) (z' := 50) (by decide) (by decide) rfl (by decide) (fun a j ha => hV a j (by omega)) (by decide) (by decide) ?_
  refine wbR rfl ?_
  refine wbN (n := 40) (z' := 51) (by decide) (by decide) rfl (by decide) (fun a j ha => hV a j (by omega)) (by decide) (by decide) ?_
  refine wbR rfl ?_
  refine wbN (n := 4) (z' := 52) (by decide) (by decide) rfl (by decide) (fun a j ha => hV a j (by omega)) (by decide) (by decide) ?_
  refine wbR rfl ?_
  refine wbN (n := 240) (z' := 53) (by decide) (by decide) rfl (by decide) (fun a j ha => hV a j (by omega)) (by decide) (by decide) ?_
  refine wbR rfl ?_
  refine wbN (n := 10) (z' := 54) (by decide) (by decide) rfl (by decide) (fun a j ha => hV a j (by omega)) (by decide) (by decide) ?_
  refine wbR rfl ?_
  refine wbN (n := 600) (z' := 55) (by decide) (by decide) rfl (by decide) (fun a j ha => hV a j (by omega)) (by decide) (by decide) ?_
  refine wbR rfl ?_
  refine wbN (n := 70) (z' := 56) (by decide) (by decide) rfl (by decide) (fun a j ha => hV a j (by omega)) (by decide) (by decide) ?_
  refine wbR rfl ?_
  refine wbN (n := 70) (z' := 57) (by decide) (by decide) rfl (by decide) (fun a j ha => hV a j (by omega)) (by decide) (by decide) ?_
  refine wbR rfl ?_
  refine wbN (n := 6) (z' := 58) (by decide) (by decide) rfl (by decide) (fun a j ha => hV a j (by omega)) (by decide) (by decide) ?_
  refine wbR rfl ?_
  refine wbN (n := 48) (z' := 59) (by decide) (by decide) rfl (by decide) (fun a j ha => hV a j (by omega)) (by decide) (by decide) ?_
  refine wbR rfl ?_
  refine wbN (n := 16) (z' := 60) (by decide) (by decide) rfl (by decide) (fun a j ha => hV a j (by omega)) (by decide) (by decide) ?_
  refine wbR rfl ?_
  refine wbN (n := 16) (z' := 61) (by decide) (by decide) rfl (by decide) (fun a j ha => hV a j (by omega)) (by decide) (by decide) ?_
  refine wbR rfl ?_
  refine wbN (n := 80) (z' := 62) (by decide) (by decide) rfl (by decide) (fun a j ha => hV a j (by omega)) (by decide) (by decide) ?_
  refine wbR rfl ?_
  refine wbN (n := 5) (z' := 63) (by decide) (by decide) rfl (by decide) (fun a j ha => hV a j (by omega)) (by decide) (by decide) ?_
  refine wbR rfl ?_
  refine wbN (n := 8) (z' := 64) (by decide) (by decide) rfl (by decide) (fun a j ha => hV a j (by omega)) (by decide) (by decide) ?_
  refine wbR rfl ?_
  refine wbN (n := 8) (z' := 65) (by decide) (by decide) rfl (by decide) (fun a j ha => hV a j (by omega)) (by decide) (by decide) ?_
  refine wbR rfl ?_
  refine wbN (n := 20) (z' := 66) (by decide) (by decide) rfl (by decide) (fun a j ha => hV a j (by omega)) (by decide) (by decide) ?_
  refine wbR rfl ?_
  refine wbN (n := 20) (z' := 67) (by decide) (by decide) rfl (by decide) (fun a j ha => hV a j (by omega)) (by decide) (by decide) ?_
  refine wbR rfl ?_
  refine wbN (n := 20) (z' := 68) (by decide) (by decide) rfl (by decide) (fun a j ha => hV a j (by omega)) (by decide) (by decide) ?_
  refine wbR rfl ?_
  refine wbN (n := 20) (z' := 69) (by decide) (by decide) rfl (by decide) (fun a j ha => hV a j (by omega)) (by decide) (by decide) ?_
  refine wbR rfl ?_
  refine wbN (n := 20) (z' := 70) (by decide) (by decide) rfl (by decide) (fun a j ha => hV a j (by omega)) (by decide) (by decide) ?_
  refine wbR rfl ?_
  refine wbN (n := 20) (z' := 71) (by decide) (by decide) rfl (by decide) (fun a j ha => hV a j (by omega)) (by decide) (by decide) ?_
  refine wbR rfl ?_
  refine wbN (n := 20) (z' := 72) (by decide) (by decide) rfl (by decide) (fun a j ha => hV a j (by omega)) (by decide) (by decide) ?_
  refine wbR rfl ?_
  refine wbN (n := 20) (z' := 73) (by decide) (by decide) rfl (by decide) (fun a j ha => hV a j (by omega)) (by decide) (by decide) ?_
  refine wbR rfl ?_
  refine wbN (n := 20) (z' := 74) (by decide) (by decide) rfl (by decide) (fun a j ha => hV a j (by omega)) (by decide) (by decide) ?_
  refine wbR rfl ?_
  refine wbN (n := 20) (z' := 75) (by decide) (by decide) rfl (by decide) (fun a j ha => hV a j (by omega)) (by decide) (by decide) ?_
  refine wbR rfl ?_
  refine wbN (n := 20) (z' := 76) (by decide) (by decide) rfl (by decide) (fun a j ha => hV a j (by omega)) (by decide) (by decide) ?_
  refine wbR rfl ?_
  refine wbN (n := 800) (z' := 77) (by decide) (by decide) rfl (by decide) (fun a j ha => hV a j (by omega)) (by decide) (by decide) ?_
  refine wbR rfl ?_
  refine wbN (n := 20) (z' := 78) (by decide) (by decide) rfl (by decide) (fun a j ha => hV a j (by omega)) (by decide) (by decide) ?_
  refine wbR rfl ?_
  refine wbN (n := 20) (z' := 79) (by decide) (by decide) rfl (by decide) (fun a j ha => hV a j (by omega)) (by decide) (by decide) ?_
  refine wbR rfl ?_
  refine wbN (n := 4096) (z' := 80) (by decide) (by decide) rfl (by decide) (fun a j ha => hV a j (by omega)) (by decide) (by decide) ?_
  refine wbR rfl ?_
  refine wbN (n := 20) (z' := 81) (by decide) (by decide) rfl (by decide) (fun a j ha => hV a j (by omega)) (by decide) (by decide) ?_
  refine wbR rfl ?_
  refine wbN (n := 20) (z' := 82) (by decide) (by decide) rfl (by decide) (fun a j ha => hV a j (by omega)) (by decide) (by decide) ?_
  refine wbR rfl ?_
  refine wbN (n := 70) (z' := 83) (by decide) (by decide) rfl (by decide) (fun a j ha => hV a j (by omega)) (by decide) (by decide) ?_
  refine wbR rfl ?_
  refine wbN (n := 70) (z' := 84) (by decide) (by decide) rfl (by decide) (fun a j ha => hV a j (by omega)) (by decide) (by decide) ?_
  refine wbR rfl ?_
  refine wbN (n := 71) (z' := 85) (by decide) (by decide) rfl (by decide) (fun a j ha => hV a j (by omega)) (by decide) (by decide) ?_
  refine wbR rfl ?_
  refine wbN (n := 71) (z' := 86) (by decide) (by decide) rfl (by decide) (fun a j ha => hV a j (by omega)) (by decide) (by decide) ?_
  refine wbR rfl ?_
  refine wbN (n := 40) (z' := 87) (by decide) (by decide) rfl (by decide) (fun a j ha => hV a j (by omega)) (by decide) (by decide) ?_
  refine wbR rfl ?_
  refine wbN (n := 40) (z' := 88) (by decide) (by decide) rfl (by decide) (fun a j ha => hV a j (by omega)) (by decide) (by decide) ?_
  refine wbR rfl ?_
  refine wbN (n := 40) (z' := 89) (by decide) (by decide) rfl (by decide) (fun a j ha => hV a j (by omega)) (by decide) (by decide) ?_
  refine wbR rfl ?_
  refine wbN (n := 4) (z' := 90) (by decide) (by decide) rfl (by decide) (fun a j ha => hV a j (by omega)) (by decide) (by decide) ?_
  refine wbR rfl ?_
  refine wbN (n := 160) (z' := 91) (by decide) (by decide) rfl (by decide) (fun a j ha => hV a j (by omega)) (by decide) (by decide) ?_
  refine wbR rfl ?_
  refine wbN (n := 30) (z' := 92) (by decide) (by decide) rfl (by decide) (fun a j ha => hV a j (by omega)) (by decide) (by decide) ?_
  refine wbR rfl ?_
  refine wbN (n := 30) (z' := 93) (by decide) (by decide) rfl (by decide) (fun a j ha => hV a j (by omega)) (by decide) (by decide) ?_
  refine wbR rfl ?_
  refine wbN (n := 30) (z' := 94) (by decide) (by decide) rfl (by decide) (fun a j ha => hV a j (by omega)) (by decide) (by decide) ?_
  refine wbR rfl ?_
  refine b_L390 F hF rfl rfl rfl rfl _ (fun g1 c1 d1 => ?_)
  rw [c1.bd]
  refine b_L412 F hF rfl rfl rfl rfl rfl rfl rfl _ (fun g2 c2 d2 => ?_)
  rw [c2.bd]
  refine b_L441 F hF rfl rfl rfl rfl _ (fun g3 c3 d3 => ?_)
  rw [c3.bd]
  refine b_L463 F hF rfl rfl rfl rfl _ (fun g4 c4 d4 => ?_)
  rw [c4.bd]
  refine b_L485 F hF rfl rfl rfl rfl rfl rfl rfl (fun g5 c5 d5 => ?_)
  rw [c5.bd]
  have a1 : ∀ a i, ¬ (a = 48 ∧ i < 6) → g1.1 a i = V a i := fun a i e => c1.1 a i e
  have a2 : ∀ a i, ¬ ((a = 51 ∨ a = 89) ∧ i < 4) → g2.1 a i = g1.1 a i := fun a i e => c2.1 a i e
  have a3 : ∀ a i, ¬ (a = 53 ∧ i < 10) → g3.1 a i = g2.1 a i := fun a i e => c3.1 a i e
  have a4 : ∀ a i, ¬ (a = 57 ∧ i < 6) → g4.1 a i = g3.1 a i := fun a i e => c4.1 a i e
  have a5 : ∀ a i, ¬ ((a = 63 ∨ a = 64) ∧ i < 8) → g5.1 a i = g4.1 a i := fun a i e => c5.1 a i e
  refine k g5.1 (fun a i e => ?_) (fun p hp => ?_) (fun p hp => ?_) (fun p hp => ?_) (fun p hp => ?_) (fun p hp => ?_)
  · rw [a5 a i (fun y => e (by unfold m9; omega)), a4 a i (fun y => e (by unfold m9; omega)), a3 a i (fun y => e (by unfold m9; omega)), a2 a i (fun y => e (by unfold m9; omega)), a1 a i (fun y => e (by unfold m9; omega))]
  · rw [a5 48 p (by omega), a4 48 p (by omega), a3 48 p (by omega), a2 48 p (by omega)]; exact d1 p hp
  · rw [a5 51 p (by omega), a4 51 p (by omega), a3 51 p (by omega), a5 89 p (by omega), a4 89 p (by omega), a3 89 p (by omega)]; exact d2 p hp
  · rw [a5 53 p (by omega), a4 53 p (by omega)]; exact d3 p hp
  · rw [a5 57 p (by omega)]; exact d4 p hp
  · exact d5 p hp
end Ctz
