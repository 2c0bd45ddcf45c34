section Ctx
variable (F : Nat)
/-- the cells and refs of the class's object -/
def ts9 : List (Nat × Nat × Nat) := [(45, 20, 6), (44, 20, 10), (43, 20, 30), (42, 20, 30), (41, 20, 30), (40, 23, 4), (39, 4, 6), (38, 20, 40), (37, 20, 40), (36, 20, 40), (35, 20, 40), (34, 2, 5), (33, 25, 20), (32, 20, 20), (31, 20, 10), (30, 20, 10), (29, 20, 61), (28, 0, 7), (27, 20, 20), (26, 20, 20), (25, 20, 10), (24, 20, 10), (23, 20, 20), (22, 20, 8), (21, 20, 8), (20, 8, 7), (19, 20, 1), (18, 20, 12), (17, 20, 12), (16, 1, 4), (15, 26, 20), (14, 6, 2), (13, 20, 80), (12, 20, 16), (11, 20, 16), (10, 3, 4), (9, 23, 6), (8, 25, 10), (7, 24, 4), (6, 23, 6), (5, 9, 18)]
def rs9 : List (Nat × Nat × Nat) := [(5, 13, 45), (5, 11, 39), (39, 4, 44), (39, 3, 43), (39, 2, 42), (39, 1, 41), (39, 0, 40), (5, 10, 34), (34, 3, 38), (34, 2, 37), (34, 1, 36), (34, 0, 35), (5, 9, 28), (28, 4, 33), (28, 3, 32), (28, 2, 31), (28, 1, 30), (28, 0, 29), (5, 8, 20), (20, 6, 27), (20, 5, 26), (20, 4, 25), (20, 3, 24), (20, 2, 23), (20, 1, 22), (20, 0, 21), (5, 7, 16), (16, 2, 19), (16, 1, 18), (16, 0, 17), (5, 6, 14), (14, 0, 15), (5, 5, 10), (10, 2, 13), (10, 1, 12), (10, 0, 11), (5, 3, 9), (5, 2, 8), (5, 1, 7), (5, 0, 6)]
theorem b_X9 (hF : 5000 ≤ F) {L : Nat} {V : Nat → Nat → Int32} (hV : ∀ a j, 5 ≤ a → V a j = 0) {P : z_Hp → Prop} (k : ∀ W : Nat → Nat → Int32, (∀ a j, ¬ ((a = 21 ∨ a = 22) ∧ j < 8) → W a j = V a j) → (∀ p, p < 8 → W 21 p = -9 ∧ W 22 p = -9) → P (Bd L 46 723 W ts9 rs9 [(5, 17)])) : Wp (c_X9_init F 5 (Bd L 6 18 V [(5, 9, 18)] [] [])) P := by
  unfold c_X9_init
  refine wbN (n := 6) (z' := 7) (by decide) (by decide) rfl (by decide) (fun a j ha => hV a j (by omega)) (by decide) (by decide) ?_
  refine wbR rfl ?_
  refine wbN (n := 4) (z' := 8) (by decide) (by decide) rfl (by decide) (fun a j ha => hV a j (by omega)) (by decide) (by decide) ?_
  refine wbR rfl ?_
  refine wbN (n := 10) (z' := 9) (by decide) (by decide) rfl (by decide) (fun a j ha => hV a j (by omega)) (by decide) (by decide) ?_
  refine wbR rfl ?_
  refine wbN (n := 6) (z' := 10) (by decide) (by decide) rfl (by decide) (fun a j ha => hV a j (by omega)) (by decide) (by decide) ?_
  refine wbR rfl ?_
  refine wbO (z' := 11) rfl (by decide) (fun a j ha => hV a j (by omega)) (by decide) (by decide) ?_
  refine Wp.cV ?_
  unfold c_X3_init
  refine wbN (n := 16) (z' := 12) (by decide) (by decide) rfl (by decide) (fun a j ha => hV a j (by omega)) (by decide) (by decide) ?_
  refine wbR rfl ?_
  refine wbN (n := 16) (z' := 13) (by decide) (by decide) rfl (by decide) (fun a j ha => hV a j (by omega)) (by decide) (by decide) ?_
  refine wbR rfl ?_
  refine Wp.ifT rfl ?_
  refine wbN (n := 80) (z' := 14) (show inb (16 * nI 5) 100000 = true by decide) (show ix (16 * nI 5) = 80 by decide) rfl (by decide) (fun a j ha => hV a j (by omega)) (by decide) (by decide) ?_
  refine wbR rfl ?_
  refine Wp.ret ?_
  refine wbR rfl ?_
  refine wbO (z' := 15) rfl (by decide) (fun a j ha => hV a j (by omega)) (by decide) (by decide) ?_
  refine Wp.cV ?_
  unfold c_X6_init
  refine wbN (n := 20) (z' := 16) (by decide) (by decide) rfl (by decide) (fun a j ha => hV a j (by omega)) (by decide) (by decide) ?_
  refine wbR rfl ?_
  refine Wp.ret ?_
  refine wbR rfl ?_
  refine wbO (z' := 17) rfl (by decide) (fun a j ha => hV a j (by omega)) (by decide) (by decide) ?_
  refine Wp.cV ?_
  unfold c_X1_init
  refine wbN (n := 12) (z' := 18) (by decide) (by decide) rfl (by decide) (fun a j ha => hV a j (by omega)) (by decide) (by decide) ?_
  refine wbR rfl ?_
  refine wbN (n := 12) (z' := 19) (by decide) (by decide) rfl (by decide) (fun a j ha => hV a j (by omega)) (by decide) (by decide) ?_
  refine wbR rfl ?_
  refine wbN (n := 1) (z' := 20) (by decide) (by decide) rfl (by decide) (fun a j ha => hV a j (by omega)) (by decide) (by decide) ?_
  refine wbR rfl ?_
  refine Wp.ret ?_
  refine wbR rfl ?_
  refine wbO (z' := 21) rfl (by decide) (fun a j ha => hV a j (by omega)) (by decide) (by decide) ?_
  refine Wp.cV ?_
  unfold c_X8_init
  refine wbN (n := 8) (z' := 22) (by decide) (by decide) rfl (by decide) (fun a j ha => hV a j (by omega)) (by decide) (by decide) ?_
  refine wbR rfl ?_
  refine wbN (n := 8) (z' := 23) (by decide) (by decide) rfl (by decide) (fun a j ha => hV a j (by omega)) (by decide) (by decide) ?_
  refine wbR rfl ?_
  refine wbN (n := 20) (z' := 24) (by decide) (by decide) rfl (by decide) (fun a j ha => hV a j (by omega)) (by decide) (by decide) ?_
  refine wbR rfl ?_
  refine wbN (n := 10) (z' := 25) (by decide) (by decide) rfl (by decide) (fun a j ha => hV a j (by omega)) (by decide) (by decide) ?_
  refine wbR rfl ?_
  refine wbN (n := 10) (z' := 26) (by decide) (by decide) rfl (by decide) (fun a j ha => hV a j (by omega)) (by decide) (by decide) ?_
  refine wbR rfl ?_
  refine wbN (n := 20) (z' := 27) (by decide) (by decide) rfl (by decide) (fun a j ha => hV a j (by omega)) (by decide) (by decide) ?_
  refine wbR rfl ?_
  refine wbN (n := 20) (z' := 28) (by decide) (by decide) rfl (by decide) (fun a j ha => hV a j (by omega)) (by decide) (by decide) ?_
  refine wbR rfl ?_
  refine (b_L62 F hF rfl rfl rfl rfl rfl rfl rfl).mono (fun g c => ?_)
  obtain ⟨c1, c2⟩ := c
  have w1 : ∀ a j, ¬ ((a = 21 ∨ a = 22) ∧ j < 8) → g.1 a j = V a j := fun a j e => c1.1 a j e
  have hW : ∀ a j, 23 ≤ a → g.1 a j = 0 := fun a j ha => (w1 a j (by omega)).trans (hV a j (by omega))
  have w2 : ∀ p, p < 8 → g.1 21 p = -9 ∧ g.1 22 p = -9 := c2
  rw [c1.bd]
  generalize g.1 = W at w1 hW w2 ⊢
  refine wbR rfl ?_
  refine wbO (z' := 29) rfl (by decide) (fun a j ha => hW a j (by omega)) (by decide) (by decide) ?_
  refine Wp.cV ?_
  unfold c_X0_init
  refine wbN (n := 61) (z' := 30) (by decide) (by decide) rfl (by decide) (fun a j ha => hW a j (by omega)) (by decide) (by decide) ?_
  refine wbR rfl ?_
  refine wbN (n := 10) (z' := 31) (by decide) (by decide) rfl (by decide) (fun a j ha => hW a j (by omega)) (by decide) (by decide) ?_
  refine wbR rfl ?_
  refine wbN (n := 10) (z' := 32) (by decide) (by decide) rfl (by decide) (fun a j ha => hW a j (by omega)) (by decide) (by decide) ?_
  refine wbR rfl ?_
  refine wbN (n := 20) (z' := 33) (by decide) (by decide) rfl (by decide) (fun a j ha => hW a j (by omega)) (by decide) (by decide) ?_
  refine wbR rfl ?_
  refine wbN (n := 20) (z' := 34) (by decide) (by decide) rfl (by decide) (fun a j ha => hW a j (by omega)) (by decide) (by decide) ?_
  refine wbR rfl ?_
  refine Wp.ret ?_
  refine wbR rfl ?_
  refine wbO (z' := 35) rfl (by decide) (fun a j ha => hW a j (by omega)) (by decide) (by decide) ?_
  refine Wp.cV ?_
  unfold c_X2_init
  refine wbN (n := 40) (z' := 36) (by decide) (by decide) rfl (by decide) (fun a j ha => hW a j (by omega)) (by decide) (by decide) ?_
  refine wbR rfl ?_
  refine wbN (n := 40) (z' := 37) (by decide) (by decide) rfl (by decide) (fun a j ha => hW a j (by omega)) (by decide) (by decide) ?_
  refine wbR rfl ?_
  refine wbN (n := 40) (z' := 38) (by decide) (by decide) rfl (by decide) (fun a j ha => hW a j (by omega)) (by decide) (by decide) ?_
  refine wbR rfl ?_
  refine wbN (n := 40) (z' := 39) (by decide) (by decide) rfl (by decide) (fun a j ha => hW a j (by omega)) (by decide) (by decide) ?_
  refine wbR rfl ?_
  refine Wp.ret ?_
  refine wbR rfl ?_
  refine wbO (z' := 40) rfl (by decide) (fun a j ha => hW a j (by omega)) (by decide) (by decide) ?_
  refine Wp.cV ?_
  unfold c_X4_init
  refine wbN (n := 4) (z' := 41) (by decide) (by decide) rfl (by decide) (fun a j ha => hW a j (by omega)) (by decide) (by decide) ?_
  refine wbR rfl ?_
  refine wbN (n := 30) (z' := 42) (by decide) (by decide) rfl (by decide) (fun a j ha => hW a j (by omega)) (by decide) (by decide) ?_
  refine wbR rfl ?_
  refine wbN (n := 30) (z' := 43) (by decide) (by decide) rfl (by decide) (fun a j ha => hW a j (by omega)) (by decide) (by decide) ?_
  refine wbR rfl ?_
  refine wbN (n := 30) (z' := 44) (by decide) (by decide) rfl (by decide) (fun a j ha => hW a j (by omega)) (by decide) (by decide) ?_
  refine wbR rfl ?_
  refine wbN (n := 10) (z' := 45) (by decide) (by decide) rfl (by decide) (fun a j ha => hW a j (by omega)) (by decide) (by decide) ?_
  refine wbR rfl ?_
  refine Wp.ret ?_
  refine wbR rfl ?_
  refine wbN (n := 6) (z' := 46) (by decide) (by decide) rfl (by decide) (fun a j ha => hW a j (by omega)) (by decide) (by decide) ?_
  refine wbR rfl ?_
  refine wbJ rfl ?_
  exact Wp.ret (k W w1 w2)
end Ctx
