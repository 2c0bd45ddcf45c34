section LawTurn
set_option maxRecDepth 50000 in
set_option maxHeartbeats 40000000 in
theorem lw_turn {F : Nat} (hF : 5000 ≤ F) {n L k : Nat} {x9 : Int32} {h : z_Hp} {P : Int32 × z_Hp → Prop} (hL : L ≤ 3072) (hk : 6 * k + 6 ≤ L) (e1 : x9 = nI (6 * k)) (J : Inv h) (e4 : hN h 4 = L)
    (ih : ∀ h2, Inv h2 → hZ h2 ≤ hZ h + 5 → hS h2 ≤ hS h + 5000 → hN h2 4 = L → Wp (c_L_law_L18 F 5 46 n (nI (6 * k + 6)) h2) P) : Wp (c_L_law_L18 F 5 46 (n + 1) x9 h) P := by
  have hb : ∀ i, i < 6 → inb (nI (6 * k + i)) (hN h 4) = true := fun i hi => by rw [e4]; exact inb_n (by omega) (by omega)
  have b0 : inb x9 (hN h 4) = true := by rw [e1]; exact hb 0 (by decide)
  have b1 : inb (x9 + 1) (hN h 4) = true := by rw [e1, show (1 : Int32) = nI 1 from rfl, nI_add]; exact hb 1 (by decide)
  have b2 : inb (x9 + 2) (hN h 4) = true := by rw [e1, show (2 : Int32) = nI 2 from rfl, nI_add]; exact hb 2 (by decide)
  have b3 : inb (x9 + 3) (hN h 4) = true := by rw [e1, show (3 : Int32) = nI 3 from rfl, nI_add]; exact hb 3 (by decide)
  have b4 : inb (x9 + 4) (hN h 4) = true := by rw [e1, show (4 : Int32) = nI 4 from rfl, nI_add]; exact hb 4 (by decide)
  have b5 : inb (x9 + 5) (hN h 4) = true := by rw [e1, show (5 : Int32) = nI 5 from rfl, nI_add]; exact hb 5 (by decide)
  have g0 : ¬ nI (hN h 4) - 6 < x9 := by
    rw [e1, e4, show (6 : Int32) = nI 6 from rfl, nI_sub (show 6 ≤ L by omega)]
    exact nI_nlt (by omega) (by omega)
  have x6 : x9 + 6 = nI (6 * k + 6) := by rw [e1, show (6 : Int32) = nI 6 from rfl, nI_add]
  rw [c_L_law_L18]
  refine Wp.ifT (okL_n J.t4 (by decide) (by decide)) (Wp.ifF g0 (Wp.ifT b0 (Wp.lj (fun j hj => ?_))))
  have kk : Nxt h j P := fun h2 J2 z2 s2 n2 => by
    rw [hj]
    show Wp (c_L_law_L18 F 5 46 n (x9 + 6) h2) P
    rw [x6]
    exact ih h2 J2 z2 s2 (n2.trans e4)
  clear hj ih
  refine Wp.cs (fun _ => kk h J (by omega) (by omega) rfl) (fun ng => ?_)
  refine Wp.cs (fun _ => lw_a2 (C := c_X9_row F 5) (D := c_X10_row F 46) J kk b1 b2 (op_row F _ _ hF J) (fun _ _ e => fr_I (t_X9_row F 5 _ _ _) e) (fun _ _ _ e => fr_I (t_X10_row F 46 _ _ _) e)) (fun n0 => ?_)
  refine Wp.cs (fun _ => lw_a3 (C := c_X9_lay F 5) (D := c_X10_lay F 46) J kk b1 b2 b3 (op_lay F _ _ _ J) (fun _ _ e => fr_I (t_X9_lay F 5 _ _ _ _) e) (fun _ _ _ e => fr_I (t_X10_lay F 46 _ _ _ _) e)) (fun n1 => ?_)
  refine Wp.cs (fun _ => lw_a1 (C := c_X9_tear F 5) (D := c_X10_tear F 46) J kk b1 (op_tear F _ J) (fun _ _ e => fr_I (t_X9_tear F 5 _ _) e) (fun _ _ _ e => fr_I (t_X10_tear F 46 _ _) e)) (fun n2 => ?_)
  refine Wp.cs (fun _ => lw_a5 (C := c_X9_copy F 5) (D := c_X10_copy F 46) J kk b1 b2 b3 b4 b5 (op_copy F _ _ _ _ _ hF J) (fun _ _ e => fr_I (t_X9_copy F 5 _ _ _ _ _ _) e) (fun _ _ _ e => fr_I (t_X10_copy F 46 _ _ _ _ _ _) e)) (fun n3 => ?_)
  refine Wp.cs (fun _ => lw_a1 (C := c_X9_mean F 5) (D := c_X10_mean F 46) J kk b1 (op_mean F _ hF J) (fun _ _ e => fr_I (t_X9_mean F 5 _ _) e) (fun _ _ _ e => fr_I (t_X10_mean F 46 _ _) e)) (fun n4 => ?_)
  refine Wp.cs (fun _ => lw_a2 (C := c_X9_text F 5) (D := c_X10_text F 46) J kk b1 b2 (op_text F _ _ hF J) (fun _ _ e => fr_I (t_X9_text F 5 _ _ _) e) (fun _ _ _ e => fr_I (t_X10_text F 46 _ _ _) e)) (fun n5 => ?_)
  refine Wp.cs (fun _ => lw_a3 (C := c_X9_put F 5) (D := c_X10_put F 46) J kk b1 b2 b3 (op_put F _ _ _ J) (fun _ _ e => fr_I (t_X9_put F 5 _ _ _ _) e) (fun _ _ _ e => fr_I (t_X10_put F 46 _ _ _ _) e)) (fun n6 => ?_)
  refine Wp.cs (fun _ => lw_a1 (C := c_X9_later F 5) (D := c_X10_later F 46) J kk b1 (op_later F _ J) (fun _ _ e => fr_I (t_X9_later F 5 _ _) e) (fun _ _ _ e => fr_I (t_X10_later F 46 _ _) e)) (fun n7 => ?_)
  refine Wp.cs (fun _ => lw_a2 (C := c_X9_song F 5) (D := c_X10_song F 46) J kk b1 b2 (op_song F _ _ hF J) (fun _ _ e => fr_I (t_X9_song F 5 _ _ _) e) (fun _ _ _ e => fr_I (t_X10_song F 46 _ _ _) e)) (fun n8 => ?_)
  refine Wp.cs (fun _ => lw_a2 (C := c_X9_songTold F 5) (D := c_X10_songTold F 46) J kk b1 b2 (op_songTold F _ _ hF J) (fun _ _ e => fr_I (t_X9_songTold F 5 _ _ _) e) (fun _ _ _ e => fr_I (t_X10_songTold F 46 _ _ _) e)) (fun n9 => ?_)
  refine Wp.cs (fun _ => lw_a2 (C := c_X9_measure F 5) (D := c_X10_measure F 46) J kk b1 b2 (op_measure F _ _ hF J) (fun _ _ e => fr_I (t_X9_measure F 5 _ _ _) e) (fun _ _ _ e => fr_I (t_X10_measure F 46 _ _ _) e)) (fun n10 => ?_)
  refine Wp.cs (fun _ => lw_a3 (C := c_X9_rhyme F 5) (D := c_X10_rhyme F 46) J kk b1 b2 b3 (op_rhyme F _ _ _ hF J) (fun _ _ e => fr_I (t_X9_rhyme F 5 _ _ _ _) e) (fun _ _ _ e => fr_I (t_X10_rhyme F 46 _ _ _ _) e)) (fun n11 => ?_)
  refine Wp.cs (fun _ => lw_a2 (C := c_X9_tune F 5) (D := c_X10_tune F 46) J kk b1 b2 (op_tune F _ _ hF J) (fun _ _ e => fr_I (t_X9_tune F 5 _ _ _) e) (fun _ _ _ e => fr_I (t_X10_tune F 46 _ _ _) e)) (fun n12 => ?_)
  refine Wp.cs (fun _ => lw_a2 (C := c_X9_fit F 5) (D := c_X10_fit F 46) J kk b1 b2 (op_fit F _ _ hF J) (fun _ _ e => fr_I (t_X9_fit F 5 _ _ _) e) (fun _ _ _ e => fr_I (t_X10_fit F 46 _ _ _) e)) (fun n13 => ?_)
  refine Wp.cs (fun _ => lw_a1 (C := c_X9_tunes F 5) (D := c_X10_tunes F 46) J kk b1 (op_tunes F _ hF J) (fun _ _ e => fr_I (t_X9_tunes F 5 _ _) e) (fun _ _ _ e => fr_I (t_X10_tunes F 46 _ _) e)) (fun n14 => ?_)
  refine Wp.cs (fun _ => lw_a1 (C := c_X9_fault F 5) (D := c_X10_fault F 46) J kk b1 (op_fault F _ hF J) (fun _ _ e => fr_I (t_X9_fault F 5 _ _) e) (fun _ _ _ e => fr_I (t_X10_fault F 46 _ _) e)) (fun n15 => ?_)
  refine Wp.cs (fun _ => lw_a2 (C := c_X9_rule F 5) (D := c_X10_rule F 46) J kk b1 b2 (op_rule F _ _ hF J) (fun _ _ e => fr_I (t_X9_rule F 5 _ _ _) e) (fun _ _ _ e => fr_I (t_X10_rule F 46 _ _ _) e)) (fun n16 => ?_)
  refine Wp.cs (fun _ => lw_a3 (C := c_X9_force F 5) (D := c_X10_force F 46) J kk b1 b2 b3 (op_force F _ _ _ hF J) (fun _ _ e => fr_I (t_X9_force F 5 _ _ _ _) e) (fun _ _ _ e => fr_I (t_X10_force F 46 _ _ _ _) e)) (fun n17 => ?_)
  refine Wp.cs (fun _ => lw_a3 (C := c_X9_why F 5) (D := c_X10_why F 46) J kk b1 b2 b3 (op_why F _ _ _ hF J) (fun _ _ e => fr_I (t_X9_why F 5 _ _ _ _) e) (fun _ _ _ e => fr_I (t_X10_why F 46 _ _ _ _) e)) (fun n18 => ?_)
  refine Wp.cs (fun _ => lw_a3 (C := c_X9_printer F 5) (D := c_X10_printer F 46) J kk b1 b2 b3 (op_printer F _ _ _ J) (fun _ _ e => fr_I (t_X9_printer F 5 _ _ _ _) e) (fun _ _ _ e => fr_I (t_X10_printer F 46 _ _ _ _) e)) (fun n19 => ?_)
  refine Wp.cs (fun _ => lw_a4 (C := c_X9_sheet F 5) (D := c_X10_sheet F 46) J kk b1 b2 b3 b4 (op_sheet F _ _ _ _ hF J) (fun _ _ e => fr_I (t_X9_sheet F 5 _ _ _ _ _) e) (fun _ _ _ e => fr_I (t_X10_sheet F 46 _ _ _ _ _) e)) (fun n20 => ?_)
  refine Wp.cs (fun _ => lw_a3 (C := c_X9_block F 5) (D := c_X10_block F 46) J kk b1 b2 b3 (op_block F _ _ _ J) (fun _ _ e => fr_I (t_X9_block F 5 _ _ _ _) e) (fun _ _ _ e => fr_I (t_X10_block F 46 _ _ _ _) e)) (fun n21 => ?_)
  refine Wp.cs (fun _ => lw_a3 (C := c_X9_type F 5) (D := c_X10_type F 46) J kk b1 b2 b3 (op_type F _ _ _ J) (fun _ _ e => fr_I (t_X9_type F 5 _ _ _ _) e) (fun _ _ _ e => fr_I (t_X10_type F 46 _ _ _ _) e)) (fun n22 => ?_)
  refine Wp.cs (fun _ => lw_a3 (C := c_X9_span F 5) (D := c_X10_span F 46) J kk b1 b2 b3 (op_span F _ _ _ J) (fun _ _ e => fr_I (t_X9_span F 5 _ _ _ _) e) (fun _ _ _ e => fr_I (t_X10_span F 46 _ _ _ _) e)) (fun n23 => ?_)
  refine Wp.cs (fun _ => lw_a2 (C := c_X9_told F 5) (D := c_X10_told F 46) J kk b1 b2 (op_told F _ _ J) (fun _ _ e => fr_I (t_X9_told F 5 _ _ _) e) (fun _ _ _ e => fr_I (t_X10_told F 46 _ _ _) e)) (fun n24 => ?_)
  refine Wp.cs (fun _ => lw_a2 (C := c_X9_mark F 5) (D := c_X10_mark F 46) J kk b1 b2 (op_mark F _ _ hF J) (fun _ _ e => fr_I (t_X9_mark F 5 _ _ _) e) (fun _ _ _ e => fr_I (t_X10_mark F 46 _ _ _) e)) (fun n25 => ?_)
  refine Wp.cs (fun _ => lw_a2 (C := c_X9_ahead F 5) (D := c_X10_ahead F 46) J kk b1 b2 (op_ahead F _ _ J) (fun _ _ e => fr_I (t_X9_ahead F 5 _ _ _) e) (fun _ _ _ e => fr_I (t_X10_ahead F 46 _ _ _) e)) (fun n26 => ?_)
  refine Wp.cs (fun _ => lw_a0 (C := c_X9_quarrel F 5) (D := c_X10_quarrel F 46) J kk (op_quarrel F  hF J) (fun _ _ e => fr_I (t_X9_quarrel F 5  _) e) (fun _ _ _ e => fr_I (t_X10_quarrel F 46  _) e)) (fun n27 => ?_)
  refine Wp.cs (fun _ => lw_a1 (C := c_X9_orders F 5) (D := c_X10_orders F 46) J kk b1 (op_orders F _ hF J) (fun _ _ e => fr_I (t_X9_orders F 5 _ _) e) (fun _ _ _ e => fr_I (t_X10_orders F 46 _ _) e)) (fun n28 => ?_)
  refine Wp.cs (fun _ => lw_a2 (C := c_X9_standsAhead F 5) (D := c_X10_standsAhead F 46) J kk b1 b2 (op_standsAhead F _ _ hF J) (fun _ _ e => fr_I (t_X9_standsAhead F 5 _ _ _) e) (fun _ _ _ e => fr_I (t_X10_standsAhead F 46 _ _ _) e)) (fun n29 => ?_)
  refine Wp.cs (fun _ => lw_a2 (C := c_X9_judgeOrder F 5) (D := c_X10_judgeOrder F 46) J kk b1 b2 (op_judgeOrder F _ _ hF J) (fun _ _ e => fr_I (t_X9_judgeOrder F 5 _ _ _) e) (fun _ _ _ e => fr_I (t_X10_judgeOrder F 46 _ _ _) e)) (fun n30 => ?_)
  refine Wp.cs (fun _ => lw_yr (C := c_X9_year F 5) (D := c_X10_year F 46) J kk b1 b2 (fun v => op_year F _ v hF J) (fun v _ _ e => fr_I (t_X9_year F 5 _ v _) e) (fun v _ _ _ e => fr_I (t_X10_year F 46 _ v _) e)) (fun n31 => ?_)
  refine Wp.cs (fun _ => lw_a0 (C := c_X9_doubts F 5) (D := c_X10_doubts F 46) J kk (op_doubts F  hF J) (fun _ _ e => fr_I (t_X9_doubts F 5  _) e) (fun _ _ _ e => fr_I (t_X10_doubts F 46  _) e)) (fun n32 => ?_)
  refine Wp.cs (fun _ => lw_a2 (C := c_X9_changes F 5) (D := c_X10_changes F 46) J kk b1 b2 (op_changes F _ _ hF J) (fun _ _ e => fr_I (t_X9_changes F 5 _ _ _) e) (fun _ _ _ e => fr_I (t_X10_changes F 46 _ _ _) e)) (fun n33 => ?_)
  refine Wp.cs (fun _ => lw_a1 (C := c_X9_family F 5) (D := c_X10_family F 46) J kk b1 (op_family F _ hF J) (fun _ _ e => fr_I (t_X9_family F 5 _ _) e) (fun _ _ _ e => fr_I (t_X10_family F 46 _ _) e)) (fun n34 => ?_)
  refine Wp.cs (fun _ => lw_a2 (C := c_X9_judge F 5) (D := c_X10_judge F 46) J kk b1 b2 (op_judge F _ _ hF J) (fun _ _ e => fr_I (t_X9_judge F 5 _ _ _) e) (fun _ _ _ e => fr_I (t_X10_judge F 46 _ _ _) e)) (fun n35 => ?_)
  refine Wp.cs (fun _ => lw_a2 (C := c_X9_taken F 5) (D := c_X10_taken F 46) J kk b1 b2 (op_taken F _ _ hF J) (fun _ _ e => fr_I (t_X9_taken F 5 _ _ _) e) (fun _ _ _ e => fr_I (t_X10_taken F 46 _ _ _) e)) (fun n36 => ?_)
  refine Wp.cs (fun _ => lw_a3 (C := c_X9_register F 5) (D := c_X10_register F 46) J kk b1 b2 b3 (op_register F _ _ _ hF J) (fun _ _ e => fr_I (t_X9_register F 5 _ _ _ _) e) (fun _ _ _ e => fr_I (t_X10_register F 46 _ _ _ _) e)) (fun n37 => ?_)
  refine Wp.cs (fun _ => lw_a2 (C := c_X9_right F 5) (D := c_X10_right F 46) J kk b1 b2 (op_right F _ _ hF J) (fun _ _ e => fr_I (t_X9_right F 5 _ _ _) e) (fun _ _ _ e => fr_I (t_X10_right F 46 _ _ _) e)) (fun n38 => ?_)
  refine Wp.cs (fun _ => lw_a2 (C := c_X9_join F 5) (D := c_X10_join F 46) J kk b1 b2 (op_join F _ _ hF J) (fun _ _ e => fr_I (t_X9_join F 5 _ _ _) e) (fun _ _ _ e => fr_I (t_X10_join F 46 _ _ _) e)) (fun n39 => ?_)
  refine Wp.cs (fun _ => lw_a2 (C := c_X9_walk F 5) (D := c_X10_walk F 46) J kk b1 b2 (op_walk F _ _ hF J) (fun _ _ e => fr_I (t_X9_walk F 5 _ _ _) e) (fun _ _ _ e => fr_I (t_X10_walk F 46 _ _ _) e)) (fun n40 => ?_)
  refine Wp.cs (fun _ => lw_a3 (C := c_X9_sung F 5) (D := c_X10_sung F 46) J kk b1 b2 b3 (op_sung F _ _ _ J) (fun _ _ e => fr_I (t_X9_sung F 5 _ _ _ _) e) (fun _ _ _ e => fr_I (t_X10_sung F 46 _ _ _ _) e)) (fun n41 => ?_)
  refine Wp.cs (fun _ => lw_a3 (C := c_X9_can F 5) (D := c_X10_can F 46) J kk b1 b2 b3 (op_can F _ _ _ hF J) (fun _ _ e => fr_I (t_X9_can F 5 _ _ _ _) e) (fun _ _ _ e => fr_I (t_X10_can F 46 _ _ _ _) e)) (fun n42 => ?_)
  refine Wp.cs (fun _ => lw_a2 (C := c_X9_far F 5) (D := c_X10_far F 46) J kk b1 b2 (op_far F _ _ hF J) (fun _ _ e => fr_I (t_X9_far F 5 _ _ _) e) (fun _ _ _ e => fr_I (t_X10_far F 46 _ _ _) e)) (fun n43 => ?_)
  refine Wp.cs (fun _ => lw_a0 (C := c_X9_lost F 5) (D := c_X10_lost F 46) J kk (op_lost F  hF J) (fun _ _ e => fr_I (t_X9_lost F 5  _) e) (fun _ _ _ e => fr_I (t_X10_lost F 46  _) e)) (fun n44 => ?_)
  refine Wp.cs (fun _ => lw_l0 (C := c_X9_many F 5) (D := c_X10_many F 46) J kk (op_many F J) (fun _ _ e => fr_L (t_X9_many F 5 _) e) (fun _ _ _ e => fr_L (t_X10_many F 46 _) e)) (fun n45 => ?_)
  refine Wp.cs (fun _ => lw_a0 (C := c_X9_asked F 5) (D := c_X10_asked F 46) J kk (op_asked F  J) (fun _ _ e => fr_I (t_X9_asked F 5  _) e) (fun _ _ _ e => fr_I (t_X10_asked F 46  _) e)) (fun n46 => ?_)
  refine Wp.cs (fun _ => lw_l0 (C := c_X9_upper F 5) (D := c_X10_upper F 46) J kk (op_upper F J) (fun _ _ e => fr_L (t_X9_upper F 5 _) e) (fun _ _ _ e => fr_L (t_X10_upper F 46 _) e)) (fun n47 => ?_)
  refine Wp.cs (fun _ => lw_l0 (C := c_X9_lower F 5) (D := c_X10_lower F 46) J kk (op_lower F J) (fun _ _ e => fr_L (t_X9_lower F 5 _) e) (fun _ _ _ e => fr_L (t_X10_lower F 46 _) e)) (fun n48 => ?_)
  refine Wp.cs (fun _ => lw_a1 (C := c_X9_count F 5) (D := c_X10_count F 46) J kk b1 (op_count F _ hF J) (fun _ _ e => fr_I (t_X9_count F 5 _ _) e) (fun _ _ _ e => fr_I (t_X10_count F 46 _ _) e)) (fun n49 => ?_)
  refine Wp.cs (fun _ => lw_a0 (C := c_X9_finding F 5) (D := c_X10_finding F 46) J kk (op_finding F  J) (fun _ _ e => fr_I (t_X9_finding F 5  _) e) (fun _ _ _ e => fr_I (t_X10_finding F 46  _) e)) (fun n50 => ?_)
  refine Wp.cs (fun _ => lw_a1 (C := c_X9_findings F 5) (D := c_X10_findings F 46) J kk b1 (op_findings F _ J) (fun _ _ e => fr_I (t_X9_findings F 5 _ _) e) (fun _ _ _ e => fr_I (t_X10_findings F 46 _ _) e)) (fun n51 => ?_)
  refine Wp.cs (fun _ => lw_l0 (C := c_X9_digest F 5) (D := c_X10_digest F 46) J kk (op_digest F hF J) (fun _ _ e => fr_L (t_X9_digest F 5 _) e) (fun _ _ _ e => fr_L (t_X10_digest F 46 _) e)) (fun n52 => ?_)
  exfalso
  obtain ⟨v, hv, ev⟩ := rng (x := hI h 4 (ix x9) &&& 63) (n := 52) ⟨by omega, by omega⟩
  rcases (show v = 0 ∨ v = 1 ∨ v = 2 ∨ v = 3 ∨ v = 4 ∨ v = 5 ∨ v = 6 ∨ v = 7 ∨ v = 8 ∨ v = 9 ∨ v = 10 ∨ v = 11 ∨ v = 12 ∨ v = 13 ∨ v = 14 ∨ v = 15 ∨ v = 16 ∨ v = 17 ∨ v = 18 ∨ v = 19 ∨ v = 20 ∨ v = 21 ∨ v = 22 ∨ v = 23 ∨ v = 24 ∨ v = 25 ∨ v = 26 ∨ v = 27 ∨ v = 28 ∨ v = 29 ∨ v = 30 ∨ v = 31 ∨ v = 32 ∨ v = 33 ∨ v = 34 ∨ v = 35 ∨ v = 36 ∨ v = 37 ∨ v = 38 ∨ v = 39 ∨ v = 40 ∨ v = 41 ∨ v = 42 ∨ v = 43 ∨ v = 44 ∨ v = 45 ∨ v = 46 ∨ v = 47 ∨ v = 48 ∨ v = 49 ∨ v = 50 ∨ v = 51 ∨ v = 52 by omega) with rfl | rfl | rfl | rfl | rfl | rfl | rfl | rfl | rfl | rfl | rfl | rfl | rfl | rfl | rfl | rfl | rfl | rfl | rfl | rfl | rfl | rfl | rfl | rfl | rfl | rfl | rfl | rfl | rfl | rfl | rfl | rfl | rfl | rfl | rfl | rfl | rfl | rfl | rfl | rfl | rfl | rfl | rfl | rfl | rfl | rfl | rfl | rfl | rfl | rfl | rfl | rfl | rfl
  · exact n0 (ev.trans (by decide))
  · exact n1 (ev.trans (by decide))
  · exact n2 (ev.trans (by decide))
  · exact n3 (ev.trans (by decide))
  · exact n4 (ev.trans (by decide))
  · exact n5 (ev.trans (by decide))
  · exact n6 (ev.trans (by decide))
  · exact n7 (ev.trans (by decide))
  · exact n8 (ev.trans (by decide))
  · exact n9 (ev.trans (by decide))
  · exact n10 (ev.trans (by decide))
  · exact n11 (ev.trans (by decide))
  · exact n12 (ev.trans (by decide))
  · exact n13 (ev.trans (by decide))
  · exact n14 (ev.trans (by decide))
  · exact n15 (ev.trans (by decide))
  · exact n16 (ev.trans (by decide))
  · exact n17 (ev.trans (by decide))
  · exact n18 (ev.trans (by decide))
  · exact n19 (ev.trans (by decide))
  · exact n20 (ev.trans (by decide))
  · exact n21 (ev.trans (by decide))
  · exact n22 (ev.trans (by decide))
  · exact n23 (ev.trans (by decide))
  · exact n24 (ev.trans (by decide))
  · exact n25 (ev.trans (by decide))
  · exact n26 (ev.trans (by decide))
  · exact n27 (ev.trans (by decide))
  · exact n28 (ev.trans (by decide))
  · exact n29 (ev.trans (by decide))
  · exact n30 (ev.trans (by decide))
  · exact n31 (ev.trans (by decide))
  · exact n32 (ev.trans (by decide))
  · exact n33 (ev.trans (by decide))
  · exact n34 (ev.trans (by decide))
  · exact n35 (ev.trans (by decide))
  · exact n36 (ev.trans (by decide))
  · exact n37 (ev.trans (by decide))
  · exact n38 (ev.trans (by decide))
  · exact n39 (ev.trans (by decide))
  · exact n40 (ev.trans (by decide))
  · exact n41 (ev.trans (by decide))
  · exact n42 (ev.trans (by decide))
  · exact n43 (ev.trans (by decide))
  · exact n44 (ev.trans (by decide))
  · exact n45 (ev.trans (by decide))
  · exact n46 (ev.trans (by decide))
  · exact n47 (ev.trans (by decide))
  · exact n48 (ev.trans (by decide))
  · exact n49 (ev.trans (by decide))
  · exact n50 (ev.trans (by decide))
  · exact n51 (ev.trans (by decide))
  · exact n52 (ev.trans (by decide))
/-- the law's loop from a heap that stands -/
theorem lw_loop {F : Nat} (hF : 5000 ≤ F) {L : Nat} (hL : L ≤ 3072) {h : z_Hp} (J : Inv h) (e4 : hN h 4 = L) : Wp (c_L_law_L18 F 5 46 F 0 h) (fun q => q.1 = 1 ∧ hZ q.2 ≤ hZ h + 5 * (L / 6) ∧ hS q.2 ≤ hS h + 5000 * (L / 6)) := by
  refine Wp.loop (L := fun m (u : Int32 × z_Hp) => c_L_law_L18 F 5 46 m u.1 u.2) (N := L / 6) (fun k u => u.1 = nI (6 * k) ∧ Inv u.2 ∧ hN u.2 4 = L ∧ hZ u.2 ≤ hZ h + 5 * k ∧ hS u.2 ≤ hS h + 5000 * k) (fun m k u hk hP ih => ?_) (fun m u hP => ?_) F (0, h) (by omega) ⟨rfl, J, e4, Nat.le_refl _, Nat.le_refl _⟩
  · obtain ⟨x9, g⟩ := u
    obtain ⟨a1, a2, a3, a4, a5⟩ := hP
    dsimp only at a1 a2 a3 a4 a5 ⊢
    refine lw_turn hF hL (by omega) a1 a2 a3 (fun h2 J2 z2 s2 n2 => ?_)
    have m1 : 5000 * (k + 1) = 5000 * k + 5000 := Nat.mul_succ 5000 k
    have m2 : 6 * (k + 1) = 6 * k + 6 := Nat.mul_succ 6 k
    have m3 : 5 * (k + 1) = 5 * k + 5 := Nat.mul_succ 5 k
    have z3 : hZ h2 ≤ hZ h + 5 * (k + 1) := by rw [m3]; omega
    have s3 : hS h2 ≤ hS h + 5000 * (k + 1) := by rw [m1, ← Nat.add_assoc]; exact Nat.le_trans s2 (Nat.add_le_add_right a5 5000)
    have x3 : nI (6 * k + 6) = nI (6 * (k + 1)) := by rw [m2]
    exact ih (nI (6 * k + 6), h2) ⟨x3, J2, n2, z3, s3⟩
  · obtain ⟨x9, g⟩ := u
    obtain ⟨a1, a2, a3, a4, a5⟩ := hP
    dsimp only at a1 a2 a3 a4 a5 ⊢
    have g0 : nI (hN g 4) - 6 < x9 := by
      rw [a1, a3]
      by_cases c : 6 ≤ L
      · rw [show (6 : Int32) = nI 6 from rfl, nI_sub c]
        exact nI_lt (by omega) (by omega)
      · rw [show L / 6 = 0 by omega]
        rcases (show L = 0 ∨ L = 1 ∨ L = 2 ∨ L = 3 ∨ L = 4 ∨ L = 5 by omega) with e | e | e | e | e | e <;> rw [e] <;> decide
    rw [c_L_law_L18]
    exact Wp.ifT (okL_n a2.t4 (by decide) (by decide)) (Wp.ifT g0 (Wp.ret ⟨rfl, a4, a5⟩))
end LawTurn
