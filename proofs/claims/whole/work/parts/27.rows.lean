section Ops2
variable {h : z_Hp} (F : Nat) (x1 x2 x3 x4 x5 : Int32)
theorem nn9 : ¬ (0 : Int32) ≤ -9 := by decide
theorem nge {n : Nat} (h : n < 2147483648) : (0 : Int32) ≤ nI n := nI_pos' h
theorem nlt9 : (-9 : Int32) < 0 := by decide
theorem pnI {n : Nat} (h : n < 2147483648) : ¬ nI n < 0 := nI_pos h
theorem m_askedRow0 (I : Ifx h) (hr : ¬ (0 ≤ x1.toInt ∧ x1.toInt ≤ 5)) : c_X10_askedRow F 46 x1 h = some (-1, h) := by
  unfold c_X10_askedRow
  simp only [m_isRow, if_neg hr, bI_some, ite00, if_true]
theorem m_askedRow1 (I : Ifx h) {r : Nat} (hr : r < 6) (e : hI h 48 r = -9) : c_X10_askedRow F 46 (nI r) h = c_X10_meets F 46 1 h := by
  unfold c_X10_askedRow
  have a1 : okA h 48 20 (nI r) = true := okA_n (fT48 I) (fN48 I) hr (by decide)
  simp only [m_isRow, toI_n (show r < 2147483648 by omega)]
  rw [if_pos (by omega)]
  simp only [bI_some, ite10, fT46 I, if_true, lt_, fR46_7 I, nn, a1, ix_n (show r < 2147483648 by omega), e, if_neg nn9, bI_id]
theorem m_askedRow2 (I : Ifx h) {r n : Nat} (hr : r < 6) (hn : n ≤ 40) (e : hI h 48 r = nI n) : c_X10_askedRow F 46 (nI r) h = some (0, h) := by
  unfold c_X10_askedRow
  have a1 : okA h 48 20 (nI r) = true := okA_n (fT48 I) (fN48 I) hr (by decide)
  simp only [m_isRow, toI_n (show r < 2147483648 by omega)]
  rw [if_pos (by omega)]
  simp only [bI_some, ite10, fT46 I, if_true, lt_, fR46_7 I, nn, a1, ix_n (show r < 2147483648 by omega), e, if_pos (nge (show n < 2147483648 by omega))]
theorem m_row_L34 (I : Ifx h) {r : Nat} (hr : r < 6) (x : Int32) {n : Nat} (hn : 40 < n) : c_X10_row_L34 F 46 (nI r) x n 0 h = some (x, fl h 49 (40 * r) 40 (fun _ => 0)) := by
  have key := lpS (L := fun n (s : Int32 × z_Hp) => c_X10_row_L34 F 46 (nI r) x n s.1 s.2) (R := some (x, fl h 49 (40 * r) 40 (fun _ => 0))) (fun k => (nI k, fl h 49 (40 * r) k (fun _ => 0))) 40 (fun n k hk => ?_) (fun n => ?_) n hn
  · simp only [fl_0] at key
    exact key
  · show c_X10_row_L34 F 46 (nI r) x (n + 1) (nI k) (fl h 49 (40 * r) k (fun _ => 0)) = c_X10_row_L34 F 46 (nI r) x n (nI (k + 1)) _
    rw [c_X10_row_L34]
    have c1 : ¬ (40 : Int32) ≤ nI k := nI_ge hk (by decide)
    have e1 : (40 : Int32) * nI r + nI k = nI (40 * r + k) := by rw [show (40 : Int32) = nI 40 from rfl, nI_mul, nI_add]
    have a1 : okA (fl h 49 (40 * r) k (fun _ => 0)) 49 20 (nI (40 * r + k)) = true := okA_n (fT49 I) (fN49 I) (by omega) (by decide)
    simp only [if_neg c1, hT_fl, fT46 I, if_true, lt_, hR_fl, fR46_8 I, nn, e1, a1, ix_n (show 40 * r + k < 2147483648 by omega), nI_1]
    rw [fl_s (g := fun _ => 0)]
  · show c_X10_row_L34 F 46 (nI r) x (n + 1) (nI 40) (fl h 49 (40 * r) 40 (fun _ => 0)) = _
    rw [c_X10_row_L34]
    rw [if_pos (by decide)]
/-- the row r is there with n places at a; the other rows are as they were -/
theorem Rrow.set {ow ow' : Ow} {h h' : z_Hp} (R : Rrow ow h) (I : Ifx h) (r : Nat) (hr : r < 6) {n a : Nat} (hn : n ≤ 40) (hal : ∀ q b, q < 6 → q ≠ r → hR h 6 q = some b → b ≠ a ∧ hT h' b = hT h b ∧ hN h' b = hN h b ∧ (∀ i, ow' b i = ow b i) ∧ ∀ k, hI h' b k = hI h b k)
    (e1 : ∀ q, q < 6 → hR h' 6 q = if q = r then some a else hR h 6 q) (e2 : ∀ q, q < 6 → hI h' 48 q = if q = r then nI n else hI h 48 q) (e3 : ∀ q k, q < 6 → q ≠ r → k < 40 → hI h' 49 (40 * q + k) = hI h 49 (40 * q + k))
    (t1 : hT h' a = 20) (t2 : hN h' a = n) (t3 : 94 ≤ a) (t4 : ∀ i, ow' a i = 10) (t5 : ∀ k, k < n → hI h' a k = hI h' 49 (40 * r + k)) : Rrow ow' h' := by
  refine ⟨fun q hq => ?_, fun q p b hq hp h1 h2 => ?_⟩
  · by_cases e : q = r
    · subst e
      rw [e1 q hq, e2 q hq, if_pos rfl, if_pos rfl]
      exact Or.inr ⟨n, a, hn, rfl, rfl, t1, t2, t3, t4, t5⟩
    · rw [e1 q hq, e2 q hq, if_neg e, if_neg e]
      rcases R.1 q hq with ⟨g1, g2⟩ | ⟨m, b, g1, g2, g3, g4, g5, g6, g7, g8⟩
      · exact Or.inl ⟨g1, g2⟩
      · obtain ⟨-, k1, k2, k3, k4⟩ := hal q b hq e g3
        refine Or.inr ⟨m, b, g1, g2, g3, k1.trans g4, k2.trans g5, g6, fun i => (k3 i).trans (g7 i), fun k hk => ?_⟩
        exact ((k4 k).trans (g8 k hk)).trans (e3 q k hq e (by omega)).symm
  · rw [e1 q hq] at h1
    rw [e1 p hp] at h2
    by_cases c1 : q = r
    · by_cases c2 : p = r
      · omega
      · rw [if_pos c1] at h1
        rw [if_neg c2] at h2
        exact absurd (Option.some.inj h1).symm (hal p b hp c2 h2).1
    · by_cases c2 : p = r
      · rw [if_neg c1] at h1
        rw [if_pos c2] at h2
        exact absurd (Option.some.inj h2).symm (hal q b hq c1 h1).1
      · rw [if_neg c1] at h1
        rw [if_neg c2] at h2
        exact R.2 q p b hq hp h1 h2
theorem op_row (hF : 5000 ≤ F) (J : Inv h) : OkI h (c_X9_row F 5 x1 x2 h) (c_X10_row F 46 x1 x2) := by
  obtain ⟨ow, J⟩ := J
  have o := J.1
  have I := J.2.1
  have R : Rrow ow h := J.2.2.2.2.2.2.2.1
  unfold c_X9_row c_X10_row
  by_cases c1 : 0 ≤ x1.toInt ∧ x1.toInt ≤ 5
  · by_cases c2 : x2 ≤ 40
    · by_cases c3 : 0 ≤ x2
      · obtain ⟨r, hr, rfl⟩ := rng (x := x1) (n := 5) c1
        obtain ⟨n, hn, rfl⟩ : ∃ n : Nat, n ≤ 40 ∧ x2 = nI n := nI_of2 (M := 40) ti_40 (by rw [fa_lt]; rw [fa_le] at c3; omega) c2
        have hz := I.2.2.1
        have b1 : inb (nI n) 100000 = true := inb_n (by omega) (by decide)
        have b2 : okA (nw h 20 n) 6 23 (nI r) = true := okA_n (n := 6) (by rw [hT_nw, if_neg (by omega)]; exact fT6 I) (by rw [hN_nw, if_neg (by omega)]; exact fN6 I) (by omega) (by decide)
        have b3 : okS (nw h 20 n) 23 (some (hZ h)) = true := by
          unfold okS
          simp [z_ct, hT_nw]
        have b4 : okA (sR (nw h 20 n) 6 r (some (hZ h))) 48 20 (nI r) = true := okA_n (n := 6) (by rw [hT_sR, hT_nw, if_neg (by omega)]; exact fT48 I) (by rw [hN_sR, hN_nw, if_neg (by omega)]; exact fN48 I) (by omega) (by decide)
        have s1 : St [10] ow h (sR (nw h 20 n) 6 r (some (hZ h))) := ((St.r I).gN).wR o 10 (by decide) rfl (by decide)
        have I1 := I.st o s1 (by decide)
        have s2 : St [10, 60] ow h (fl (sI (sR (nw h 20 n) 6 r (some (hZ h))) 48 r (nI n)) 49 (40 * r) 40 (fun _ => 0)) := ((s1.sub (by decide)).wI o 60 (by decide) rfl (by decide)).wfl o 60 (by decide) (fun i => rfl) (by decide)
        refine ⟨nI n, sR (nw h 20 n) 6 r (some (hZ h)), fl (sI (sR (nw h 20 n) 6 r (some (hZ h))) 48 r (nI n)) 49 (40 * r) 40 (fun _ => 0), ?_, ?_, ⟨owN ow (hZ h) 10, ?_⟩, ?_, ?_⟩
        · simp only [x_isRow, if_pos c1, bI_some, ite10, if_pos c2, if_pos c3, fT5 I, if_true, lt_, fR5_0 I, b1, nwo, ix_n (show n < 2147483648 by omega), nn, b2, b3, and_self, ix_n (show r < 2147483648 by omega)]
        · simp only [m_isRow, if_pos c1, bI_some, ite10, if_pos c2, if_pos c3, fT46 I1, if_true, lt_, fR46_7 I1, nn, b4, ix_n (show r < 2147483648 by omega)]
          exact m_row_L34 F I1.gI (by omega) (nI n) (by omega)
        · refine J.fin (o.new hz) s2 (OwX.new _ _ _) (by decide) (c10 := fun _ => ?_)
          refine R.set I r (by omega) (n := n) (a := hZ h) hn (fun q b hq hqr hb => ?_) (fun q hq => ?_) (fun q hq => ?_) (fun q k hq hqr hk => ?_) ?_ ?_ hz (fun i => if_pos (Nat.le_refl _)) (fun k hk => ?_)
          · rcases R.1 q hq with ⟨g1, g2⟩ | ⟨m, b', g1, g2, g3, g4, g5, g6, g7, g8⟩
            · rw [g2] at hb; cases hb
            · rw [g3] at hb; cases hb
              have hlt := I.al g4 (by decide)
              refine ⟨by omega, ?_, ?_, fun i => if_neg (by omega), fun k => ?_⟩
              · simp only [hT_fl, hT_sI, hT_sR, hT_nw]; rw [if_neg (by omega)]
              · simp only [hN_fl, hN_sI, hN_sR, hN_nw]; rw [if_neg (by omega)]
              · simp only [hI_fl, hI_sI, hI_sR, hI_nw]; rw [if_neg (by omega), if_neg (by omega), if_neg (by omega)]
          · simp only [hR_fl, hR_sI, hR_sR, hR_nw, true_and, if_neg (show ¬ 6 = hZ h by omega)]
          · rw [hI_fl, if_neg (by omega)]; simp only [hI_sI, hI_sR, hI_nw, true_and, if_neg (show ¬ 48 = hZ h by omega)]
          · simp only [hI_fl, hI_sI, hI_sR, hI_nw, true_and]; rw [if_neg (by omega), if_neg (by omega), if_neg (by omega)]
          · simp only [hT_fl, hT_sI, hT_sR, hT_nw, if_true]
          · simp only [hN_fl, hN_sI, hN_sR, hN_nw, if_true]
          · simp only [hI_fl, hI_sI, hI_sR, hI_nw, if_true, true_and]; rw [if_neg (by omega), if_neg (by omega), if_pos (by omega)]
        · show hZ h + 1 ≤ _; omega
        · show hS h + n ≤ _; omega
      · refine OkI.found0 (F := F) 5 (by decide) J ?_ (fun h' s => ?_)
        · show _ = c_X9_found F 5 5 h
          simp only [x_isRow, if_pos c1, bI_some, ite10, if_pos c2, if_neg c3, fT5 I, if_true, bI_id]
        · have I' := I.st o s (by decide)
          show _ = c_X10_meets F 46 5 h'
          simp only [m_isRow, if_pos c1, bI_some, ite10, if_pos c2, if_neg c3, fT46 I', if_true, bI_id]
    · exact OkI.same (-1) ⟨ow, J⟩ (by simp only [x_isRow, if_pos c1, bI_some, ite10, if_neg c2]) (by simp only [m_isRow, if_pos c1, bI_some, ite10, if_neg c2])
  · exact OkI.same (-1) ⟨ow, J⟩ (by simp only [x_isRow, if_neg c1, bI_some, ite00, if_true]) (by simp only [m_isRow, if_neg c1, bI_some, ite00, if_true])
end Ops2
