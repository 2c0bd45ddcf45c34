section Ops3
variable {h : z_Hp} (F : Nat) (x1 x2 x3 x4 x5 : Int32)
theorem cmp_pos (x y : Int64) : (0 < lg_cmp x y) ↔ y.toInt < x.toInt := by
  unfold lg_cmp
  by_cases c1 : x > y
  · rw [if_pos c1]
    exact ⟨fun _ => (fa_lt64 y x).mp c1, fun _ => by decide⟩
  · rw [if_neg c1]
    refine ⟨fun g => ?_, fun g => absurd ((fa_lt64 y x).mpr g) c1⟩
    split at g <;> exact absurd g (by decide)
theorem cmp_le (x y : Int64) : (lg_cmp x y ≤ 0) ↔ ¬ y.toInt < x.toInt := by
  rw [← cmp_pos]
  constructor
  · intro g1 g2
    rw [fa_le] at g1; rw [fa_lt] at g2; omega
  · intro g1
    rw [fa_le]; rw [fa_lt] at g1; omega
theorem sum64 (x y : Int32) : (x.toInt64 + y.toInt64).toInt = x.toInt + y.toInt := by
  have a := fb_rng x
  have b := fb_rng y
  rw [fb_addL (by rw [Int32.toInt_toInt64, Int32.toInt_toInt64]; omega) (by rw [Int32.toInt_toInt64, Int32.toInt_toInt64]; omega), Int32.toInt_toInt64, Int32.toInt_toInt64]
/-- row r is missing now; the others are as they were -/
theorem Rrow.del {ow : Ow} {h h' : z_Hp} (R : Rrow ow h) (r : Nat) (hr : r < 6) (e0 : ∀ b, hT h' b = hT h b ∧ hN h' b = hN h b) (e4 : ∀ b k, 94 ≤ b → hI h' b k = hI h b k)
    (e1 : ∀ q, q < 6 → hR h' 6 q = if q = r then none else hR h 6 q) (e2 : ∀ q, q < 6 → hI h' 48 q = if q = r then -9 else hI h 48 q) (e3 : ∀ k, hI h' 49 k = hI h 49 k) : Rrow ow h' := by
  refine ⟨fun q hq => ?_, fun q p b hq hp h1 h2 => ?_⟩
  · by_cases e : q = r
    · rw [e1 q hq, e2 q hq, if_pos e, if_pos e]
      exact Or.inl ⟨rfl, rfl⟩
    · rw [e1 q hq, e2 q hq, if_neg e, if_neg e]
      rcases R.1 q hq with ⟨g1, g2⟩ | ⟨m, b, g1, g2, g3, g4, g5, g6, g7, g8⟩
      · exact Or.inl ⟨g1, g2⟩
      · refine Or.inr ⟨m, b, g1, g2, g3, (e0 b).1.trans g4, (e0 b).2.trans g5, g6, g7, fun k hk => ?_⟩
        exact ((e4 b k g6).trans (g8 k hk)).trans (e3 _).symm
  · rw [e1 q hq] at h1
    rw [e1 p hp] at h2
    by_cases c1 : q = r
    · rw [if_pos c1] at h1; cases h1
    · by_cases c2 : p = r
      · rw [if_pos c2] at h2; cases h2
      · rw [if_neg c1] at h1
        rw [if_neg c2] at h2
        exact R.2 q p b hq hp h1 h2
theorem op_tear (J : Inv h) : OkI h (c_X9_tear F 5 x1 h) (c_X10_tear F 46 x1) := by
  obtain ⟨ow, J⟩ := J
  have o := J.1
  have I := J.2.1
  have R : Rrow ow h := J.2.2.2.2.2.2.2.1
  unfold c_X9_tear c_X10_tear
  by_cases c1 : 0 ≤ x1.toInt ∧ x1.toInt ≤ 5
  · obtain ⟨r, hr, rfl⟩ := rng (x := x1) (n := 5) c1
    have b1 : okA h 6 23 (nI r) = true := okA_n (fT6 I) (fN6 I) (by omega) (by decide)
    rcases R.1 r (by omega) with ⟨g1, g2⟩ | ⟨n, a, g1, g2, g3, g4, g5, g6, g7, g8⟩
    · refine OkI.found0 (F := F) 1 (by decide) J ?_ (fun h' s => ?_)
      · show _ = c_X9_found F 5 1 h
        simp only [x_isRow, if_pos c1, bI_some, ite10, fT5 I, if_true, lt_, fR5_0 I, nn, b1, ix_n (show r < 2147483648 by omega), g2, nl, bI_id]
      · have I' := I.st o s (by decide)
        have e : hI h' 48 r = -9 := (s.fam I o (c := 60) (by decide) 48 r (by omega) rfl).1.trans g1
        show _ = c_X10_meets F 46 1 h'
        rw [fT46 I', if_pos rfl, m_askedRow1 F I' (by omega) e, m_meets I' F 1 1 rfl (by decide), bI_some, if_neg (by decide)]
    · have b2 : okS h 23 none = true := rfl
      refine ⟨1, sR h 6 r none, sI (sR h 6 r none) 48 r (-9), ?_, ?_, ⟨ow, ?_⟩, ?_, ?_⟩
      · simp only [x_isRow, if_pos c1, bI_some, ite10, fT5 I, if_true, lt_, fR5_0 I, nn, b1, ix_n (show r < 2147483648 by omega), g3, nl, b2, and_self]
      · have s1 : St [10] ow h (sR h 6 r none) := (St.r I).wR o 10 (by decide) rfl (by decide)
        have I1 := I.st o s1 (by decide)
        have b4 : okA (sR h 6 r none) 48 20 (nI r) = true := okA_n (fT48 I1) (fN48 I1) (by omega) (by decide)
        dsimp only
        rw [fT46 I1, if_pos rfl, m_askedRow2 F I1 (by omega) g1 g2]
        simp only [bI_some, if_pos (show (0 : Int32) ≤ 0 by decide), fT46 I1, if_true, lt_, fR46_7 I1, nn, b4, ix_n (show r < 2147483648 by omega)]
      · have s2 : St [10, 60] ow h (sI (sR h 6 r none) 48 r (-9)) := ((St.r I).wR o 10 (by decide) rfl (by decide)).wI o 60 (by decide) rfl (by decide)
        refine J.fin o s2 (OwX.refl _ _) (by decide) (c10 := fun _ => R.del r (by omega) (fun b => ⟨rfl, rfl⟩) (fun b k hb => ?_) (fun q hq => ?_) (fun q hq => ?_) (fun k => ?_))
        · simp only [hI_sI, hI_sR]; rw [if_neg (by omega)]
        · simp only [hR_sI, hR_sR, true_and]
        · simp only [hI_sI, hI_sR, true_and]
        · simp only [hI_sI, hI_sR]; rw [if_neg (by omega)]
      · show hZ h ≤ _; omega
      · show hS h ≤ _; omega
  · refine OkI.same (-1) ⟨ow, J⟩ (by simp only [x_isRow, if_neg c1, bI_some, ite00, if_true]) ?_
    rw [fT46 I, if_pos rfl, m_askedRow0 F x1 I c1, bI_some, if_neg (by decide)]
theorem op_lay (J : Inv h) : OkI h (c_X9_lay F 5 x1 x2 x3 h) (c_X10_lay F 46 x1 x2 x3) := by
  obtain ⟨ow, J⟩ := J
  have o := J.1
  have I := J.2.1
  have R : Rrow ow h := J.2.2.2.2.2.2.2.1
  unfold c_X9_lay c_X10_lay
  by_cases c1 : 0 ≤ x1.toInt ∧ x1.toInt ≤ 5
  · obtain ⟨r, hr, rfl⟩ := rng (x := x1) (n := 5) c1
    have b1 : okA h 6 23 (nI r) = true := okA_n (fT6 I) (fN6 I) (by omega) (by decide)
    rcases R.1 r (by omega) with ⟨g1, g2⟩ | ⟨n, a, g1, g2, g3, g4, g5, g6, g7, g8⟩
    · refine OkI.found0 (F := F) 1 (by decide) J ?_ (fun h' s => ?_)
      · show _ = c_X9_found F 5 1 h
        simp only [x_isRow, if_pos c1, bI_some, ite10, fT5 I, if_true, lt_, fR5_0 I, nn, b1, ix_n (show r < 2147483648 by omega), g2, nl, bI_id]
      · have I' := I.st o s (by decide)
        have e : hI h' 48 r = -9 := (s.fam I o (c := 60) (by decide) 48 r (by omega) rfl).1.trans g1
        show _ = c_X10_meets F 46 1 h'
        rw [fT46 I', if_pos rfl, m_askedRow1 F I' (by omega) e, m_meets I' F 1 1 rfl (by decide), bI_some, if_neg (by decide)]
    · have b5 : okL h a = true := okL_n g4 (by decide) (by decide)
      by_cases c2 : 0 ≤ x2.toInt ∧ x2.toInt ≤ (n : Int) - 1
      · obtain ⟨i, hi, rfl⟩ := rng (x := x2) (n := 39) ⟨c2.1, by omega⟩
        rw [toI_n (by omega)] at c2
        have c3 : ¬ nI i < 0 := pnI (by omega)
        have c4 : nI i < nI n := nI_lt (by omega) (by omega)
        have b6 : okA h a 20 (nI i) = true := okA_n g4 g5 (by omega) (by omega)
        have b7 : okA (sI h 5 15 (hI h a i)) a 20 (nI i) = true := b6
        have s1 : St [3, 10] ow h (sI (sI h 5 15 (hI h a i)) a i x3) := ((St.r I).wI o 3 (by decide) rfl (by decide)).gI (by rw [g7]; decide)
        have I1 := I.st o s1 (by decide)
        have e1 : (40 : Int32) * nI r + nI i = nI (40 * r + i) := by rw [show (40 : Int32) = nI 40 from rfl, nI_mul, nI_add]
        have e2 : hI (sI (sI h 5 15 (hI h a i)) a i x3) 49 (40 * r + i) = hI h a i := by
          rw [hI_sI, if_neg (by omega), hI_sI, if_neg (by omega), g8 i (by omega)]
        have e3 : hI (sI (sI h 5 15 (hI h a i)) a i x3) 48 r = nI n := by
          rw [hI_sI, if_neg (by omega), hI_sI, if_neg (by omega), g2]
        have b8 : okA (sI (sI h 5 15 (hI h a i)) a i x3) 48 20 (nI r) = true := okA_n (fT48 I1) (fN48 I1) (by omega) (by decide)
        have b9 : okA (sI (sI h 5 15 (hI h a i)) a i x3) 49 20 (nI (40 * r + i)) = true := okA_n (fT49 I1) (fN49 I1) (by omega) (by decide)
        have b10 : okA (sI (sI (sI h 5 15 (hI h a i)) a i x3) 46 2 (hI h a i)) 49 20 (nI (40 * r + i)) = true := b9
        have s2 : St [3, 10, 53, 60] ow h (sI (sI (sI (sI h 5 15 (hI h a i)) a i x3) 46 2 (hI h a i)) 49 (40 * r + i) x3) := ((s1.sub (by decide)).wI o 53 (by decide) rfl (by decide)).wI o 60 (by decide) rfl (by decide)
        refine ⟨1, sI (sI h 5 15 (hI h a i)) a i x3, sI (sI (sI (sI h 5 15 (hI h a i)) a i x3) 46 2 (hI h a i)) 49 (40 * r + i) x3, ?_, ?_, ⟨ow, ?_⟩, ?_, ?_⟩
        · simp only [x_isRow, if_pos c1, bI_some, ite10, fT5 I, if_true, lt_, fR5_0 I, nn, b1, ix_n (show r < 2147483648 by omega), g3, nl, if_neg c3, b5, g5, if_pos c4, b6, b7, ix_n (show i < 2147483648 by omega)]
        · dsimp only
          rw [fT46 I1, if_pos rfl, m_askedRow2 F I1 (by omega) g1 e3]
          simp only [bI_some, if_pos (show (0 : Int32) ≤ 0 by decide), fT46 I1, if_true, lt_, fR46_7 I1, nn, b8, ix_n (show r < 2147483648 by omega), e3, m_in, ti_0, predI (show n < 2147483648 by omega), toI_n (show i < 2147483648 by omega)]
          rw [if_pos c2, ite10]
          simp only [fR46_8 I1, e1, b9, if_true, ix_n (show 40 * r + i < 2147483648 by omega), e2, hT_sI _ 46 _ _ 2, fT46 I1, hR_sI _ 46 _ _ 2, b10]
          simp only [hT_sI, hR_sI, fT46 I, fR46_8 I, if_true, b10]
        · refine J.fin o s2 (OwX.refl _ _) (by decide) (c3 := fun _ => ?_) (c10 := fun _ => ?_)
          · unfold Rask
            simp [hI_sI, show ¬ 5 = a by omega, show ¬ 46 = a by omega]
          · refine R.set I r (by omega) (n := n) (a := a) g1 (fun q b hq hqr hb => ?_) (fun q hq => ?_) (fun q hq => ?_) (fun q k hq hqr hk => ?_) g4 g5 g6 g7 (fun k hk => ?_)
            · have hne : b ≠ a := fun e => hqr (R.2 q r a hq (by omega) (by rw [hb, e]) g3)
              rcases R.1 q hq with ⟨k1, k2⟩ | ⟨m, b', k1, k2, k3, k4, k5, k6, k7, k8⟩
              · rw [k2] at hb; cases hb
              · rw [k3] at hb; cases hb
                refine ⟨hne, rfl, rfl, fun i => rfl, fun k => ?_⟩
                simp only [hI_sI]; rw [if_neg (by omega), if_neg (by omega), if_neg (by omega), if_neg (by omega)]
            · simp only [hR_sI]
              split
              · rename_i e; rw [e, g3]
              · rfl
            · simp only [hI_sI]; rw [if_neg (by omega), if_neg (by omega), if_neg (by omega), if_neg (by omega)]
              split
              · rename_i e; rw [e, g2]
              · rfl
            · simp only [hI_sI]; rw [if_neg (by omega), if_neg (by omega), if_neg (by omega), if_neg (by omega)]
            · simp only [hI_sI]
              rw [if_neg (by omega), if_neg (by omega)]
              by_cases e : k = i
              · subst e; simp only [true_and, if_true]
              · rw [if_neg (by omega), if_neg (by omega), if_neg (by omega), if_neg (by omega), if_neg (by omega), if_neg (by omega), g8 k hk]
        · show hZ h ≤ _; omega
        · show hS h ≤ _; omega
      · refine OkI.found0 (F := F) 2 (by decide) J ?_ (fun h' s => ?_)
        · show _ = c_X9_found F 5 2 h
          simp only [x_isRow, if_pos c1, bI_some, ite10, fT5 I, if_true, lt_, fR5_0 I, nn, b1, ix_n (show r < 2147483648 by omega), g3, nl, b5, g5, bI_id]
          by_cases c3 : x2 < 0
          · rw [if_pos c3]
          · rw [if_neg c3, if_neg (by rw [fa_lt, toI_n (by omega)]; rw [fa_lt, ti_0] at c3; omega)]
        · have I' := I.st o s (by decide)
          have e : hI h' 48 r = nI n := (s.fam I o (c := 60) (by decide) 48 r (by omega) rfl).1.trans g2
          have b8 : okA h' 48 20 (nI r) = true := okA_n (fT48 I') (fN48 I') (by omega) (by decide)
          show _ = c_X10_meets F 46 2 h'
          rw [fT46 I', if_pos rfl, m_askedRow2 F I' (by omega) g1 e]
          simp only [bI_some, if_pos (show (0 : Int32) ≤ 0 by decide), fT46 I', if_true, lt_, fR46_7 I', nn, b8, ix_n (show r < 2147483648 by omega), e, m_in, ti_0, predI (show n < 2147483648 by omega)]
          rw [if_neg c2, ite00, bI_id]
  · refine OkI.same (-1) ⟨ow, J⟩ (by simp only [x_isRow, if_neg c1, bI_some, ite00, if_true]) ?_
    rw [fT46 I, if_pos rfl, m_askedRow0 F x1 I c1, bI_some, if_neg (by decide)]
end Ops3
