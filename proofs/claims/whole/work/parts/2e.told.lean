section Ops9
variable {h : z_Hp} (F : Nat) (x1 x2 x3 x4 x5 : Int32)
theorem x_tells {ow : Ow} {s a : Nat} (g : shAt ow h s a) {w : Nat} (hw : w ≤ 8) : c_X5_tells F a (nI w) h = some (hI h (65 + w) s, h) := by
  obtain ⟨a1, a2, a3, b0, b1, b2, b3, b5, b6, b7, b8, b9, b10, -⟩ := g
  unfold c_X5_tells
  rcases (show w = 0 ∨ w = 1 ∨ w = 2 ∨ w = 3 ∨ w = 4 ∨ w = 5 ∨ w = 6 ∨ w = 7 ∨ w = 8 by omega) with rfl | rfl | rfl | rfl | rfl | rfl | rfl | rfl | rfl
  · rw [if_neg (by decide), if_pos (by decide), if_pos a1, b0]
  · rw [if_neg (by decide), if_neg (by decide), if_pos (by decide), if_pos a1, b1]
  · rw [if_neg (by decide), if_neg (by decide), if_neg (by decide), if_pos (by decide), if_pos a1, b2]
  · rw [if_neg (by decide), if_neg (by decide), if_neg (by decide), if_neg (by decide), if_pos (by decide), if_pos a1, b5]
  · rw [if_neg (by decide), if_neg (by decide), if_neg (by decide), if_neg (by decide), if_neg (by decide), if_pos (by decide), if_pos a1, b6]
  · rw [if_neg (by decide), if_neg (by decide), if_neg (by decide), if_neg (by decide), if_neg (by decide), if_neg (by decide), if_pos (by decide), if_pos a1, b7]
  · rw [if_neg (by decide), if_neg (by decide), if_neg (by decide), if_neg (by decide), if_neg (by decide), if_neg (by decide), if_neg (by decide), if_pos (by decide), if_pos a1, b8]
  · rw [if_neg (by decide), if_neg (by decide), if_neg (by decide), if_neg (by decide), if_neg (by decide), if_neg (by decide), if_neg (by decide), if_neg (by decide), if_pos (by decide), if_pos a1, b9]
  · rw [if_pos (by decide), if_pos a1, b10]
theorem m_tells (I : Ifx h) {s w : Nat} (hs : s < 20) (hw : w ≤ 8) : c_X10_sheetTells F 46 (nI s) (nI w) h = some (hI h (65 + w) s, h) := by
  unfold c_X10_sheetTells
  rcases (show w = 0 ∨ w = 1 ∨ w = 2 ∨ w = 3 ∨ w = 4 ∨ w = 5 ∨ w = 6 ∨ w = 7 ∨ w = 8 by omega) with rfl | rfl | rfl | rfl | rfl | rfl | rfl | rfl | rfl
  · rw [if_neg (by decide), if_pos (by decide), fT46 I, if_pos rfl, fR46_27 I, lt_, nn, if_pos (okA_n (fT65 I) (fN65 I) hs (by decide)), ix_n (by omega)]
  · rw [if_neg (by decide), if_neg (by decide), if_pos (by decide), fT46 I, if_pos rfl, fR46_28 I, lt_, nn, if_pos (okA_n (fT66 I) (fN66 I) hs (by decide)), ix_n (by omega)]
  · rw [if_neg (by decide), if_neg (by decide), if_neg (by decide), if_pos (by decide), fT46 I, if_pos rfl, fR46_29 I, lt_, nn, if_pos (okA_n (fT67 I) (fN67 I) hs (by decide)), ix_n (by omega)]
  · rw [if_neg (by decide), if_neg (by decide), if_neg (by decide), if_neg (by decide), if_pos (by decide), fT46 I, if_pos rfl, fR46_30 I, lt_, nn, if_pos (okA_n (fT68 I) (fN68 I) hs (by decide)), ix_n (by omega)]
  · rw [if_neg (by decide), if_neg (by decide), if_neg (by decide), if_neg (by decide), if_neg (by decide), if_pos (by decide), fT46 I, if_pos rfl, fR46_31 I, lt_, nn, if_pos (okA_n (fT69 I) (fN69 I) hs (by decide)), ix_n (by omega)]
  · rw [if_neg (by decide), if_neg (by decide), if_neg (by decide), if_neg (by decide), if_neg (by decide), if_neg (by decide), if_pos (by decide), fT46 I, if_pos rfl, fR46_32 I, lt_, nn, if_pos (okA_n (fT70 I) (fN70 I) hs (by decide)), ix_n (by omega)]
  · rw [if_neg (by decide), if_neg (by decide), if_neg (by decide), if_neg (by decide), if_neg (by decide), if_neg (by decide), if_neg (by decide), if_pos (by decide), fT46 I, if_pos rfl, fR46_33 I, lt_, nn, if_pos (okA_n (fT71 I) (fN71 I) hs (by decide)), ix_n (by omega)]
  · rw [if_neg (by decide), if_neg (by decide), if_neg (by decide), if_neg (by decide), if_neg (by decide), if_neg (by decide), if_neg (by decide), if_neg (by decide), if_pos (by decide), fT46 I, if_pos rfl, fR46_34 I, lt_, nn, if_pos (okA_n (fT72 I) (fN72 I) hs (by decide)), ix_n (by omega)]
  · rw [if_pos (by decide), fT46 I, if_pos rfl, fR46_35 I, lt_, nn, if_pos (okA_n (fT73 I) (fN73 I) hs (by decide)), ix_n (by omega)]
theorem op_told (J : Inv h) : OkI h (c_X9_told F 5 x1 x2 h) (c_X10_told F 46 x1 x2) := by
  obtain ⟨ow, J⟩ := J
  have o := J.1
  have I := J.2.1
  have R : Rshe ow h := J.2.2.2.2.2.2.2.2.2.2.2.2.2.1
  obtain ⟨q, hq, h1, h2, h3, h4, h5⟩ := R
  unfold c_X9_told c_X10_told
  by_cases c1 : 0 ≤ x1.toInt ∧ x1.toInt ≤ (q : Int) - 1
  · by_cases c2 : 0 ≤ x2.toInt ∧ x2.toInt ≤ 8
    · obtain ⟨s, hs, rfl⟩ := rng (x := x1) (n := 19) ⟨c1.1, by omega⟩
      obtain ⟨w, hw, rfl⟩ := rng (x := x2) (n := 8) c2
      have hsq : s < q := by rw [toI_n (by omega)] at c1; omega
      obtain ⟨a, ha, g⟩ := h3 s hsq
      have b1 : okA h 15 26 (nI s) = true := okA_n (fT15 I) (fN15 I) (by omega) (by decide)
      have s1 : St [3] ow h (sI h 5 15 (hI h (65 + w) s)) := (St.r I).wI o 3 (by decide) rfl (by decide)
      have I1 := I.st o s1 (by decide)
      have s2 : St [3, 53] ow h (sI (sI h 5 15 (hI h (65 + w) s)) 46 2 (hI h (65 + w) s)) := (s1.sub (by decide)).wI o 53 (by decide) rfl (by decide)
      have h2' : hI (sI h 5 15 (hI h (65 + w) s)) 46 26 = nI q := h2
      have e9 : hI (sI h 5 15 (hI h (65 + w) s)) (65 + w) s = hI h (65 + w) s := by rw [hI_sI, if_neg (by omega)]
      refine ⟨1, sI h 5 15 (hI h (65 + w) s), sI (sI h 5 15 (hI h (65 + w) s)) 46 2 (hI h (65 + w) s), ?_, ?_, ⟨ow, J.fin o s2 (OwX.refl _ _) (by decide) (c3 := fun _ => by unfold Rask; simp [hI_sI])⟩, ?_, ?_⟩
      · rw [fT5 I, if_pos rfl, x_isSheet I hq h1, bI_some, if_pos c1, ite10, if_neg (pnI (by omega)), if_pos (show nI w < 9 from nI_lt (b := 9) (by omega) (by decide))]
        simp only [fT5 I, fT6 I, fT7 I, fT8 I, fT9 I, fT10 I, fT11 I, fT12 I, fT13 I, fT14 I, fT15 I, fT16 I, fT17 I, fT18 I, fT19 I, fT20 I, fT21 I, fT22 I, fT23 I, fT24 I, fT25 I, fT26 I, fT27 I, fT28 I, fT29 I, fT30 I, fT31 I, fT32 I, fT33 I, fT34 I, fT35 I, fT36 I, fT37 I, fT38 I, fT39 I, fT40 I, fT41 I, fT42 I, fT43 I, fT44 I, fT45 I, fR5_0 I, fR5_1 I, fR5_2 I, fR5_3 I, fR5_5 I, fR5_6 I, fR5_7 I, fR5_8 I, fR5_9 I, fR5_10 I, fR5_11 I, fR5_13 I, fR10_0 I, fR10_1 I, fR10_2 I, fR14_0 I, fR16_0 I, fR16_1 I, fR20_0 I, fR20_1 I, fR20_2 I, fR20_3 I, fR20_4 I, fR20_5 I, fR20_6 I, fR28_0 I, fR28_1 I, fR28_2 I, fR28_3 I, fR28_4 I, fR34_0 I, fR34_1 I, fR34_2 I, fR34_3 I, fR39_0 I, fR39_1 I, fR39_2 I, fR39_3 I, fR39_4 I, if_true, lt_, nn, b1, ix_n (show s < 2147483648 by omega), ha, g.1, x_tells F g hw, bI_some]
      · dsimp only
        rw [fT46 I1, if_pos rfl, m_isSheet I1 hq h2', bI_some, if_pos c1, ite10, m_in, bI_some, ti_0, ti_8, if_pos c2, ite10, fT46 I1, if_pos rfl, m_tells F I1 (by omega) hw, bI_some, e9]
        simp only [fT46 I1, if_true, c_X10_ask, lt_, bI_some]
      · show hZ h ≤ _; omega
      · show hS h ≤ _; omega
    · refine OkI.same (-1) ⟨ow, J⟩ ?_ ?_
      · rw [fT5 I, if_pos rfl, x_isSheet I hq h1, bI_some, if_pos c1, ite10]
        by_cases c3 : x2 < 0
        · rw [if_pos c3]
        · rw [if_neg c3, if_neg (by rw [fa_lt, ti_0] at c3; rw [fa_lt, ti_9]; omega)]
      · rw [fT46 I, if_pos rfl, m_isSheet I hq h2, bI_some, if_pos c1, ite10, m_in, bI_some, ti_0, ti_8, if_neg c2, ite00]
  · refine OkI.same (-1) ⟨ow, J⟩ ?_ ?_
    · rw [fT5 I, if_pos rfl, x_isSheet I hq h1, bI_some, if_neg c1, ite00]
    · rw [fT46 I, if_pos rfl, m_isSheet I hq h2, bI_some, if_neg c1, ite00]
theorem op_sung (J : Inv h) : OkI h (c_X9_sung F 5 x1 x2 x3 h) (c_X10_sung F 46 x1 x2 x3) := by
  obtain ⟨ow, J⟩ := J
  have o := J.1
  have I := J.2.1
  have R : Rsun h := J.2.2.2.2.2.2.2.2.2.2.2.2.2.2.2.2.1
  obtain ⟨q, hq, h1, h2, h3⟩ := R
  unfold c_X9_sung c_X10_sung
  by_cases c1 : 0 ≤ x1.toInt ∧ x1.toInt ≤ 9
  · by_cases c2 : 0 ≤ x2.toInt ∧ x2.toInt ≤ 9
    · by_cases c3 : 0 ≤ x3.toInt ∧ x3.toInt ≤ 99
      · by_cases c4 : q = 30
        · refine OkI.same (-2) ⟨ow, J⟩ ?_ ?_
          · rw [x_isSong, bI_some, if_pos c1, ite10, x_isPlace, bI_some, if_pos c2, ite10, x_isWalkedDay, bI_some, if_pos c3, ite10]
            simp only [fT5 I, fT6 I, fT7 I, fT8 I, fT9 I, fT10 I, fT11 I, fT12 I, fT13 I, fT14 I, fT15 I, fT16 I, fT17 I, fT18 I, fT19 I, fT20 I, fT21 I, fT22 I, fT23 I, fT24 I, fT25 I, fT26 I, fT27 I, fT28 I, fT29 I, fT30 I, fT31 I, fT32 I, fT33 I, fT34 I, fT35 I, fT36 I, fT37 I, fT38 I, fT39 I, fT40 I, fT41 I, fT42 I, fT43 I, fT44 I, fT45 I, fR5_0 I, fR5_1 I, fR5_2 I, fR5_3 I, fR5_5 I, fR5_6 I, fR5_7 I, fR5_8 I, fR5_9 I, fR5_10 I, fR5_11 I, fR5_13 I, fR10_0 I, fR10_1 I, fR10_2 I, fR14_0 I, fR16_0 I, fR16_1 I, fR20_0 I, fR20_1 I, fR20_2 I, fR20_3 I, fR20_4 I, fR20_5 I, fR20_6 I, fR28_0 I, fR28_1 I, fR28_2 I, fR28_3 I, fR28_4 I, fR34_0 I, fR34_1 I, fR34_2 I, fR34_3 I, fR39_0 I, fR39_1 I, fR39_2 I, fR39_3 I, fR39_4 I, if_true, lt_, nn, h1, c4, if_neg (show ¬ nI 30 < 30 by decide)]
          · rw [m_isSong, bI_some, if_pos c1, ite10, m_isPlace, bI_some, if_pos c2, ite10, m_isEarly, bI_some, if_pos c3, ite10, fT46 I, if_pos rfl, h2, c4, if_pos (by rfl)]
        · have c5 : nI q < 30 := nI_lt (b := 30) (by omega) (by decide)
          have c6 : ¬ nI q = 30 := by rw [show (30 : Int32) = nI 30 from rfl, nI_eq (by omega) (by decide)]; omega
          have b1 : okA h 41 20 (nI q) = true := okA_n (fT41 I) (fN41 I) (by omega) (by decide)
          have b2 : okA (sI h 41 q x1) 42 20 (nI q) = true := okA_n (fT42 I) (fN42 I) (by omega) (by decide)
          have b3 : okA (sI (sI h 41 q x1) 42 q x2) 43 20 (nI q) = true := okA_n (fT43 I) (fN43 I) (by omega) (by decide)
          have s1 : St [19] ow h (sI (sI (sI (sI h 41 q x1) 42 q x2) 43 q x3) 39 5 (nI (q + 1))) := ((((St.r I).wI o 19 (by decide) rfl (by decide)).wI o 19 (by decide) rfl (by decide)).wI o 19 (by decide) rfl (by decide)).wI o 19 (by decide) rfl (by decide)
          have I1 := I.st o s1 (by decide)
          generalize hh : sI (sI (sI (sI h 41 q x1) 42 q x2) 43 q x3) 39 5 (nI (q + 1)) = g1 at s1 I1
          have h2' : hI g1 46 55 = nI q := (s1.fam I o (c := 69) (by decide) 46 55 (by omega) rfl).1.trans h2
          have d1 : okA g1 91 20 (nI q) = true := okA_n (fT91 I1) (fN91 I1) (by omega) (by decide)
          have d2 : okA (sI g1 91 q x1) 92 20 (nI q) = true := okA_n (fT92 I1) (fN92 I1) (by omega) (by decide)
          have d3 : okA (sI (sI g1 91 q x1) 92 q x2) 93 20 (nI q) = true := okA_n (fT93 I1) (fN93 I1) (by omega) (by decide)
          have s2 : St [19, 69] ow h (sI (sI (sI (sI g1 91 q x1) 92 q x2) 93 q x3) 46 55 (nI (q + 1))) := ((((s1.sub (by decide)).wI o 69 (by decide) rfl (by decide)).wI o 69 (by decide) rfl (by decide)).wI o 69 (by decide) rfl (by decide)).wI o 69 (by decide) rfl (by decide)
          refine ⟨nI (q + 1), g1, sI (sI (sI (sI g1 91 q x1) 92 q x2) 93 q x3) 46 55 (nI (q + 1)), ?_, ?_, ⟨ow, J.fin o s2 (OwX.refl _ _) (by decide) (c19 := fun _ => ?_)⟩, ?_, ?_⟩
          · rw [x_isSong, bI_some, if_pos c1, ite10, x_isPlace, bI_some, if_pos c2, ite10, x_isWalkedDay, bI_some, if_pos c3, ite10, ← hh]
            simp only [fT5 I, fT6 I, fT7 I, fT8 I, fT9 I, fT10 I, fT11 I, fT12 I, fT13 I, fT14 I, fT15 I, fT16 I, fT17 I, fT18 I, fT19 I, fT20 I, fT21 I, fT22 I, fT23 I, fT24 I, fT25 I, fT26 I, fT27 I, fT28 I, fT29 I, fT30 I, fT31 I, fT32 I, fT33 I, fT34 I, fT35 I, fT36 I, fT37 I, fT38 I, fT39 I, fT40 I, fT41 I, fT42 I, fT43 I, fT44 I, fT45 I, fR5_0 I, fR5_1 I, fR5_2 I, fR5_3 I, fR5_5 I, fR5_6 I, fR5_7 I, fR5_8 I, fR5_9 I, fR5_10 I, fR5_11 I, fR5_13 I, fR10_0 I, fR10_1 I, fR10_2 I, fR14_0 I, fR16_0 I, fR16_1 I, fR20_0 I, fR20_1 I, fR20_2 I, fR20_3 I, fR20_4 I, fR20_5 I, fR20_6 I, fR28_0 I, fR28_1 I, fR28_2 I, fR28_3 I, fR28_4 I, fR34_0 I, fR34_1 I, fR34_2 I, fR34_3 I, fR39_0 I, fR39_1 I, fR39_2 I, fR39_3 I, fR39_4 I, if_true, lt_, nn, h1, if_pos c5, c_X4_add, b1, b2, b3, ix_n (show q < 2147483648 by omega), hT_sI, hR_sI, hI_sI, Nat.reduceEqDiff, false_and, if_false, nI_1, bV_some, and_self]
          · dsimp only
            rw [m_isSong, bI_some, if_pos c1, ite10, m_isPlace, bI_some, if_pos c2, ite10, m_isEarly, bI_some, if_pos c3, ite10, fT46 I1, if_pos rfl, h2', if_neg c6]
            simp only [fT46 I1, fR46_1 I1, fR46_7 I1, fR46_8 I1, fR46_9 I1, fR46_10 I1, fR46_11 I1, fR46_12 I1, fR46_13 I1, fR46_15 I1, fR46_16 I1, fR46_17 I1, fR46_18 I1, fR46_20 I1, fR46_21 I1, fR46_22 I1, fR46_23 I1, fR46_24 I1, fR46_25 I1, fR46_27 I1, fR46_28 I1, fR46_29 I1, fR46_30 I1, fR46_31 I1, fR46_32 I1, fR46_33 I1, fR46_34 I1, fR46_35 I1, fR46_36 I1, fR46_37 I1, fR46_38 I1, fR46_40 I1, fR46_41 I1, fR46_42 I1, fR46_43 I1, fR46_44 I1, fR46_45 I1, fR46_46 I1, fR46_47 I1, fR46_48 I1, fR46_50 I1, fR46_51 I1, fR46_52 I1, fR46_53 I1, fR46_54 I1, fR46_56 I1, fR46_57 I1, fR46_58 I1, if_true, lt_, nn, h2', d1, d2, d3, ix_n (show q < 2147483648 by omega), hT_sI, hR_sI, hI_sI, Nat.reduceEqDiff, false_and, if_false, nI_1, and_self]
          · have w1 : ∀ k, hI g1 41 k = if k = q then x1 else hI h 41 k := fun k => by rw [← hh]; simp [hI_sI]
            have w2 : ∀ k, hI g1 42 k = if k = q then x2 else hI h 42 k := fun k => by rw [← hh]; simp [hI_sI]
            have w3 : ∀ k, hI g1 43 k = if k = q then x3 else hI h 43 k := fun k => by rw [← hh]; simp [hI_sI]
            have w4 : hI g1 39 5 = nI (q + 1) := by rw [← hh]; simp [hI_sI]
            have w5 : ∀ k, hI g1 91 k = hI h 91 k := fun k => (s1.fam I o (c := 69) (by decide) 91 k (by omega) rfl).1
            have w6 : ∀ k, hI g1 92 k = hI h 92 k := fun k => (s1.fam I o (c := 69) (by decide) 92 k (by omega) rfl).1
            have w7 : ∀ k, hI g1 93 k = hI h 93 k := fun k => (s1.fam I o (c := 69) (by decide) 93 k (by omega) rfl).1
            refine ⟨q + 1, by omega, by simp [hI_sI, w4], by simp [hI_sI], fun k hk => ?_⟩
            simp only [hI_sI, Nat.reduceEqDiff, false_and, if_false, true_and, w1, w2, w3, w5, w6, w7]
            by_cases e : k = q
            · simp only [e, if_true]
              obtain ⟨u1, v1, e1⟩ := rng (x := x1) (n := 9) c1
              obtain ⟨u2, v2, e2⟩ := rng (x := x2) (n := 9) c2
              obtain ⟨u3, v3, e3⟩ := rng (x := x3) (n := 99) c3
              exact ⟨trivial, trivial, trivial, ⟨u1, by omega, e1⟩, ⟨u2, by omega, e2⟩, ⟨u3, by omega, e3⟩⟩
            · simp only [e, if_false]
              exact h3 k (by omega)
          · show hZ g1 ≤ _; rw [← hh]; show hZ h ≤ _; omega
          · show hS g1 ≤ _; rw [← hh]; show hS h ≤ _; omega
      · exact OkI.same (-1) ⟨ow, J⟩ (by rw [x_isSong, bI_some, if_pos c1, ite10, x_isPlace, bI_some, if_pos c2, ite10, x_isWalkedDay, bI_some, if_neg c3, ite00]) (by rw [m_isSong, bI_some, if_pos c1, ite10, m_isPlace, bI_some, if_pos c2, ite10, m_isEarly, bI_some, if_neg c3, ite00])
    · exact OkI.same (-1) ⟨ow, J⟩ (by rw [x_isSong, bI_some, if_pos c1, ite10, x_isPlace, bI_some, if_neg c2, ite00]) (by rw [m_isSong, bI_some, if_pos c1, ite10, m_isPlace, bI_some, if_neg c2, ite00])
  · exact OkI.same (-1) ⟨ow, J⟩ (by rw [x_isSong, bI_some, if_neg c1, ite00]) (by rw [m_isSong, bI_some, if_neg c1, ite00])
end Ops9
