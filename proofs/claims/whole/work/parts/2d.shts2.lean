section Ops8
variable {h : z_Hp} (F : Nat) (x1 x2 x3 x4 x5 : Int32)
theorem op_type (J : Inv h) : OkI h (c_X9_type F 5 x1 x2 x3 h) (c_X10_type F 46 x1 x2 x3) := by
  obtain ⟨ow, J⟩ := J
  have o := J.1
  have I := J.2.1
  have R : Rshe ow h := J.2.2.2.2.2.2.2.2.2.2.2.2.2.1
  obtain ⟨q, hq, h1, h2, h3, h4, h5⟩ := R
  unfold c_X9_type c_X10_type
  by_cases c1 : 0 ≤ x1.toInt ∧ x1.toInt ≤ (q : Int) - 1
  · by_cases c2 : 0 ≤ x2.toInt ∧ x2.toInt ≤ 65535
    · by_cases c3 : 0 ≤ x3.toInt ∧ x3.toInt ≤ 65535
      · obtain ⟨s, hs, rfl⟩ := rng (x := x1) (n := 19) ⟨c1.1, by omega⟩
        have hsq : s < q := by rw [toI_n (by omega)] at c1; omega
        obtain ⟨a, ha, g⟩ := h3 s hsq
        have a94 := g.2.2.1
        have b1 : okA h 15 26 (nI s) = true := okA_n (fT15 I) (fN15 I) (by omega) (by decide)
        have s1 : St [16] ow h (sI (sI h a 7 x2) a 8 x3) := ((St.r I).gI (by rw [g.2.1]; decide)).gI (by rw [g.2.1]; decide)
        have I1 := I.st o s1 (by decide)
        have h2' : hI (sI (sI h a 7 x2) a 8 x3) 46 26 = nI q := by rw [hI_sI, if_neg (by omega), hI_sI, if_neg (by omega)]; exact h2
        have s2 : St [16, 66] ow h (sI (sI (sI (sI h a 7 x2) a 8 x3) 70 s x2) 71 s x3) := ((s1.sub (by decide)).wI o 66 (by decide) rfl (by decide)).wI o 66 (by decide) rfl (by decide)
        refine ⟨1, sI (sI h a 7 x2) a 8 x3, sI (sI (sI (sI h a 7 x2) a 8 x3) 70 s x2) 71 s x3, ?_, ?_, ⟨ow, J.fin o s2 (OwX.refl _ _) (by decide) (c16 := fun _ => ?_)⟩, ?_, ?_⟩
        · rw [fT5 I, if_pos rfl, x_isSheet I hq h1, bI_some, if_pos c1, ite10, x_isBits16, bI_some, if_pos c2, ite10, x_isBits16, bI_some, if_pos c3, ite10]
          simp only [fT5 I, fT6 I, fT7 I, fT8 I, fT9 I, fT10 I, fT11 I, fT12 I, fT13 I, fT14 I, fT15 I, fT16 I, fT17 I, fT18 I, fT19 I, fT20 I, fT21 I, fT22 I, fT23 I, fT24 I, fT25 I, fT26 I, fT27 I, fT28 I, fT29 I, fT30 I, fT31 I, fT32 I, fT33 I, fT34 I, fT35 I, fT36 I, fT37 I, fT38 I, fT39 I, fT40 I, fT41 I, fT42 I, fT43 I, fT44 I, fT45 I, fR5_0 I, fR5_1 I, fR5_2 I, fR5_3 I, fR5_5 I, fR5_6 I, fR5_7 I, fR5_8 I, fR5_9 I, fR5_10 I, fR5_11 I, fR5_13 I, fR10_0 I, fR10_1 I, fR10_2 I, fR14_0 I, fR16_0 I, fR16_1 I, fR20_0 I, fR20_1 I, fR20_2 I, fR20_3 I, fR20_4 I, fR20_5 I, fR20_6 I, fR28_0 I, fR28_1 I, fR28_2 I, fR28_3 I, fR28_4 I, fR34_0 I, fR34_1 I, fR34_2 I, fR34_3 I, fR39_0 I, fR39_1 I, fR39_2 I, fR39_3 I, fR39_4 I, if_true, lt_, nn, b1, ix_n (show s < 2147483648 by omega), ha, g.1, hT_sI]
        · have b2 : okA (sI (sI h a 7 x2) a 8 x3) 70 20 (nI s) = true := okA_n (fT70 I1) (fN70 I1) (by omega) (by decide)
          have b3 : okA (sI (sI (sI h a 7 x2) a 8 x3) 70 s x2) 71 20 (nI s) = true := okA_n (fT71 I1) (fN71 I1) (by omega) (by decide)
          dsimp only
          rw [fT46 I1, if_pos rfl, m_isSheet I1 hq h2', bI_some, if_pos c1, ite10, m_in, bI_some, ti_0, ti_65535, if_pos c2, ite10, m_in, bI_some, ti_0, ti_65535, if_pos c3, ite10]
          simp only [fT46 I1, fR46_32 I1, if_true, lt_, nn, b2, ix_n (show s < 2147483648 by omega), hT_sI _ 70, hR_sI _ 70]
          simp only [hT_sI, hR_sI, fT46 I, fR46_33 I, if_true, b3]
        · refine Rshe.upd hq hsq h1 h2 h3 h4 h5 ha (fun b => ⟨rfl, rfl⟩) (fun b i => rfl) (fun b i e1 e2 => ?_) a94 (fun b hb => shcut g hb) ?_
          · rw [hI_sI, if_neg (by omega), hI_sI, if_neg (by omega), hI_sI, if_neg (fun e => e1 e.1), hI_sI, if_neg (fun e => e1 e.1)]
          · skip
            obtain ⟨a1, a2, a3, b0, b1', b2', b3', b5, b6, b7, b8, b9, b10, ⟨b, n, k1, k2, k3, k4, k5, k6, k7⟩, r1, r2, r3, r4, r5, r6, r7, r8, r9⟩ := g
            have hcut : b ≠ a := by
              intro e2
              rw [e2] at k2
              rw [k2, if_neg (by omega)] at a1
              omega
            unfold shAt
            refine ⟨a1, a2, a3, ?_, ?_, ?_, ?_, ?_, ?_, ?_, ?_, ?_, ?_, ⟨b, n, k1, k2, k3, k4, ?_, k6, fun k hk => ?_⟩, ?_, ?_, ?_, ?_, ?_, ?_, ?_, ?_, ?_⟩
            all_goals simp only [hI_sI, show ¬ (65 = a) by omega, show ¬ (66 = a) by omega, show ¬ (67 = a) by omega, show ¬ (68 = a) by omega, show ¬ (69 = a) by omega, show ¬ (70 = a) by omega, show ¬ (71 = a) by omega, show ¬ (72 = a) by omega, show ¬ (73 = a) by omega, show ¬ (74 = a) by omega, show ¬ (75 = a) by omega, show ¬ (76 = a) by omega, show ¬ (a = 70) by omega, show ¬ (a = 71) by omega, show ¬ b = a from hcut, false_and, if_false, true_and, and_true, if_true, Nat.reduceEqDiff]
            all_goals first | exact b0 | exact b1' | exact b2' | exact b3' | exact b5 | exact b6 | exact b7 | exact b8 | exact b9 | exact b10 | exact k5 | exact r1 | exact r2 | exact r3 | exact r4 | exact r5 | exact r6 | exact r7 | exact r8 | exact r9 | skip
            · rw [if_neg (by omega), if_neg (by omega)]; exact k7 k hk
            · obtain ⟨k, hk, e⟩ := rng (x := x2) (n := 65535) c2
              exact ⟨k, by omega, e⟩
            · obtain ⟨k, hk, e⟩ := rng (x := x3) (n := 65535) c3
              exact ⟨k, by omega, e⟩
        · show hZ h ≤ _; omega
        · show hS h ≤ _; omega
      · refine OkI.same (-1) ⟨ow, J⟩ ?_ ?_
        · rw [fT5 I, if_pos rfl, x_isSheet I hq h1, bI_some, if_pos c1, ite10, x_isBits16, bI_some, if_pos c2, ite10, x_isBits16, bI_some, if_neg c3, ite00]
        · rw [fT46 I, if_pos rfl, m_isSheet I hq h2, bI_some, if_pos c1, ite10, m_in, bI_some, ti_0, ti_65535, if_pos c2, ite10, m_in, bI_some, ti_0, ti_65535, if_neg c3, ite00]
    · refine OkI.same (-1) ⟨ow, J⟩ ?_ ?_
      · rw [fT5 I, if_pos rfl, x_isSheet I hq h1, bI_some, if_pos c1, ite10, x_isBits16, bI_some, if_neg c2, ite00]
      · rw [fT46 I, if_pos rfl, m_isSheet I hq h2, bI_some, if_pos c1, ite10, m_in, bI_some, ti_0, ti_65535, if_neg c2, ite00]
  · refine OkI.same (-1) ⟨ow, J⟩ ?_ ?_
    · rw [fT5 I, if_pos rfl, x_isSheet I hq h1, bI_some, if_neg c1, ite00]
    · rw [fT46 I, if_pos rfl, m_isSheet I hq h2, bI_some, if_neg c1, ite00]
/-- the span's two numbers as they are kept -/
theorem op_span (J : Inv h) : OkI h (c_X9_span F 5 x1 x2 x3 h) (c_X10_span F 46 x1 x2 x3) := by
  obtain ⟨ow, J⟩ := J
  have o := J.1
  have I := J.2.1
  have R : Rshe ow h := J.2.2.2.2.2.2.2.2.2.2.2.2.2.1
  obtain ⟨q, hq, h1, h2, h3, h4, h5⟩ := R
  unfold c_X9_span c_X10_span
  by_cases c1 : 0 ≤ x1.toInt ∧ x1.toInt ≤ (q : Int) - 1
  · by_cases c2 : x2 = -9 ∨ (1500 ≤ x2.toInt ∧ x2.toInt ≤ x3.toInt ∧ x3.toInt ≤ 1899)
    · obtain ⟨s, hs, rfl⟩ := rng (x := x1) (n := 19) ⟨c1.1, by omega⟩
      have hsq : s < q := by rw [toI_n (by omega)] at c1; omega
      obtain ⟨a, ha, g⟩ := h3 s hsq
      have a94 := g.2.2.1
      have b1 : okA h 15 26 (nI s) = true := okA_n (fT15 I) (fN15 I) (by omega) (by decide)
      obtain ⟨y, hy⟩ : ∃ y, y = if x2 = -9 then (-9 : Int32) else x3 := ⟨_, rfl⟩
      have hyr : yrs x2 y := by
        by_cases c4 : x2 = -9
        · rw [if_pos c4] at hy; exact Or.inl ⟨c4, hy⟩
        · rw [if_neg c4] at hy
          have c5 := c2.resolve_left c4
          obtain ⟨u, hu, e1⟩ := rng (x := x2) (n := 1899) ⟨by omega, by omega⟩
          obtain ⟨v, hv, e2⟩ := rng (x := x3) (n := 1899) ⟨by omega, by omega⟩
          rw [e1, e2, toI_n (by omega), toI_n (by omega)] at c5
          exact Or.inr ⟨u, v, by omega, by omega, by omega, e1, by rw [hy, e2]⟩
      have s1 : St [16] ow h (sI (sI h a 9 x2) a 10 y) := ((St.r I).gI (by rw [g.2.1]; decide)).gI (by rw [g.2.1]; decide)
      have I1 := I.st o s1 (by decide)
      have h2' : hI (sI (sI h a 9 x2) a 10 y) 46 26 = nI q := by rw [hI_sI, if_neg (by omega), hI_sI, if_neg (by omega)]; exact h2
      have s2 : St [16, 66] ow h (sI (sI (sI (sI h a 9 x2) a 10 y) 72 s x2) 73 s y) := ((s1.sub (by decide)).wI o 66 (by decide) rfl (by decide)).wI o 66 (by decide) rfl (by decide)
      refine ⟨1, sI (sI h a 9 x2) a 10 y, sI (sI (sI (sI h a 9 x2) a 10 y) 72 s x2) 73 s y, ?_, ?_, ⟨ow, J.fin o s2 (OwX.refl _ _) (by decide) (c16 := fun _ => ?_)⟩, ?_, ?_⟩
      · rw [fT5 I, if_pos rfl, x_isSheet I hq h1, bI_some, if_pos c1, ite10, lt_]
        by_cases c4 : x2 = -9
        · rw [if_pos c4] at hy
          subst hy
          rw [if_pos c4]
          simp only [fT5 I, fT6 I, fT7 I, fT8 I, fT9 I, fT10 I, fT11 I, fT12 I, fT13 I, fT14 I, fT15 I, fT16 I, fT17 I, fT18 I, fT19 I, fT20 I, fT21 I, fT22 I, fT23 I, fT24 I, fT25 I, fT26 I, fT27 I, fT28 I, fT29 I, fT30 I, fT31 I, fT32 I, fT33 I, fT34 I, fT35 I, fT36 I, fT37 I, fT38 I, fT39 I, fT40 I, fT41 I, fT42 I, fT43 I, fT44 I, fT45 I, fR5_0 I, fR5_1 I, fR5_2 I, fR5_3 I, fR5_5 I, fR5_6 I, fR5_7 I, fR5_8 I, fR5_9 I, fR5_10 I, fR5_11 I, fR5_13 I, fR10_0 I, fR10_1 I, fR10_2 I, fR14_0 I, fR16_0 I, fR16_1 I, fR20_0 I, fR20_1 I, fR20_2 I, fR20_3 I, fR20_4 I, fR20_5 I, fR20_6 I, fR28_0 I, fR28_1 I, fR28_2 I, fR28_3 I, fR28_4 I, fR34_0 I, fR34_1 I, fR34_2 I, fR34_3 I, fR39_0 I, fR39_1 I, fR39_2 I, fR39_3 I, fR39_4 I, if_true, lt_, nn, b1, ix_n (show s < 2147483648 by omega), ha, g.1, hT_sI, if_pos c4]
        · rw [if_neg c4] at hy
          subst hy
          rw [if_neg c4, x_isSpan, bI_some, if_pos (c2.resolve_left c4), ite10]
          simp only [fT5 I, fT6 I, fT7 I, fT8 I, fT9 I, fT10 I, fT11 I, fT12 I, fT13 I, fT14 I, fT15 I, fT16 I, fT17 I, fT18 I, fT19 I, fT20 I, fT21 I, fT22 I, fT23 I, fT24 I, fT25 I, fT26 I, fT27 I, fT28 I, fT29 I, fT30 I, fT31 I, fT32 I, fT33 I, fT34 I, fT35 I, fT36 I, fT37 I, fT38 I, fT39 I, fT40 I, fT41 I, fT42 I, fT43 I, fT44 I, fT45 I, fR5_0 I, fR5_1 I, fR5_2 I, fR5_3 I, fR5_5 I, fR5_6 I, fR5_7 I, fR5_8 I, fR5_9 I, fR5_10 I, fR5_11 I, fR5_13 I, fR10_0 I, fR10_1 I, fR10_2 I, fR14_0 I, fR16_0 I, fR16_1 I, fR20_0 I, fR20_1 I, fR20_2 I, fR20_3 I, fR20_4 I, fR20_5 I, fR20_6 I, fR28_0 I, fR28_1 I, fR28_2 I, fR28_3 I, fR28_4 I, fR34_0 I, fR34_1 I, fR34_2 I, fR34_3 I, fR39_0 I, fR39_1 I, fR39_2 I, fR39_3 I, fR39_4 I, if_true, lt_, nn, b1, ix_n (show s < 2147483648 by omega), ha, g.1, hT_sI, if_neg c4]
      · have b2 : okA (sI (sI h a 9 x2) a 10 y) 72 20 (nI s) = true := okA_n (fT72 I1) (fN72 I1) (by omega) (by decide)
        have b3 : okA (sI (sI (sI h a 9 x2) a 10 y) 72 s x2) 73 20 (nI s) = true := okA_n (fT73 I1) (fN73 I1) (by omega) (by decide)
        dsimp only
        rw [fT46 I1, if_pos rfl, m_isSheet I1 hq h2', bI_some, if_pos c1, ite10, lt_]
        by_cases c4 : x2 = -9
        · rw [if_pos c4] at hy
          subst hy
          rw [if_pos c4]
          simp only [fT46 I1, fR46_34 I1, if_true, lt_, nn, b2, ix_n (show s < 2147483648 by omega), hT_sI _ 72, hR_sI _ 72, if_pos c4]
          simp only [hT_sI, hR_sI, fT46 I, fR46_35 I, if_true, b3]
        · rw [if_neg c4] at hy
          have hy' := hy.symm
          subst hy'
          have c5 := c2.resolve_left c4
          have c6 : 1500 ≤ x2.toInt ∧ x2.toInt ≤ 1899 := by omega
          have c7 : x2.toInt ≤ x3.toInt ∧ x3.toInt ≤ 1899 := by omega
          rw [if_neg c4, m_isYear, bI_some, if_pos c6, ite10, m_in, bI_some, ti_1899, if_pos c7, ite10]
          simp only [fT46 I1, fR46_34 I1, if_true, lt_, nn, b2, ix_n (show s < 2147483648 by omega), hT_sI _ 72, hR_sI _ 72, if_neg c4]
          simp only [hT_sI, hR_sI, fT46 I, fR46_35 I, if_true, b3]
      · refine Rshe.upd hq hsq h1 h2 h3 h4 h5 ha (fun b => ⟨rfl, rfl⟩) (fun b i => rfl) (fun b i e1 e2 => ?_) a94 (fun b hb => shcut g hb) ?_
        · rw [hI_sI, if_neg (by omega), hI_sI, if_neg (by omega), hI_sI, if_neg (fun e => e1 e.1), hI_sI, if_neg (fun e => e1 e.1)]
        · skip
          obtain ⟨a1, a2, a3, b0, b1', b2', b3', b5, b6, b7, b8, b9, b10, ⟨b, n, k1, k2, k3, k4, k5, k6, k7⟩, r1, r2, r3, r4, r5, r6, r7, r8, r9⟩ := g
          have hcut : b ≠ a := by
            intro e2
            rw [e2] at k2
            rw [k2, if_neg (by omega)] at a1
            omega
          unfold shAt
          refine ⟨a1, a2, a3, ?_, ?_, ?_, ?_, ?_, ?_, ?_, ?_, ?_, ?_, ⟨b, n, k1, k2, k3, k4, ?_, k6, fun k hk => ?_⟩, ?_, ?_, ?_, ?_, ?_, ?_, ?_, ?_, ?_⟩
          all_goals simp only [hI_sI, show ¬ (65 = a) by omega, show ¬ (66 = a) by omega, show ¬ (67 = a) by omega, show ¬ (68 = a) by omega, show ¬ (69 = a) by omega, show ¬ (70 = a) by omega, show ¬ (71 = a) by omega, show ¬ (72 = a) by omega, show ¬ (73 = a) by omega, show ¬ (74 = a) by omega, show ¬ (75 = a) by omega, show ¬ (76 = a) by omega, show ¬ (a = 72) by omega, show ¬ (a = 73) by omega, show ¬ b = a from hcut, false_and, if_false, true_and, and_true, if_true, Nat.reduceEqDiff]
          all_goals first | exact b0 | exact b1' | exact b2' | exact b3' | exact b5 | exact b6 | exact b7 | exact b8 | exact b9 | exact b10 | exact k5 | exact r1 | exact r2 | exact r3 | exact r4 | exact r5 | exact r6 | exact r7 | exact r8 | exact r9 | skip
          · rw [if_neg (by omega), if_neg (by omega)]; exact k7 k hk
          · exact hyr
      · show hZ h ≤ _; omega
      · show hS h ≤ _; omega
    · have c4 : ¬ x2 = -9 := fun e => c2 (Or.inl e)
      have c5 : ¬ (1500 ≤ x2.toInt ∧ x2.toInt ≤ x3.toInt ∧ x3.toInt ≤ 1899) := fun e => c2 (Or.inr e)
      refine OkI.same (-1) ⟨ow, J⟩ ?_ ?_
      · rw [fT5 I, if_pos rfl, x_isSheet I hq h1, bI_some, if_pos c1, ite10, lt_, if_neg c4, x_isSpan, bI_some, if_neg c5, ite00]
      · rw [fT46 I, if_pos rfl, m_isSheet I hq h2, bI_some, if_pos c1, ite10, lt_, if_neg c4, m_isYear, bI_some]
        by_cases c6 : 1500 ≤ x2.toInt ∧ x2.toInt ≤ 1899
        · rw [if_pos c6, ite10, m_in, bI_some, ti_1899, if_neg (show ¬ (x2.toInt ≤ x3.toInt ∧ x3.toInt ≤ 1899) by omega), ite00]
        · rw [if_neg c6, ite00]
  · refine OkI.same (-1) ⟨ow, J⟩ ?_ ?_
    · rw [fT5 I, if_pos rfl, x_isSheet I hq h1, bI_some, if_neg c1, ite00]
    · rw [fT46 I, if_pos rfl, m_isSheet I hq h2, bI_some, if_neg c1, ite00]
end Ops8
