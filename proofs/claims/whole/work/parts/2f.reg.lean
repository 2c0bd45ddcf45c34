section OpsA
variable {h : z_Hp} (F : Nat) (x1 x2 x3 x4 x5 : Int32)
theorem nI_m1 (n : Nat) : nI (n + 1) + (-1) = nI n := by
  have := nI_pred n
  rw [Int32.sub_eq_add_neg] at this
  exact this
/-- the register's order with the places above q - j moved up by one -/
def shf (h : z_Hp) (p : Nat → Nat) (q j : Nat) : z_Hp := (fun b i => if b = 38 ∧ q - j < i ∧ i ≤ q then nI (p (i - 1)) else hI h b i, h.2)
theorem hI_shf (p : Nat → Nat) (q j b i : Nat) : hI (shf h p q j) b i = if b = 38 ∧ q - j < i ∧ i ≤ q then nI (p (i - 1)) else hI h b i := rfl
theorem x_add_L36 (I : Ifx h) {q pl y N : Nat} {p : Nat → Nat} (hq : q < 40) (hpl : pl ≤ q) (hp : ∀ k, k < q → p k < q ∧ hI h 38 k = nI (p k)) (yr : Nat → Nat) (hyr : ∀ k, k < q → hI h 37 k = nI (yr k) ∧ yr k < 10000) (hy : y < 10000) (lo : ∀ k, k < pl → yr (p k) ≤ y) (hi : ∀ k, pl ≤ k → k < q → y < yr (p k)) (hN : q < N) (K : Int32 → z_Hp → Option z_Hp) :
    c_X2_add_L36 F 34 (nI y) K N (nI q) h = K (nI pl) (shf h p q (q - pl)) := by
  have e0 : shf h p q 0 = h := by
    unfold shf
    have : (fun b i => if b = 38 ∧ q - 0 < i ∧ i ≤ q then nI (p (i - 1)) else hI h b i) = h.1 := by
      funext b i
      rw [if_neg (by omega)]; rfl
    rw [this]
  have key := lpS (L := fun m (s : Int32 × z_Hp) => c_X2_add_L36 F 34 (nI y) K m s.1 s.2) (R := K (nI pl) (shf h p q (q - pl))) (fun j => (nI (q - j), shf h p q j)) (q - pl) (fun m j hj => ?_) (fun m => ?_) N (by omega)
  · simp only [e0] at key
    exact key
  · show c_X2_add_L36 F 34 (nI y) K (m + 1) (nI (q - j)) (shf h p q j) = c_X2_add_L36 F 34 (nI y) K m (nI (q - (j + 1))) _
    obtain ⟨t, ht⟩ : ∃ t, q - j = t + 1 := ⟨q - j - 1, by omega⟩
    have ht2 : q - (j + 1) = t := by omega
    rw [ht, ht2, c_X2_add_L36]
    have e1 : hI (shf h p q j) 38 t = nI (p t) := by rw [hI_shf, if_neg (by omega)]; exact (hp t (by omega)).2
    have e2 : hI (shf h p q j) 37 (p t) = nI (yr (p t)) := by rw [hI_shf, if_neg (by omega)]; exact (hyr (p t) (hp t (by omega)).1).1
    have f1 := (hp t (by omega)).1
    have f2 := (hyr (p t) f1).2
    have I1 : Ifx (shf h p q j) := I
    have b1 : okA (shf h p q j) 38 20 (nI t) = true := okA_n (fT38 I1) (fN38 I1) (by omega) (by decide)
    have b2 : okA (shf h p q j) 37 20 (nI (p t)) = true := okA_n (fT37 I1) (fN37 I1) (by omega) (by decide)
    have b3 : okA (shf h p q j) 38 20 (nI (t + 1)) = true := okA_n (fT38 I1) (fN38 I1) (by omega) (by decide)
    have c1 : ¬ nI (yr (p t)) ≤ nI y := nI_ge (hi t (by omega) (by omega)) (by omega)
    simp only [if_neg (nI_nle (show 0 < t + 1 by omega) (show t + 1 < 2 ^ 31 by omega)), fT34 I1, if_true, lt_, nn, fR34_2 I1, fR34_3 I1, nI_pred, b1, b2, b3, ix_n (show t < 2147483648 by omega), e1, ix_n (show p t < 2147483648 by omega), e2, if_neg c1, nI_m1, ix_n (show t + 1 < 2147483648 by omega)]
    congr 1
    unfold sI shf
    congr 1
    funext b i
    show (if b = 38 ∧ i = t + 1 then nI (p t) else if b = 38 ∧ q - j < i ∧ i ≤ q then nI (p (i - 1)) else hI h b i) = _
    by_cases g : b = 38 ∧ i = t + 1
    · rw [if_pos g, if_pos ⟨g.1, by omega, by omega⟩, g.2]; rfl
    · rw [if_neg g]
      by_cases g2 : b = 38 ∧ q - j < i ∧ i ≤ q
      · rw [if_pos g2, if_pos ⟨g2.1, by omega, by omega⟩]
      · rw [if_neg g2, if_neg (by omega)]
  · show c_X2_add_L36 F 34 (nI y) K (m + 1) (nI (q - (q - pl))) (shf h p q (q - pl)) = _
    rw [show q - (q - pl) = pl by omega, c_X2_add_L36]
    by_cases c : pl = 0
    · rw [if_pos (by rw [c]; decide)]
    · obtain ⟨t, rfl⟩ : ∃ t, pl = t + 1 := ⟨pl - 1, by omega⟩
      have e1 : hI (shf h p q (q - (t + 1))) 38 t = nI (p t) := by rw [hI_shf, if_neg (by omega)]; exact (hp t (by omega)).2
      have e2 : hI (shf h p q (q - (t + 1))) 37 (p t) = nI (yr (p t)) := by rw [hI_shf, if_neg (by omega)]; exact (hyr (p t) (hp t (by omega)).1).1
      have f1 := (hp t (by omega)).1
      have f2 := (hyr (p t) f1).2
      have I1 : Ifx (shf h p q (q - (t + 1))) := I
      have b1 : okA (shf h p q (q - (t + 1))) 38 20 (nI t) = true := okA_n (fT38 I1) (fN38 I1) (by omega) (by decide)
      have b2 : okA (shf h p q (q - (t + 1))) 37 20 (nI (p t)) = true := okA_n (fT37 I1) (fN37 I1) (by omega) (by decide)
      have c1 : nI (yr (p t)) ≤ nI y := nI_le (lo t (by omega)) (by omega)
      simp only [if_neg (nI_nle (show 0 < t + 1 by omega) (show t + 1 < 2 ^ 31 by omega)), fT34 I1, if_true, lt_, nn, fR34_2 I1, fR34_3 I1, nI_pred, b1, b2, ix_n (show t < 2147483648 by omega), e1, ix_n (show p t < 2147483648 by omega), e2, if_pos c1]
theorem op_register (hF : 5000 ≤ F) (J : Inv h) : OkI h (c_X9_register F 5 x1 x2 x3 h) (c_X10_register F 46 x1 x2 x3) := by
  obtain ⟨ow, J⟩ := J
  have o := J.1
  have I := J.2.1
  have R : Rreg h := J.2.2.2.2.2.2.2.2.2.2.2.2.2.2.1
  obtain ⟨q, hq, h1, h2, h3, p, h4, h5⟩ := R
  unfold c_X9_register c_X10_register
  by_cases c1 : 0 ≤ x1.toInt ∧ x1.toInt ≤ 9
  · by_cases c2 : 0 ≤ x2.toInt ∧ x2.toInt ≤ 7
    · by_cases c3 : 1500 ≤ x3.toInt ∧ x3.toInt ≤ 1899
      · by_cases c4 : q = 40
        · refine OkI.same (-2) ⟨ow, J⟩ ?_ ?_
          · rw [x_isSong, bI_some, if_pos c1, ite10, x_isPrinter, bI_some, if_pos c2, ite10, x_isToldYear, bI_some, if_pos c3, ite10]
            simp only [fT5 I, fT6 I, fT7 I, fT8 I, fT9 I, fT10 I, fT11 I, fT12 I, fT13 I, fT14 I, fT15 I, fT16 I, fT17 I, fT18 I, fT19 I, fT20 I, fT21 I, fT22 I, fT23 I, fT24 I, fT25 I, fT26 I, fT27 I, fT28 I, fT29 I, fT30 I, fT31 I, fT32 I, fT33 I, fT34 I, fT35 I, fT36 I, fT37 I, fT38 I, fT39 I, fT40 I, fT41 I, fT42 I, fT43 I, fT44 I, fT45 I, fR5_0 I, fR5_1 I, fR5_2 I, fR5_3 I, fR5_5 I, fR5_6 I, fR5_7 I, fR5_8 I, fR5_9 I, fR5_10 I, fR5_11 I, fR5_13 I, fR10_0 I, fR10_1 I, fR10_2 I, fR14_0 I, fR16_0 I, fR16_1 I, fR20_0 I, fR20_1 I, fR20_2 I, fR20_3 I, fR20_4 I, fR20_5 I, fR20_6 I, fR28_0 I, fR28_1 I, fR28_2 I, fR28_3 I, fR28_4 I, fR34_0 I, fR34_1 I, fR34_2 I, fR34_3 I, fR39_0 I, fR39_1 I, fR39_2 I, fR39_3 I, fR39_4 I, if_true, lt_, nn, h1, c4, if_neg (show ¬ nI 40 < 40 by decide)]
          · rw [m_isSong, bI_some, if_pos c1, ite10, m_isPrinter, bI_some, if_pos c2, ite10, m_isYear, bI_some, if_pos c3, ite10, fT46 I, if_pos rfl, h2, c4, if_pos (by rfl)]
        · obtain ⟨y, hy, rfl⟩ := rng (x := x3) (n := 1899) ⟨by omega, by omega⟩
          have c3' := c3
          rw [toI_n (by omega)] at c3'
          have c5 : nI q < 40 := nI_lt (b := 40) (by omega) (by decide)
          have c6 : ¬ nI q = 40 := by rw [show (40 : Int32) = nI 40 from rfl, nI_eq (by omega) (by decide)]; omega
          have ye : ∀ k, ∃ v, k < q → 1500 ≤ v ∧ v ≤ 1899 ∧ hI h 88 k = nI v := fun k => by
            by_cases e : k < q
            · obtain ⟨v, g⟩ := (h3 k e).2.2.2.2.2; exact ⟨v, fun _ => g⟩
            · exact ⟨0, fun e2 => absurd e2 e⟩
          obtain ⟨yr, hyr⟩ : ∃ f : Nat → Nat, ∀ k, k < q → 1500 ≤ f k ∧ f k ≤ 1899 ∧ hI h 88 k = nI (f k) := ⟨fun k => Classical.choose (ye k), fun k => Classical.choose_spec (ye k)⟩
          have srt : ∀ j k, j < k → k < q → yr (p j) < yr (p k) ∨ (yr (p j) = yr (p k) ∧ p j < p k) := by
            intro j k hj hk
            have a1 := hyr (p j) (h4 j (by omega)).1
            have a2 := hyr (p k) (h4 k hk).1
            have := h5 j k hj hk
            rw [a1.2.2, a2.2.2, nI_ltI (by omega) (by omega), nI_eq (by omega) (by omega)] at this
            exact this
          obtain ⟨pl, hpl, lo, hi⟩ : ∃ pl, pl ≤ q ∧ (∀ k, k < pl → yr (p k) ≤ y) ∧ ∀ k, pl ≤ k → k < q → y < yr (p k) := by
            by_cases e : ∃ i, i < q ∧ y < yr (p i)
            · obtain ⟨i, g1, g2, g3⟩ := fb_first e
              refine ⟨i, by omega, fun k hk => by have := g3 k hk; omega, fun k hk1 hk2 => ?_⟩
              by_cases e2 : k = i
              · rw [e2]; exact g2
              · have := srt i k (by omega) hk2; omega
            · exact ⟨q, Nat.le_refl _, fun k hk => Nat.le_of_not_lt (fun g => e ⟨k, hk, g⟩), fun k g1 g2 => by omega⟩
          have b1 : okA h 35 20 (nI q) = true := okA_n (fT35 I) (fN35 I) (by omega) (by decide)
          have b2 : okA (sI h 35 q x1) 36 20 (nI q) = true := okA_n (fT36 I) (fN36 I) (by omega) (by decide)
          have b3 : okA (sI (sI h 35 q x1) 36 q x2) 37 20 (nI q) = true := okA_n (fT37 I) (fN37 I) (by omega) (by decide)
          have ga : ∀ b i, b ≠ 35 → b ≠ 36 → b ≠ 37 → hI (sI (sI (sI h 35 q x1) 36 q x2) 37 q (nI y)) b i = hI h b i := fun b i e1 e2 e3 => by
            rw [hI_sI, if_neg (fun e => e3 e.1), hI_sI, if_neg (fun e => e2 e.1), hI_sI, if_neg (fun e => e1 e.1)]
          have ga37 : ∀ i, i < q → hI (sI (sI (sI h 35 q x1) 36 q x2) 37 q (nI y)) 37 i = hI h 37 i := fun i hi => by
            rw [hI_sI, if_neg (by omega), hI_sI, if_neg (by omega), hI_sI, if_neg (by omega)]
          have sa : St [17] ow h (sI (sI (sI h 35 q x1) 36 q x2) 37 q (nI y)) := (((St.r I).wI o 17 (by decide) rfl (by decide)).wI o 17 (by decide) rfl (by decide)).wI o 17 (by decide) rfl (by decide)
          generalize hgg : sI (sI (sI h 35 q x1) 36 q x2) 37 q (nI y) = ha at ga ga37 sa
          have Ia := I.st o sa (by decide)
          have sb : St [17] ow h (sI (sI (shf ha p q (q - pl)) 38 pl (nI q)) 34 4 (nI (q + 1))) := by
            refine St.wI (St.wI ?_ o 17 (by decide) rfl (by decide)) o 17 (by decide) rfl (by decide)
            refine ⟨sa.1, sa.2.1, fun b i hb hn => ?_, sa.2.2.2⟩
            obtain ⟨k1, k2, k3⟩ := sa.2.2.1 b i hb hn
            refine ⟨?_, k2, k3⟩
            rw [hI_shf, if_neg (fun e => hn (by rw [e.1, o 38 i (by decide)]; exact List.mem_cons_self))]
            exact k1
          have I1 := I.st o sb (by decide)
          have b4 : okA (shf ha p q (q - pl)) 38 20 (nI pl) = true := okA_n (fT38 Ia) (fN38 Ia) (by omega) (by decide)
          have e4 : hI ha 34 4 = nI q := (ga 34 4 (by decide) (by decide) (by decide)).trans h1
          have e5 : hI (shf ha p q (q - pl)) 34 4 = nI q := by rw [hI_shf, if_neg (by omega)]; exact e4
          have loop := x_add_L36 F Ia (q := q) (pl := pl) (y := y) (N := F) (p := p) (by omega) hpl (fun k hk => ⟨(h4 k hk).1, (ga 38 k (by decide) (by decide) (by decide)).trans (h4 k hk).2⟩) yr (fun k hk => ⟨(ga37 k hk).trans ((h3 k hk).2.2.1.trans (hyr k hk).2.2), by have := hyr k hk; omega⟩) (by omega) lo hi (by omega)
          generalize hg1 : sI (sI (shf ha p q (q - pl)) 38 pl (nI q)) 34 4 (nI (q + 1)) = g1 at sb I1
          have h2' : hI g1 46 49 = nI q := (sb.fam I o (c := 67) (by decide) 46 49 (by omega) rfl).1.trans h2
          have d1 : okA g1 86 20 (nI q) = true := okA_n (fT86 I1) (fN86 I1) (by omega) (by decide)
          have d2 : okA (sI g1 86 q x1) 87 20 (nI q) = true := okA_n (fT87 I1) (fN87 I1) (by omega) (by decide)
          have d3 : okA (sI (sI g1 86 q x1) 87 q x2) 88 20 (nI q) = true := okA_n (fT88 I1) (fN88 I1) (by omega) (by decide)
          have s2 : St [17, 67] ow h (sI (sI (sI (sI g1 86 q x1) 87 q x2) 88 q (nI y)) 46 49 (nI (q + 1))) := ((((sb.sub (by decide)).wI o 67 (by decide) rfl (by decide)).wI o 67 (by decide) rfl (by decide)).wI o 67 (by decide) rfl (by decide)).wI o 67 (by decide) rfl (by decide)
          refine ⟨nI (q + 1), g1, sI (sI (sI (sI g1 86 q x1) 87 q x2) 88 q (nI y)) 46 49 (nI (q + 1)), ?_, ?_, ⟨ow, J.fin o s2 (OwX.refl _ _) (by decide) (c17 := fun _ => ?_)⟩, ?_, ?_⟩
          · rw [x_isSong, bI_some, if_pos c1, ite10, x_isPrinter, bI_some, if_pos c2, ite10, x_isToldYear, bI_some, if_pos c3, ite10]
            simp only [fT5 I, fT6 I, fT7 I, fT8 I, fT9 I, fT10 I, fT11 I, fT12 I, fT13 I, fT14 I, fT15 I, fT16 I, fT17 I, fT18 I, fT19 I, fT20 I, fT21 I, fT22 I, fT23 I, fT24 I, fT25 I, fT26 I, fT27 I, fT28 I, fT29 I, fT30 I, fT31 I, fT32 I, fT33 I, fT34 I, fT35 I, fT36 I, fT37 I, fT38 I, fT39 I, fT40 I, fT41 I, fT42 I, fT43 I, fT44 I, fT45 I, fR5_0 I, fR5_1 I, fR5_2 I, fR5_3 I, fR5_5 I, fR5_6 I, fR5_7 I, fR5_8 I, fR5_9 I, fR5_10 I, fR5_11 I, fR5_13 I, fR10_0 I, fR10_1 I, fR10_2 I, fR14_0 I, fR16_0 I, fR16_1 I, fR20_0 I, fR20_1 I, fR20_2 I, fR20_3 I, fR20_4 I, fR20_5 I, fR20_6 I, fR28_0 I, fR28_1 I, fR28_2 I, fR28_3 I, fR28_4 I, fR34_0 I, fR34_1 I, fR34_2 I, fR34_3 I, fR39_0 I, fR39_1 I, fR39_2 I, fR39_3 I, fR39_4 I, if_true, lt_, nn, h1, if_pos c5, c_X2_add, b1, b2, b3, ix_n (show q < 2147483648 by omega), hT_sI, hR_sI, hI_sI _ 35, hI_sI _ 36, Nat.reduceEqDiff, false_and, if_false]
            rw [hgg]
            simp only [fT34 Ia, fT5 Ia, fR5_10 Ia, if_true, e4, loop]
            have T : ∀ a, hT (shf ha p q (q - pl)) a = hT ha a := fun _ => rfl
            have RR : ∀ a i, hR (shf ha p q (q - pl)) a i = hR ha a i := fun _ _ => rfl
            simp only [T, RR, fT34 Ia, fR34_3 Ia, if_true, b4, ix_n (show pl < 2147483648 by omega), hT_sI, hI_sI, Nat.reduceEqDiff, false_and, if_false, e5, nI_1, bV_some, hR_sI, fT5 Ia, fR5_10 Ia, and_self]
            rw [hg1]
          · dsimp only
            rw [m_isSong, bI_some, if_pos c1, ite10, m_isPrinter, bI_some, if_pos c2, ite10, m_isYear, bI_some, if_pos c3, ite10, fT46 I1, if_pos rfl, h2', if_neg c6]
            simp only [fT46 I1, fR46_1 I1, fR46_7 I1, fR46_8 I1, fR46_9 I1, fR46_10 I1, fR46_11 I1, fR46_12 I1, fR46_13 I1, fR46_15 I1, fR46_16 I1, fR46_17 I1, fR46_18 I1, fR46_20 I1, fR46_21 I1, fR46_22 I1, fR46_23 I1, fR46_24 I1, fR46_25 I1, fR46_27 I1, fR46_28 I1, fR46_29 I1, fR46_30 I1, fR46_31 I1, fR46_32 I1, fR46_33 I1, fR46_34 I1, fR46_35 I1, fR46_36 I1, fR46_37 I1, fR46_38 I1, fR46_40 I1, fR46_41 I1, fR46_42 I1, fR46_43 I1, fR46_44 I1, fR46_45 I1, fR46_46 I1, fR46_47 I1, fR46_48 I1, fR46_50 I1, fR46_51 I1, fR46_52 I1, fR46_53 I1, fR46_54 I1, fR46_56 I1, fR46_57 I1, fR46_58 I1, if_true, lt_, nn, h2', d1, d2, d3, ix_n (show q < 2147483648 by omega), hT_sI, hR_sI, hI_sI, Nat.reduceEqDiff, false_and, if_false, nI_1, and_self]
          · have gv : ∀ b i, b ≠ 38 → ¬ (b = 34 ∧ i = 4) → hI g1 b i = hI ha b i := fun b i e1 e2 => by
              rw [← hg1, hI_sI, if_neg e2, hI_sI, if_neg (fun e => e1 e.1), hI_shf, if_neg (fun e => e1 e.1)]
            have w1 : ∀ k, hI g1 35 k = if k = q then x1 else hI h 35 k := fun k => by rw [gv 35 k (by decide) (by omega), ← hgg]; simp [hI_sI]
            have w2 : ∀ k, hI g1 36 k = if k = q then x2 else hI h 36 k := fun k => by rw [gv 36 k (by decide) (by omega), ← hgg]; simp [hI_sI]
            have w3 : ∀ k, hI g1 37 k = if k = q then nI y else hI h 37 k := fun k => by rw [gv 37 k (by decide) (by omega), ← hgg]; simp [hI_sI]
            have w4 : hI g1 34 4 = nI (q + 1) := by rw [← hg1]; simp [hI_sI]
            have w5 : ∀ k, hI g1 86 k = hI h 86 k := fun k => (sb.fam I o (c := 67) (by decide) 86 k (by omega) rfl).1
            have w6 : ∀ k, hI g1 87 k = hI h 87 k := fun k => (sb.fam I o (c := 67) (by decide) 87 k (by omega) rfl).1
            have w7 : ∀ k, hI g1 88 k = hI h 88 k := fun k => (sb.fam I o (c := 67) (by decide) 88 k (by omega) rfl).1
            have w8 : ∀ k, hI g1 38 k = if k = pl then nI q else if pl < k ∧ k ≤ q then nI (p (k - 1)) else hI h 38 k := fun k => by
              rw [← hg1, hI_sI, if_neg (by omega), hI_sI, hI_shf, ga 38 k (by decide) (by decide) (by decide)]
              simp only [true_and, show q - (q - pl) = pl by omega]
            refine ⟨q + 1, by omega, by simp [hI_sI, w4], by simp [hI_sI], fun k hk => ?_, fun k => if k < pl then p k else if k = pl then q else p (k - 1), fun k hk => ?_, fun j k hj hk => ?_⟩
            · simp only [hI_sI, Nat.reduceEqDiff, false_and, if_false, true_and, w1, w2, w3, w5, w6, w7]
              by_cases e : k = q
              · simp only [e, if_true]
                obtain ⟨u1, v1, e1⟩ := rng (x := x1) (n := 9) c1
                obtain ⟨u2, v2, e2⟩ := rng (x := x2) (n := 7) c2
                exact ⟨trivial, trivial, trivial, ⟨u1, by omega, e1⟩, ⟨u2, by omega, e2⟩, ⟨y, by omega, by omega, rfl⟩⟩
              · simp only [e, if_false]
                exact h3 k (by omega)
            · simp only [hI_sI, Nat.reduceEqDiff, false_and, if_false, w8]
              by_cases e1 : k < pl
              · rw [if_pos e1, if_neg (by omega), if_neg (by omega)]
                have := h4 k (by omega)
                exact ⟨by omega, this.2⟩
              · rw [if_neg e1]
                by_cases e2 : k = pl
                · rw [if_pos e2, if_pos e2]; exact ⟨by omega, rfl⟩
                · rw [if_neg e2, if_neg e2, if_pos (by omega)]
                  have := h4 (k - 1) (by omega)
                  exact ⟨by omega, rfl⟩
            · have yv : ∀ z, z < q → hI (sI (sI (sI (sI g1 86 q x1) 87 q x2) 88 q (nI y)) 46 49 (nI (q + 1))) 88 z = nI (yr z) := fun z hz => by
                rw [hI_sI, if_neg (by omega), hI_sI, if_neg (by omega), hI_sI, if_neg (by omega), hI_sI, if_neg (by omega), w7, (hyr z hz).2.2]
              have yq : hI (sI (sI (sI (sI g1 86 q x1) 87 q x2) 88 q (nI y)) 46 49 (nI (q + 1))) 88 q = nI y := by
                rw [hI_sI, if_neg (by omega), hI_sI, if_pos ⟨rfl, rfl⟩]
              have P := fun k hk => (h4 k hk).1
              dsimp only
              by_cases e1 : j < pl
              · rw [if_pos e1]
                have pj := P j (by omega)
                have yj := hyr (p j) pj
                rw [yv _ pj]
                by_cases e2 : k < pl
                · rw [if_pos e2]
                  have pk := P k (by omega)
                  have yk := hyr (p k) pk
                  rw [yv _ pk, nI_ltI (by omega) (by omega), nI_eq (by omega) (by omega)]
                  exact srt j k hj (by omega)
                · rw [if_neg e2]
                  by_cases e3 : k = pl
                  · rw [if_pos e3, yq, nI_ltI (by omega) (by omega), nI_eq (by omega) (by omega)]
                    have := lo j e1; omega
                  · rw [if_neg e3]
                    have pk := P (k - 1) (by omega)
                    have yk := hyr (p (k - 1)) pk
                    rw [yv _ pk, nI_ltI (by omega) (by omega), nI_eq (by omega) (by omega)]
                    exact srt j (k - 1) (by omega) (by omega)
              · rw [if_neg e1, if_neg (show ¬ k < pl by omega), if_neg (show ¬ k = pl by omega)]
                have pk := P (k - 1) (by omega)
                have yk := hyr (p (k - 1)) pk
                rw [yv _ pk]
                by_cases e2 : j = pl
                · rw [if_pos e2, yq, nI_ltI (by omega) (by omega), nI_eq (by omega) (by omega)]
                  have := hi (k - 1) (by omega) (by omega); omega
                · rw [if_neg e2]
                  have pj := P (j - 1) (by omega)
                  have yj := hyr (p (j - 1)) pj
                  rw [yv _ pj, nI_ltI (by omega) (by omega), nI_eq (by omega) (by omega)]
                  exact srt (j - 1) (k - 1) (by omega) (by omega)
          · show hZ g1 ≤ _; rw [← hg1]; show hZ ha ≤ _; rw [← hgg]; show hZ h ≤ _; omega
          · show hS g1 ≤ _; rw [← hg1]; show hS ha ≤ _; rw [← hgg]; show hS h ≤ _; omega
      · exact OkI.same (-1) ⟨ow, J⟩ (by rw [x_isSong, bI_some, if_pos c1, ite10, x_isPrinter, bI_some, if_pos c2, ite10, x_isToldYear, bI_some, if_neg c3, ite00]) (by rw [m_isSong, bI_some, if_pos c1, ite10, m_isPrinter, bI_some, if_pos c2, ite10, m_isYear, bI_some, if_neg c3, ite00])
    · exact OkI.same (-1) ⟨ow, J⟩ (by rw [x_isSong, bI_some, if_pos c1, ite10, x_isPrinter, bI_some, if_neg c2, ite00]) (by rw [m_isSong, bI_some, if_pos c1, ite10, m_isPrinter, bI_some, if_neg c2, ite00])
  · exact OkI.same (-1) ⟨ow, J⟩ (by rw [x_isSong, bI_some, if_neg c1, ite00]) (by rw [m_isSong, bI_some, if_neg c1, ite00])
end OpsA
