section Ops1
variable {h : z_Hp} (F : Nat) (x1 x2 x3 x4 x5 : Int32)
theorem op_later (J : Inv h) : OkI h (c_X9_later F 5 x1 h) (c_X10_later F 46 x1) := by
  obtain ⟨ow, J⟩ := J
  have o := J.1
  have I := J.2.1
  obtain ⟨t, ht, e1, e2⟩ := J.2.2.1
  unfold c_X9_later c_X10_later
  by_cases c1 : x1 < 0
  · exact OkI.same (-1) ⟨ow, J⟩ (by rw [if_pos c1]) (by simp only [if_pos c1])
  · have e9 : (999 : Int32) - nI t = nI (999 - t) := nI_sub (a := 999) ht
    by_cases c2 : x1 ≤ 999 - nI t
    · obtain ⟨n, hn, rfl⟩ : ∃ n : Nat, n ≤ 999 - t ∧ x1 = nI n := by
        rw [e9] at c2
        exact nI_of2 (toI_n (by omega)) c1 c2
      refine ⟨nI (t + n), sI h 5 4 (nI (t + n)), sI (sI h 5 4 (nI (t + n))) 46 6 (nI (t + n)), ?_, ?_, ⟨ow, ?_⟩, ?_, ?_⟩
      · simp only [if_neg c1, fT5 I, if_true, e1, if_pos c2, lt_, hT_sI, hI_sI, nI_add, and_self]
      · simp only [if_neg c1, hT_sI, fT46 I, if_true, hI_sI, show ¬ (46 = 5 ∧ 6 = 4) by decide, if_false, e2, if_pos c2, lt_, nI_add, and_self]
      · have s : St [1, 51] ow h (sI (sI h 5 4 (nI (t + n))) 46 6 (nI (t + n))) := ((St.r I).wI o 1 (by decide) rfl (by decide)).wI o 51 (by decide) rfl (by decide)
        exact J.fin o s (OwX.refl _ _) (by decide) (c1 := fun _ => ⟨t + n, by omega, by simp [hI_sI], by simp [hI_sI]⟩)
      · show hZ h ≤ _; omega
      · show hS h ≤ _; omega
    · exact OkI.same (-1) ⟨ow, J⟩ (by simp only [if_neg c1, fT5 I, if_true, e1, if_neg c2]) (by simp only [if_neg c1, fT46 I, if_true, e2, if_neg c2])
theorem op_many (J : Inv h) : OkL h (c_X9_many F 5 h) (c_X10_many F 46) := by
  obtain ⟨ow, J⟩ := J
  exact OkL.same (hJ h 5 14) ⟨ow, J⟩ (by simp only [c_X9_many, fT5 J.2.1, if_true]) (by simp only [c_X10_many, fT46 J.2.1, if_true]; rw [J.2.2.2.2.2.1])
theorem op_asked (J : Inv h) : OkI h (c_X9_asked F 5 h) (c_X10_asked F 46) := by
  obtain ⟨ow, J⟩ := J
  exact OkI.same (hI h 5 15) ⟨ow, J⟩ (by simp only [c_X9_asked, fT5 J.2.1, if_true]) (by simp only [c_X10_asked, fT46 J.2.1, if_true]; rw [J.2.2.2.2.1])
theorem op_upper (J : Inv h) : OkL h (c_X9_upper F 5 h) (c_X10_upper F 46) := by
  obtain ⟨ow, J⟩ := J
  exact OkL.same (hJ h 5 16) ⟨ow, J⟩ (by simp only [c_X9_upper, fT5 J.2.1, if_true]) (by simp only [c_X10_upper, fT46 J.2.1, if_true]; rw [J.2.2.2.2.2.2.1.1])
theorem op_lower (J : Inv h) : OkL h (c_X9_lower F 5 h) (c_X10_lower F 46) := by
  obtain ⟨ow, J⟩ := J
  exact OkL.same (hJ h 5 17) ⟨ow, J⟩ (by simp only [c_X9_lower, fT5 J.2.1, if_true]) (by simp only [c_X10_lower, fT46 J.2.1, if_true]; rw [J.2.2.2.2.2.2.1.2])
theorem op_finding (J : Inv h) : OkI h (c_X9_finding F 5 h) (c_X10_finding F 46) := by
  obtain ⟨ow, J⟩ := J
  exact OkI.same (hI h 5 12) ⟨ow, J⟩ (by simp only [c_X9_finding, fT5 J.2.1, if_true]) (by simp only [c_X10_finding, fT46 J.2.1, if_true]; rw [J.2.2.2.1.1])
theorem op_findings (J : Inv h) : OkI h (c_X9_findings F 5 x1 h) (c_X10_findings F 46 x1) := by
  obtain ⟨ow, J⟩ := J
  have I := J.2.1
  unfold c_X9_findings c_X10_findings
  by_cases c : 1 ≤ x1.toInt ∧ x1.toInt ≤ 5
  · obtain ⟨k, hk, rfl⟩ := rng (x := x1) (n := 5) ⟨by omega, by omega⟩
    rw [toI_n (by omega)] at c
    refine OkI.same (hI h 45 k) ⟨ow, J⟩ ?_ ?_
    · simp only [fa_lt, fa_le, ti_1, ti_5, toI_n (show k < 2147483648 by omega)]
      rw [if_neg (by omega), if_pos (by omega)]
      simp only [fT5 I, if_true, lt_, fR5_13 I, nn, okA_n (fT45 I) (fN45 I) (show k < 6 by omega) (by decide), ix_n (show k < 2147483648 by omega)]
    · simp only [m_in, bI_some, ti_1, ti_5, toI_n (show k < 2147483648 by omega), if_pos c, ite10]
      simp only [fT46 I, if_true, lt_, fR46_1 I, nn, okA_n (fT47 I) (fN47 I) (show k < 6 by omega) (by decide), ix_n (show k < 2147483648 by omega)]
      rw [J.2.2.2.1.2 k (by omega)]
  · refine OkI.same (-1) ⟨ow, J⟩ ?_ ?_
    · simp only [fa_lt, fa_le, ti_1, ti_5]
      split
      · rfl
      · rw [if_neg (by omega)]
    · simp only [m_in, bI_some, ti_1, ti_5, if_neg c, ite00, if_true]
theorem op_printer (J : Inv h) : OkI h (c_X9_printer F 5 x1 x2 x3 h) (c_X10_printer F 46 x1 x2 x3) := by
  obtain ⟨ow, J⟩ := J
  have o := J.1
  have I := J.2.1
  unfold c_X9_printer c_X10_printer
  by_cases c1 : 0 ≤ x1.toInt ∧ x1.toInt ≤ 7
  · obtain ⟨p, hp, rfl⟩ := rng (x := x1) (n := 7) c1
    by_cases c2 : 1500 ≤ x2.toInt ∧ x2.toInt ≤ x3.toInt ∧ x3.toInt ≤ 1899
    · have c3 : 1500 ≤ x2.toInt ∧ x2.toInt ≤ 1899 := by omega
      have c4 : x2.toInt ≤ x3.toInt ∧ x3.toInt ≤ 1899 := by omega
      refine ⟨1, sI (sI h 21 p x2) 22 p x3, sI (sI (sI (sI h 21 p x2) 22 p x3) 63 p x2) 64 p x3, ?_, ?_, ⟨ow, ?_⟩, ?_, ?_⟩
      · have a1 : okA h 21 20 (nI p) = true := okA_n (fT21 I) (fN21 I) (by omega) (by decide)
        have a2 : okA (sI h 21 p x2) 22 20 (nI p) = true := okA_n (fT22 I) (fN22 I) (by omega) (by decide)
        simp only [x_isPrinter, if_pos c1, bI_some, ite10, x_isSpan, if_pos c2, fT5 I, if_true, lt_, fR5_8 I, nn, fT20 I, c_X8_setPrinter, fR20_0 I, a1, ix_n (show p < 2147483648 by omega), hT_sI, hR_sI, fR20_1 I, a2, bV_some]
      · have a1 : okA (sI (sI h 21 p x2) 22 p x3) 63 20 (nI p) = true := okA_n (fT63 I) (fN63 I) (by omega) (by decide)
        have a2 : okA (sI (sI (sI h 21 p x2) 22 p x3) 63 p x2) 64 20 (nI p) = true := okA_n (fT64 I) (fN64 I) (by omega) (by decide)
        simp only [m_isPrinter, if_pos c1, bI_some, ite10, m_isYear, if_pos c3, m_in, ti_1899, if_pos c4, hT_sI, fT46 I, if_true, lt_, hR_sI, fR46_24 I, nn, fR46_25 I, a1, ix_n (show p < 2147483648 by omega), a2]
      · have s : St [15, 65] ow h (sI (sI (sI (sI h 21 p x2) 22 p x3) 63 p x2) 64 p x3) := ((((St.r I).wI o 15 (by decide) rfl (by decide)).wI o 15 (by decide) rfl (by decide)).wI o 65 (by decide) rfl (by decide)).wI o 65 (by decide) rfl (by decide)
        refine J.fin o s (OwX.refl _ _) (by decide) (c15 := fun _ q hq => ?_)
        have r := J.2.2.2.2.2.2.2.2.2.2.2.2.1 q hq
        by_cases e : q = p
        · subst e
          obtain ⟨a, ha, rfl⟩ := rng (x := x2) (n := 1899) ⟨by omega, by omega⟩
          obtain ⟨b, hb, rfl⟩ := rng (x := x3) (n := 1899) ⟨by omega, by omega⟩
          rw [toI_n (by omega), toI_n (by omega)] at c2
          simp [hI_sI]
          exact Or.inr ⟨a, b, by omega, by omega, by omega, rfl, rfl⟩
        · simp only [hI_sI, e, and_false, if_false]
          exact r
      · show hZ h ≤ _; omega
      · show hS h ≤ _; omega
    · refine OkI.same (-1) ⟨ow, J⟩ (by simp only [x_isPrinter, if_pos c1, bI_some, ite10, x_isSpan, if_neg c2, ite00, if_true]) ?_
      simp only [m_isPrinter, if_pos c1, bI_some, ite10, m_isYear]
      by_cases c3 : 1500 ≤ x2.toInt ∧ x2.toInt ≤ 1899
      · have c4 : ¬ (x2.toInt ≤ x3.toInt ∧ x3.toInt ≤ 1899) := by omega
        simp only [if_pos c3, ite10, m_in, bI_some, ti_1899, if_neg c4, ite00, if_true]
      · simp only [if_neg c3, ite00, if_true]
  · exact OkI.same (-1) ⟨ow, J⟩ (by simp only [x_isPrinter, if_neg c1, bI_some, ite00, if_true]) (by simp only [m_isPrinter, if_neg c1, bI_some, ite00, if_true])
end Ops1
