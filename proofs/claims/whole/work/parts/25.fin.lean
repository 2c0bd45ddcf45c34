/-! ===== literals ===== -/
theorem ti_0 : (0 : Int32).toInt = 0 := rfl
theorem ti_1 : (1 : Int32).toInt = 1 := rfl
theorem ti_2 : (2 : Int32).toInt = 2 := rfl
theorem ti_3 : (3 : Int32).toInt = 3 := rfl
theorem ti_4 : (4 : Int32).toInt = 4 := rfl
theorem ti_5 : (5 : Int32).toInt = 5 := rfl
theorem ti_6 : (6 : Int32).toInt = 6 := rfl
theorem ti_7 : (7 : Int32).toInt = 7 := rfl
theorem ti_8 : (8 : Int32).toInt = 8 := rfl
theorem ti_9 : (9 : Int32).toInt = 9 := rfl
theorem ti_10 : (10 : Int32).toInt = 10 := rfl
theorem ti_11 : (11 : Int32).toInt = 11 := rfl
theorem ti_12 : (12 : Int32).toInt = 12 := rfl
theorem ti_15 : (15 : Int32).toInt = 15 := rfl
theorem ti_16 : (16 : Int32).toInt = 16 := rfl
theorem ti_17 : (17 : Int32).toInt = 17 := rfl
theorem ti_19 : (19 : Int32).toInt = 19 := rfl
theorem ti_20 : (20 : Int32).toInt = 20 := rfl
theorem ti_21 : (21 : Int32).toInt = 21 := rfl
theorem ti_31 : (31 : Int32).toInt = 31 := rfl
theorem ti_32 : (32 : Int32).toInt = 32 := rfl
theorem ti_39 : (39 : Int32).toInt = 39 := rfl
theorem ti_40 : (40 : Int32).toInt = 40 := rfl
theorem ti_47 : (47 : Int32).toInt = 47 := rfl
theorem ti_48 : (48 : Int32).toInt = 48 := rfl
theorem ti_57 : (57 : Int32).toInt = 57 := rfl
theorem ti_60 : (60 : Int32).toInt = 60 := rfl
theorem ti_67 : (67 : Int32).toInt = 67 := rfl
theorem ti_68 : (68 : Int32).toInt = 68 := rfl
theorem ti_76 : (76 : Int32).toInt = 76 := rfl
theorem ti_82 : (82 : Int32).toInt = 82 := rfl
theorem ti_83 : (83 : Int32).toInt = 83 := rfl
theorem ti_97 : (97 : Int32).toInt = 97 := rfl
theorem ti_99 : (99 : Int32).toInt = 99 := rfl
theorem ti_100 : (100 : Int32).toInt = 100 := rfl
theorem ti_101 : (101 : Int32).toInt = 101 := rfl
theorem ti_105 : (105 : Int32).toInt = 105 := rfl
theorem ti_111 : (111 : Int32).toInt = 111 := rfl
theorem ti_117 : (117 : Int32).toInt = 117 := rfl
theorem ti_121 : (121 : Int32).toInt = 121 := rfl
theorem ti_122 : (122 : Int32).toInt = 122 := rfl
theorem ti_999 : (999 : Int32).toInt = 999 := rfl
theorem ti_1500 : (1500 : Int32).toInt = 1500 := rfl
theorem ti_1899 : (1899 : Int32).toInt = 1899 := rfl
theorem ti_1999 : (1999 : Int32).toInt = 1999 := rfl
theorem ti_4095 : (4095 : Int32).toInt = 4095 := rfl
theorem ti_65535 : (65535 : Int32).toInt = 65535 := rfl
theorem tm_1 : (-1 : Int32).toInt = -1 := rfl
theorem tm_2 : (-2 : Int32).toInt = -2 := rfl
theorem tm_3 : (-3 : Int32).toInt = -3 := rfl
theorem tm_4 : (-4 : Int32).toInt = -4 := rfl
theorem tm_6 : (-6 : Int32).toInt = -6 := rfl
theorem tm_9 : (-9 : Int32).toInt = -9 := rfl
theorem tm_10 : (-10 : Int32).toInt = -10 := rfl
theorem tm_20 : (-20 : Int32).toInt = -20 := rfl
theorem tm_30 : (-30 : Int32).toInt = -30 := rfl
theorem tm_40 : (-40 : Int32).toInt = -40 := rfl
theorem tm_100 : (-100 : Int32).toInt = -100 := rfl
theorem ite10 {α : Type} (a b : α) : (if (1 : Int32) = 0 then a else b) = b := rfl
theorem ite00 {α : Type} (a b : α) : (if (0 : Int32) = 0 then a else b) = a := rfl
theorem iteO1 {α : Type} (a b : α) : (if (1 : Int32) = 0 ∨ (1 : Int32) = 1 then a else b) = a := rfl
theorem iteO0 {α : Type} (a b : α) : (if (0 : Int32) = 0 ∨ (0 : Int32) = 1 then a else b) = a := rfl
theorem iteZ {α : Type} {c : Prop} [Decidable c] (a b : α) : (if (if c then (1 : Int32) else 0) = 0 then a else b) = if c then b else a := by
  by_cases h : c
  · rw [if_pos h, if_pos h]; rfl
  · rw [if_neg h, if_neg h]; rfl
theorem iteOZ {α : Type} {c : Prop} [Decidable c] (f : Int32 → α) (b : α) : (if (if c then (1 : Int32) else 0) = 0 ∨ (if c then (1 : Int32) else 0) = 1 then f (if c then (1 : Int32) else 0) else b) = f (if c then 1 else 0) := by
  by_cases h : c
  · rw [if_pos h]; rfl
  · rw [if_neg h]; rfl
/-! ===== what numbers are ones ===== -/
theorem m_in (F : Nat) (x a b : Int32) (h : z_Hp) : c_X10_in F x a b h = some (if a.toInt ≤ x.toInt ∧ x.toInt ≤ b.toInt then 1 else 0, h) := by
  unfold c_X10_in
  simp only [fa_lt]
  split
  · rw [if_neg (by omega)]
  · split
    · rw [if_neg (by omega)]
    · rw [if_pos (by omega)]
theorem x_isRow (F : Nat) (x : Int32) (h : z_Hp) : c_X9_isRow F x h = some (if 0 ≤ x.toInt ∧ x.toInt ≤ 5 then 1 else 0, h) := by
  unfold c_X9_isRow
  simp only [fa_lt, fa_le, ti_0, ti_6]
  split
  · rw [if_neg (by omega)]
  · split
    · rw [if_neg (by omega)]
    · rw [if_pos (by omega)]
theorem x_isText (F : Nat) (x : Int32) (h : z_Hp) : c_X9_isText F x h = some (if 0 ≤ x.toInt ∧ x.toInt ≤ 3 then 1 else 0, h) := by
  unfold c_X9_isText
  simp only [fa_lt, fa_le, ti_0, ti_4]
  split
  · rw [if_neg (by omega)]
  · split
    · rw [if_neg (by omega)]
    · rw [if_pos (by omega)]
theorem x_isSong (F : Nat) (x : Int32) (h : z_Hp) : c_X9_isSong F x h = some (if 0 ≤ x.toInt ∧ x.toInt ≤ 9 then 1 else 0, h) := by
  unfold c_X9_isSong
  simp only [fa_lt, fa_le, ti_0, ti_10]
  split
  · rw [if_neg (by omega)]
  · split
    · rw [if_neg (by omega)]
    · rw [if_pos (by omega)]
theorem x_isTune (F : Nat) (x : Int32) (h : z_Hp) : c_X9_isTune F x h = some (if 0 ≤ x.toInt ∧ x.toInt ≤ 5 then 1 else 0, h) := by
  unfold c_X9_isTune
  simp only [fa_lt, fa_le, ti_0, ti_6]
  split
  · rw [if_neg (by omega)]
  · split
    · rw [if_neg (by omega)]
    · rw [if_pos (by omega)]
theorem x_isDay (F : Nat) (x : Int32) (h : z_Hp) : c_X9_isDay F x h = some (if 0 ≤ x.toInt ∧ x.toInt ≤ 999 then 1 else 0, h) := by
  unfold c_X9_isDay
  simp only [fa_lt, fa_le, ti_0, ti_999]
  split
  · rw [if_neg (by omega)]
  · split
    · rw [if_neg (by omega)]
    · rw [if_pos (by omega)]
theorem x_isWalkedDay (F : Nat) (x : Int32) (h : z_Hp) : c_X9_isWalkedDay F x h = some (if 0 ≤ x.toInt ∧ x.toInt ≤ 99 then 1 else 0, h) := by
  unfold c_X9_isWalkedDay
  simp only [fa_lt, fa_le, ti_0, ti_99]
  split
  · rw [if_neg (by omega)]
  · split
    · rw [if_neg (by omega)]
    · rw [if_pos (by omega)]
theorem x_isToldYear (F : Nat) (x : Int32) (h : z_Hp) : c_X9_isToldYear F x h = some (if 1500 ≤ x.toInt ∧ x.toInt ≤ 1899 then 1 else 0, h) := by
  unfold c_X9_isToldYear
  simp only [fa_lt, fa_le, ti_1500, ti_1899]
  split
  · rw [if_neg (by omega)]
  · split
    · rw [if_neg (by omega)]
    · rw [if_pos (by omega)]
theorem x_isPrinter (F : Nat) (x : Int32) (h : z_Hp) : c_X9_isPrinter F x h = some (if 0 ≤ x.toInt ∧ x.toInt ≤ 7 then 1 else 0, h) := by
  unfold c_X9_isPrinter
  simp only [fa_lt, fa_le, ti_0, ti_8]
  split
  · rw [if_neg (by omega)]
  · split
    · rw [if_neg (by omega)]
    · rw [if_pos (by omega)]
theorem x_isBlock (F : Nat) (x : Int32) (h : z_Hp) : c_X9_isBlock F x h = some (if 0 ≤ x.toInt ∧ x.toInt ≤ 5 then 1 else 0, h) := by
  unfold c_X9_isBlock
  simp only [fa_lt, fa_le, ti_0, ti_6]
  split
  · rw [if_neg (by omega)]
  · split
    · rw [if_neg (by omega)]
    · rw [if_pos (by omega)]
theorem x_isSeller (F : Nat) (x : Int32) (h : z_Hp) : c_X9_isSeller F x h = some (if 0 ≤ x.toInt ∧ x.toInt ≤ 3 then 1 else 0, h) := by
  unfold c_X9_isSeller
  simp only [fa_lt, fa_le, ti_0, ti_4]
  split
  · rw [if_neg (by omega)]
  · split
    · rw [if_neg (by omega)]
    · rw [if_pos (by omega)]
theorem x_isPlace (F : Nat) (x : Int32) (h : z_Hp) : c_X9_isPlace F x h = some (if 0 ≤ x.toInt ∧ x.toInt ≤ 9 then 1 else 0, h) := by
  unfold c_X9_isPlace
  simp only [fa_lt, fa_le, ti_0, ti_10]
  split
  · rw [if_neg (by omega)]
  · split
    · rw [if_neg (by omega)]
    · rw [if_pos (by omega)]
theorem m_isRow (F : Nat) (x : Int32) (h : z_Hp) : c_X10_isRow F x h = some (if 0 ≤ x.toInt ∧ x.toInt ≤ 5 then 1 else 0, h) := by
  unfold c_X10_isRow
  rw [m_in, bI_some]
  simp only [ti_0, ti_5]
  split <;> rfl
theorem m_isText (F : Nat) (x : Int32) (h : z_Hp) : c_X10_isText F x h = some (if 0 ≤ x.toInt ∧ x.toInt ≤ 3 then 1 else 0, h) := by
  unfold c_X10_isText
  rw [m_in, bI_some]
  simp only [ti_0, ti_3]
  split <;> rfl
theorem m_isSong (F : Nat) (x : Int32) (h : z_Hp) : c_X10_isSong F x h = some (if 0 ≤ x.toInt ∧ x.toInt ≤ 9 then 1 else 0, h) := by
  unfold c_X10_isSong
  rw [m_in, bI_some]
  simp only [ti_0, ti_9]
  split <;> rfl
theorem m_isTune (F : Nat) (x : Int32) (h : z_Hp) : c_X10_isTune F x h = some (if 0 ≤ x.toInt ∧ x.toInt ≤ 5 then 1 else 0, h) := by
  unfold c_X10_isTune
  rw [m_in, bI_some]
  simp only [ti_0, ti_5]
  split <;> rfl
theorem m_isDay (F : Nat) (x : Int32) (h : z_Hp) : c_X10_isDay F x h = some (if 0 ≤ x.toInt ∧ x.toInt ≤ 999 then 1 else 0, h) := by
  unfold c_X10_isDay
  rw [m_in, bI_some]
  simp only [ti_0, ti_999]
  split <;> rfl
theorem m_isPrinter (F : Nat) (x : Int32) (h : z_Hp) : c_X10_isPrinter F x h = some (if 0 ≤ x.toInt ∧ x.toInt ≤ 7 then 1 else 0, h) := by
  unfold c_X10_isPrinter
  rw [m_in, bI_some]
  simp only [ti_0, ti_7]
  split <;> rfl
theorem m_isYear (F : Nat) (x : Int32) (h : z_Hp) : c_X10_isYear F x h = some (if 1500 ≤ x.toInt ∧ x.toInt ≤ 1899 then 1 else 0, h) := by
  unfold c_X10_isYear
  rw [m_in, bI_some]
  simp only [ti_1500, ti_1899]
  split <;> rfl
theorem m_isSeller (F : Nat) (x : Int32) (h : z_Hp) : c_X10_isSeller F x h = some (if 0 ≤ x.toInt ∧ x.toInt ≤ 3 then 1 else 0, h) := by
  unfold c_X10_isSeller
  rw [m_in, bI_some]
  simp only [ti_0, ti_3]
  split <;> rfl
theorem m_isPlace (F : Nat) (x : Int32) (h : z_Hp) : c_X10_isPlace F x h = some (if 0 ≤ x.toInt ∧ x.toInt ≤ 9 then 1 else 0, h) := by
  unfold c_X10_isPlace
  rw [m_in, bI_some]
  simp only [ti_0, ti_9]
  split <;> rfl
theorem m_isEarly (F : Nat) (x : Int32) (h : z_Hp) : c_X10_isEarly F x h = some (if 0 ≤ x.toInt ∧ x.toInt ≤ 99 then 1 else 0, h) := by
  unfold c_X10_isEarly
  rw [m_in, bI_some]
  simp only [ti_0, ti_99]
  split <;> rfl
theorem m_isLetter (F : Nat) (x : Int32) (h : z_Hp) : c_X10_isLetter F x h = some (if 97 ≤ x.toInt ∧ x.toInt ≤ 122 then 1 else 0, h) := by
  unfold c_X10_isLetter
  rw [m_in, bI_some]
  simp only [ti_97, ti_122]
  split <;> rfl
theorem x_isSpan (F : Nat) (x y : Int32) (h : z_Hp) : c_X9_isSpan F x y h = some (if 1500 ≤ x.toInt ∧ x.toInt ≤ y.toInt ∧ y.toInt ≤ 1899 then 1 else 0, h) := by
  unfold c_X9_isSpan
  rw [x_isToldYear, bI_some]
  by_cases c1 : 1500 ≤ x.toInt ∧ x.toInt ≤ 1899
  · rw [if_pos c1, ite10, x_isToldYear, bI_some]
    by_cases c2 : 1500 ≤ y.toInt ∧ y.toInt ≤ 1899
    · rw [if_pos c2, ite10]
      simp only [fa_lt]
      split
      · rw [if_neg (by omega)]
      · rw [if_pos (by omega)]
    · rw [if_neg c2, ite00, if_neg (by omega)]
  · rw [if_neg c1, ite00, if_neg (by omega)]
theorem predI {q : Nat} (h : q < 2147483648) : (nI q - 1).toInt = (q : Int) - 1 := by
  rw [fb_subI (by rw [toI_n h, ti_1]; omega) (by rw [toI_n h, ti_1]; omega), toI_n h, ti_1]
theorem x_isSheet {h : z_Hp} (I : Ifx h) {q : Nat} (hq : q ≤ 20) (e : hI h 14 1 = nI q) (F : Nat) (x : Int32) : c_X9_isSheet F 5 x h = some (if 0 ≤ x.toInt ∧ x.toInt ≤ (q : Int) - 1 then 1 else 0, h) := by
  unfold c_X9_isSheet
  simp only [fT5 I, if_true, lt_, fR5_6 I, nn, fT14 I, e, fa_lt, fa_le, ti_0, toI_n (show q < 2147483648 by omega)]
  split
  · rw [if_neg (by omega)]
  · split
    · rw [if_neg (by omega)]
    · rw [if_pos (by omega)]
theorem m_isSheet {h : z_Hp} (I : Ifx h) {q : Nat} (hq : q ≤ 20) (e : hI h 46 26 = nI q) (F : Nat) (x : Int32) : c_X10_isSheet F 46 x h = some (if 0 ≤ x.toInt ∧ x.toInt ≤ (q : Int) - 1 then 1 else 0, h) := by
  unfold c_X10_isSheet
  simp only [fT46 I, if_true, e, m_in, bI_some, ti_0, predI (show q < 2147483648 by omega)]
  split <;> rfl
/-! ===== findings ===== -/
theorem x_found {h : z_Hp} (I : Ifx h) (F : Nat) (x : Int32) (k : Nat) (e : x = nI k) (hk : k < 6) : c_X9_found F 5 x h = some (-3, sI (sI h 5 12 x) 45 k (hI h 45 k + 1)) := by
  subst e
  unfold c_X9_found
  have e1 : okA (sI h 5 12 (nI k)) 45 20 (nI k) = true := okA_n (fT45 I) (fN45 I) hk (by decide)
  simp only [fT5 I, hT_sI, hR_sI, lt_, fR5_13 I, nn, e1, if_true, ix_n (show k < 2147483648 by omega), hI_sI]
  rw [if_neg (by omega)]
theorem m_meets {h : z_Hp} (I : Ifx h) (F : Nat) (x : Int32) (k : Nat) (e : x = nI k) (hk : k < 6) : c_X10_meets F 46 x h = some (-3, sI (sI h 46 0 x) 47 k (hI h 47 k + 1)) := by
  subst e
  unfold c_X10_meets
  have e1 : okA (sI h 46 0 (nI k)) 47 20 (nI k) = true := okA_n (fT47 I) (fN47 I) hk (by decide)
  simp only [fT46 I, hT_sI, hR_sI, lt_, fR46_1 I, nn, e1, if_true, ix_n (show k < 2147483648 by omega), hI_sI]
  rw [if_neg (by omega)]
/-! ===== the finish of a call ===== -/
theorem St.r {fs : List Nat} {ow : Ow} {h : z_Hp} (I : Ifx h) : St fs ow h h := (St.refl I).sub (fun x hx => by cases hx)
theorem St.wI {fs : List Nat} {ow : Ow} {h h1 : z_Hp} (s : St fs ow h h1) (o : OwOK ow) {a i : Nat} {x : Int32} (c : Nat) (ha : a < 94) (hc : ow0 a i = c) (hm : c ∈ fs) : St fs ow h (sI h1 a i x) := s.gI (by rw [o a i ha, hc]; exact hm)
theorem St.wJ {fs : List Nat} {ow : Ow} {h h1 : z_Hp} (s : St fs ow h h1) (o : OwOK ow) {a i : Nat} {x : Int64} (c : Nat) (ha : a < 94) (hc : ow0 a i = c) (hm : c ∈ fs) : St fs ow h (sJ h1 a i x) := s.gJ (by rw [o a i ha, hc]; exact hm)
theorem St.wR {fs : List Nat} {ow : Ow} {h h1 : z_Hp} (s : St fs ow h h1) (o : OwOK ow) {a i : Nat} {x : Option Nat} (c : Nat) (ha : a < 94) (hc : ow0 a i = c) (hm : c ∈ fs) : St fs ow h (sR h1 a i x) := s.gR (by rw [o a i ha, hc]; exact hm)
theorem InvO.fin {fs : List Nat} {ow ow' : Ow} {h h' : z_Hp} (J : InvO ow h) (o' : OwOK ow') (s : St fs ow h h') (x : OwX h ow ow') (n20 : 20 ∉ fs)
    (c1 : 1 ∈ fs ∨ 51 ∈ fs → Rtod h' := by (intro hh; exact absurd hh (by decide))) (c2 : 2 ∈ fs ∨ 52 ∈ fs → Rfin h' := by (intro hh; exact absurd hh (by decide))) (c3 : 3 ∈ fs ∨ 53 ∈ fs → Rask h' := by (intro hh; exact absurd hh (by decide)))
    (c4 : 4 ∈ fs ∨ 54 ∈ fs → Rman h' := by (intro hh; exact absurd hh (by decide))) (c5 : 5 ∈ fs ∨ 55 ∈ fs → Rfra h' := by (intro hh; exact absurd hh (by decide))) (c10 : 10 ∈ fs ∨ 60 ∈ fs → Rrow ow' h' := by (intro hh; exact absurd hh (by decide)))
    (c11 : 11 ∈ fs ∨ 61 ∈ fs → Rtxt ow' h' := by (intro hh; exact absurd hh (by decide))) (c12 : 12 ∈ fs ∨ 62 ∈ fs → Rsng ow' h' := by (intro hh; exact absurd hh (by decide))) (c13 : 13 ∈ fs ∨ 63 ∈ fs → Rtun ow' h' := by (intro hh; exact absurd hh (by decide)))
    (c14 : 14 ∈ fs ∨ 64 ∈ fs → Rrul h' := by (intro hh; exact absurd hh (by decide))) (c15 : 15 ∈ fs ∨ 65 ∈ fs → Rprn h' := by (intro hh; exact absurd hh (by decide))) (c16 : 16 ∈ fs ∨ 66 ∈ fs → Rshe ow' h' := by (intro hh; exact absurd hh (by decide)))
    (c17 : 17 ∈ fs ∨ 67 ∈ fs → Rreg h' := by (intro hh; exact absurd hh (by decide))) (c18 : 18 ∈ fs ∨ 68 ∈ fs → Rwlk ow' h' := by (intro hh; exact absurd hh (by decide))) (c19 : 19 ∈ fs ∨ 69 ∈ fs → Rsun h' := by (intro hh; exact absurd hh (by decide)))
    (c120 : 120 ∈ fs → Rway ow' h' := by (intro hh; exact absurd hh (by decide))) : InvO ow' h' := by
  obtain ⟨o, I, r1, r2, r3, r4, r5, r10, r11, r12, r13, r14, r15, r16, r17, r18, r19, r120, rsta⟩ := J
  refine ⟨o', I.st o s n20, ?_, ?_, ?_, ?_, ?_, ?_, ?_, ?_, ?_, ?_, ?_, ?_, ?_, ?_, ?_, ?_, rsta.st I o s n20⟩
  · by_cases c : 1 ∈ fs ∨ 51 ∈ fs
    · exact c1 c
    · exact r1.st I o s (fun e => c (Or.inl e)) (fun e => c (Or.inr e))
  · by_cases c : 2 ∈ fs ∨ 52 ∈ fs
    · exact c2 c
    · exact r2.st I o s (fun e => c (Or.inl e)) (fun e => c (Or.inr e))
  · by_cases c : 3 ∈ fs ∨ 53 ∈ fs
    · exact c3 c
    · exact r3.st I o s (fun e => c (Or.inl e)) (fun e => c (Or.inr e))
  · by_cases c : 4 ∈ fs ∨ 54 ∈ fs
    · exact c4 c
    · exact r4.st I o s (fun e => c (Or.inl e)) (fun e => c (Or.inr e))
  · by_cases c : 5 ∈ fs ∨ 55 ∈ fs
    · exact c5 c
    · exact r5.st I o s (fun e => c (Or.inl e)) (fun e => c (Or.inr e))
  · by_cases c : 10 ∈ fs ∨ 60 ∈ fs
    · exact c10 c
    · exact r10.st I o s x (fun e => c (Or.inl e)) (fun e => c (Or.inr e))
  · by_cases c : 11 ∈ fs ∨ 61 ∈ fs
    · exact c11 c
    · exact r11.st I o s x (fun e => c (Or.inl e)) (fun e => c (Or.inr e))
  · by_cases c : 12 ∈ fs ∨ 62 ∈ fs
    · exact c12 c
    · exact r12.st I o s x (fun e => c (Or.inl e)) (fun e => c (Or.inr e))
  · by_cases c : 13 ∈ fs ∨ 63 ∈ fs
    · exact c13 c
    · exact r13.st I o s x (fun e => c (Or.inl e)) (fun e => c (Or.inr e))
  · by_cases c : 14 ∈ fs ∨ 64 ∈ fs
    · exact c14 c
    · exact r14.st I o s (fun e => c (Or.inl e)) (fun e => c (Or.inr e))
  · by_cases c : 15 ∈ fs ∨ 65 ∈ fs
    · exact c15 c
    · exact r15.st I o s (fun e => c (Or.inl e)) (fun e => c (Or.inr e))
  · by_cases c : 16 ∈ fs ∨ 66 ∈ fs
    · exact c16 c
    · exact r16.st I o s x (fun e => c (Or.inl e)) (fun e => c (Or.inr e)) n20
  · by_cases c : 17 ∈ fs ∨ 67 ∈ fs
    · exact c17 c
    · exact r17.st I o s (fun e => c (Or.inl e)) (fun e => c (Or.inr e))
  · by_cases c : 18 ∈ fs ∨ 68 ∈ fs
    · exact c18 c
    · exact r18.st I o s x (fun e => c (Or.inl e)) (fun e => c (Or.inr e))
  · by_cases c : 19 ∈ fs ∨ 69 ∈ fs
    · exact c19 c
    · exact r19.st I o s (fun e => c (Or.inl e)) (fun e => c (Or.inr e))
  · by_cases c : 120 ∈ fs
    · exact c120 c
    · exact r120.st I o s x (s.fam I o c 16 2 (by omega) rfl).2.2
def OkI (h : z_Hp) (ox : Option (Int32 × z_Hp)) (om : z_Hp → Option (Int32 × z_Hp)) : Prop := ∃ r h1 h2, ox = some (r, h1) ∧ om h1 = some (r, h2) ∧ Inv h2 ∧ hZ h2 ≤ hZ h + 5 ∧ hS h2 ≤ hS h + 5000
def OkL (h : z_Hp) (ox : Option (Int64 × z_Hp)) (om : z_Hp → Option (Int64 × z_Hp)) : Prop := ∃ r h1 h2, ox = some (r, h1) ∧ om h1 = some (r, h2) ∧ Inv h2 ∧ hZ h2 ≤ hZ h + 5 ∧ hS h2 ≤ hS h + 5000
theorem OkI.same {h : z_Hp} {ox : Option (Int32 × z_Hp)} {om : z_Hp → Option (Int32 × z_Hp)} (r : Int32) (J : Inv h) (e1 : ox = some (r, h)) (e2 : om h = some (r, h)) : OkI h ox om := ⟨r, h, h, e1, e2, J, by omega, by omega⟩
theorem OkL.same {h : z_Hp} {ox : Option (Int64 × z_Hp)} {om : z_Hp → Option (Int64 × z_Hp)} (r : Int64) (J : Inv h) (e1 : ox = some (r, h)) (e2 : om h = some (r, h)) : OkL h ox om := ⟨r, h, h, e1, e2, J, by omega, by omega⟩
/-- scratch alone -/
def SC : List Nat := [101, 102, 103, 104, 105, 106, 107, 108, 109, 110, 121, 122, 123, 124, 125, 126]
/-- sizes stay -/
def Szs (h h' : z_Hp) : Prop := hZ h' = hZ h ∧ hS h' = hS h
theorem Szs.refl (h : z_Hp) : Szs h h := ⟨rfl, rfl⟩
theorem Szs.trans {h h1 h2 : z_Hp} (a : Szs h h1) (b : Szs h1 h2) : Szs h h2 := ⟨b.1.trans a.1, b.2.trans a.2⟩
/-- a finding on both sides, behind work in scratch cells on either -/
theorem OkI.found {h ha : z_Hp} {ow : Ow} {ox : Option (Int32 × z_Hp)} {om : z_Hp → Option (Int32 × z_Hp)} {F : Nat} (k : Nat) (hk : k < 6) (J : InvO ow h) (sa : St SC ow h ha) (za : Szs h ha)
    (e1 : ox = c_X9_found F 5 (nI k) ha) (e2 : ∃ hb, St SC ow (sI (sI ha 5 12 (nI k)) 45 k (hI ha 45 k + 1)) hb ∧ Szs ha hb ∧ om (sI (sI ha 5 12 (nI k)) 45 k (hI ha 45 k + 1)) = c_X10_meets F 46 (nI k) hb) : OkI h ox om := by
  obtain ⟨hb, sb, zb, e2⟩ := e2
  have o := J.1
  have I := J.2.1
  have Ia : Ifx ha := I.st o sa (by decide)
  have s1 : St (2 :: 52 :: SC) ow h (sI (sI ha 5 12 (nI k)) 45 k (hI ha 45 k + 1)) := ((sa.sub (fun x hx => List.mem_cons_of_mem _ (List.mem_cons_of_mem _ hx))).wI o 2 (by decide) rfl (by decide)).wI o 2 (by decide) rfl (by decide)
  have I1 : Ifx (sI (sI ha 5 12 (nI k)) 45 k (hI ha 45 k + 1)) := I.st o s1 (by decide)
  have Ib : Ifx hb := I1.st o sb (by decide)
  have s2 : St (2 :: 52 :: SC) ow h hb := (s1.trans sb).sub (by decide)
  have s3 : St (2 :: 52 :: SC) ow h (sI (sI hb 46 0 (nI k)) 47 k (hI hb 47 k + 1)) := (s2.wI o 52 (by decide) rfl (by decide)).wI o 52 (by decide) rfl (by decide)
  refine ⟨_, _, _, e1.trans (x_found Ia F _ k rfl hk), e2.trans (m_meets Ib F _ k rfl hk), ⟨ow, J.fin o s3 (OwX.refl _ _) (by decide) (c2 := fun _ => ?_)⟩, ?_, ?_⟩
  · have r := J.2.2.2.1
    have fb : ∀ j, hI hb 45 j = hI (sI (sI ha 5 12 (nI k)) 45 k (hI ha 45 k + 1)) 45 j := fun j => (sb.fam I1 o (c := 2) (by decide) 45 j (by omega) rfl).1
    have fb2 : hI hb 5 12 = hI (sI (sI ha 5 12 (nI k)) 45 k (hI ha 45 k + 1)) 5 12 := (sb.fam I1 o (c := 2) (by decide) 5 12 (by omega) rfl).1
    have fc : ∀ j, hI hb 47 j = hI (sI (sI ha 5 12 (nI k)) 45 k (hI ha 45 k + 1)) 47 j := fun j => (sb.fam I1 o (c := 52) (by decide) 47 j (by omega) rfl).1
    have ga : ∀ j, hI ha 45 j = hI h 45 j := fun j => (sa.fam I o (c := 2) (by decide) 45 j (by omega) rfl).1
    have gb : ∀ j, hI ha 47 j = hI h 47 j := fun j => (sa.fam I o (c := 52) (by decide) 47 j (by omega) rfl).1
    refine ⟨?_, fun j hj => ?_⟩
    · simp [hI_sI, fb2]
    · simp only [hI_sI, fb, fc, ga, gb, r.2 j hj, r.2 k hk]
      by_cases e : j = k
      · subst e; simp
      · simp [e]
  · show hZ hb ≤ _; rw [zb.1, za.1]; omega
  · show hS hb ≤ _; rw [zb.2, za.2]; omega
theorem OkI.found0 {h : z_Hp} {ow : Ow} {ox : Option (Int32 × z_Hp)} {om : z_Hp → Option (Int32 × z_Hp)} {F : Nat} (k : Nat) (hk : k < 6) (J : InvO ow h)
    (e1 : ox = c_X9_found F 5 (nI k) h) (e2 : ∀ h', St [2] ow h h' → om h' = c_X10_meets F 46 (nI k) h') : OkI h ox om := by
  have o := J.1
  have I := J.2.1
  have s1 : St [2] ow h (sI (sI h 5 12 (nI k)) 45 k (hI h 45 k + 1)) := ((St.r I).wI o 2 (by decide) rfl (by decide)).wI o 2 (by decide) rfl (by decide)
  exact OkI.found k hk J (St.r I) (Szs.refl _) e1 ⟨_, St.r (I.st o s1 (by decide)), ⟨rfl, rfl⟩, e2 _ s1⟩
