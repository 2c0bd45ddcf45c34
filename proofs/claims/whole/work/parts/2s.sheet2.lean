section OpsM
variable {h : z_Hp} (F : Nat) (x1 x2 x3 x4 x5 : Int32)
theorem m_mkB {g : z_Hp} (I : Ifx g) (hF : 5000 ≤ F) {q n r : Nat} {t : Int32} (hq : q < 20) (h2 : hI g 46 26 = nI q) (ht : hI g 46 6 = t) (hn : n ≤ 40) (cs : (x1 = 2 ∧ x4 = nI r ∧ r < 6 ∧ hI g 48 r = nI n) ∨ (¬ x1 = 2 ∧ n = 0)) : (if hT g 46 = 10 then (lt_ (hI g 46 26) (fun x15 => (if hT g 46 = 10 then (lt_ (hR g 46 27) (fun o16 => (nn o16 (fun a17 => (if okA g a17 20 x15 = true then (lt_ (sI g a17 (ix x15) x1) (fun h18 => (if hT h18 46 = 10 then (lt_ (hR h18 46 28) (fun o19 => (nn o19 (fun a20 => (if okA h18 a20 20 x15 = true then (lt_ (sI h18 a20 (ix x15) x2) (fun h21 => (if hT h21 46 = 10 then (lt_ (hR h21 46 29) (fun o22 => (nn o22 (fun a23 => (if okA h21 a23 20 x15 = true then (lt_ (sI h21 a23 (ix x15) x3) (fun h24 => (if hT h24 46 = 10 then (lt_ (hR h24 46 30) (fun o25 => (nn o25 (fun a26 => (if okA h24 a26 20 x15 = true then (lt_ (sI h24 a26 (ix x15) (-9)) (fun h27 => (if hT h27 46 = 10 then (lt_ (hR h27 46 34) (fun o28 => (nn o28 (fun a29 => (if okA h27 a29 20 x15 = true then (lt_ (sI h27 a29 (ix x15) (-9)) (fun h30 => (if hT h30 46 = 10 then (lt_ (hR h30 46 35) (fun o31 => (nn o31 (fun a32 => (if okA h30 a32 20 x15 = true then (lt_ (sI h30 a32 (ix x15) (-9)) (fun h33 => (if hT h33 46 = 10 then (lt_ (hR h33 46 36) (fun o34 => (if hT h33 46 = 10 then (nn o34 (fun a35 => (if okA h33 a35 20 x15 = true then (lt_ (sI h33 a35 (ix x15) (hI h33 46 6)) (fun h36 => (if hT h36 46 = 10 then (lt_ (hR h36 46 37) (fun o37 => (lt_ (fun (x39 : Int32) (h40 : z_Hp) => (nn o37 (fun a41 => (if okA h40 a41 20 x15 = true then (lt_ (sI h40 a41 (ix x15) x39) (fun h42 => (c_X10_sheet_L172 F 46 x4 x15 F 0 h42))) else none)))) (fun (j168_38 : Int32 → z_Hp → Option (Int32 × z_Hp)) => (if x1 = 2 then (if hT h36 46 = 10 then (lt_ (hR h36 46 7) (fun o57 => (nn o57 (fun a58 => (if okA h36 a58 20 x4 = true then (j168_38 (hI h36 a58 (ix x4)) h36) else none))))) else none) else (j168_38 0 h36)))))) else none))) else none))) else none))) else none))) else none))))) else none))) else none))))) else none))) else none))))) else none))) else none))))) else none))) else none))))) else none))) else none))))) else none))) else none) = some (nI q, mkM g q n r x1 x2 x3 t) := by
  have b65 : okA g 65 20 (nI q) = true := okA_n (fT65 I) (fN65 I) (by omega) (by decide)
  have b66 : okA (sI g 65 q x1) 66 20 (nI q) = true := okA_n (fT66 I) (fN66 I) (by omega) (by decide)
  have b67 : okA (sI (sI g 65 q x1) 66 q x2) 67 20 (nI q) = true := okA_n (fT67 I) (fN67 I) (by omega) (by decide)
  have b68 : okA (sI (sI (sI g 65 q x1) 66 q x2) 67 q x3) 68 20 (nI q) = true := okA_n (fT68 I) (fN68 I) (by omega) (by decide)
  have b72 : okA (sI (sI (sI (sI g 65 q x1) 66 q x2) 67 q x3) 68 q (-9)) 72 20 (nI q) = true := okA_n (fT72 I) (fN72 I) (by omega) (by decide)
  have b73 : okA (sI (sI (sI (sI (sI g 65 q x1) 66 q x2) 67 q x3) 68 q (-9)) 72 q (-9)) 73 20 (nI q) = true := okA_n (fT73 I) (fN73 I) (by omega) (by decide)
  have b74 : okA (sI (sI (sI (sI (sI (sI g 65 q x1) 66 q x2) 67 q x3) 68 q (-9)) 72 q (-9)) 73 q (-9)) 74 20 (nI q) = true := okA_n (fT74 I) (fN74 I) (by omega) (by decide)
  have b75 : okA (sI (sI (sI (sI (sI (sI (sI g 65 q x1) 66 q x2) 67 q x3) 68 q (-9)) 72 q (-9)) 73 q (-9)) 74 q t) 75 20 (nI q) = true := okA_n (fT75 I) (fN75 I) (by omega) (by decide)
  have e6 : hI (sI (sI (sI (sI (sI (sI g 65 q x1) 66 q x2) 67 q x3) 68 q (-9)) 72 q (-9)) 73 q (-9)) 46 6 = t := by
    simp only [hI_sI, Nat.reduceEqDiff, false_and, if_false]; exact ht
  simp only [fT46 I, if_true, ltq, nnq, h2, hT_sI, hR_sI, fR46_27 I, fR46_28 I, fR46_29 I, fR46_30 I, fR46_34 I, fR46_35 I, fR46_36 I, fR46_37 I, fR46_7 I, ix_n (show q < 2147483648 by omega), b65, b66, b67, b68, b72, b73, b74, b75, e6]
  have fin : ∀ y : Int32, (n = 0 ∨ y = nI r) → (n = 0 ∨ r < 6) → c_X10_sheet_L172 F 46 y (nI q) F 0 (sI (sI (sI (sI (sI (sI (sI (sI g 65 q x1) 66 q x2) 67 q x3) 68 q (-9)) 72 q (-9)) 73 q (-9)) 74 q t) 75 q (nI n)) = some (nI q, mkM g q n r x1 x2 x3 t) := fun y hy hr => by
    refine Eq.trans (m_sheet_L172 F (q := q) (r := r) (s := q) (n := n) ?_ hr hq ?_ ?_ hn (by omega) y hy) rfl
    · exact I
    · simp only [hI_sI, and_self, if_true]
    · simp only [hI_sI, Nat.reduceEqDiff, false_and, if_false]; exact h2
  rcases cs with ⟨e1, e2, e3, e4⟩ | ⟨e1, e2⟩
  · subst e2
    have b48 : okA (sI (sI (sI (sI (sI (sI (sI g 65 q x1) 66 q x2) 67 q x3) 68 q (-9)) 72 q (-9)) 73 q (-9)) 74 q t) 48 20 (nI r) = true := okA_n (fT48 I) (fN48 I) (by omega) (by decide)
    have e48 : hI (sI (sI (sI (sI (sI (sI (sI g 65 q x1) 66 q x2) 67 q x3) 68 q (-9)) 72 q (-9)) 73 q (-9)) 74 q t) 48 r = nI n := by
      simp only [hI_sI, Nat.reduceEqDiff, false_and, if_false]; exact e4
    rw [if_pos e1, if_pos b48, ix_n (by omega), e48]
    exact fin _ (Or.inr rfl) (Or.inr e3)
  · subst e2
    rw [if_neg e1]
    exact fin _ (Or.inl rfl) (Or.inl rfl)
theorem op_sheet (hF : 5000 ≤ F) (J : Inv h) : OkI h (c_X9_sheet F 5 x1 x2 x3 x4 h) (c_X10_sheet F 46 x1 x2 x3 x4) := by
  obtain ⟨ow, J⟩ := J
  have o := J.1
  have I := J.2.1
  have S := J.sta
  have hz := I.2.2.1
  obtain ⟨q, hq, h1, h2, h3, h4, h5⟩ := J.she
  obtain ⟨t, ht, t1, t2⟩ := J.tod
  unfold c_X9_sheet c_X10_sheet
  by_cases c1 : 0 ≤ x1.toInt ∧ x1.toInt ≤ 6
  · have k1 : ¬ x1 < 0 := by rw [fa_lt, ti_0]; omega
    have k2 : ¬ 7 ≤ x1 := by rw [fa_le, ti_7]; omega
    by_cases c3 : 0 ≤ x3.toInt ∧ x3.toInt ≤ 9
    · by_cases c2 : x2 = -9 ∨ (0 ≤ x2.toInt ∧ x2.toInt ≤ 7)
      · by_cases c4 : x1 = 2 → (0 ≤ x4.toInt ∧ x4.toInt ≤ 5)
        · -- both sides come to the same place
          obtain ⟨A, hA⟩ : ∃ A : z_Hp → Option (Int32 × z_Hp), A = fun (h10 : z_Hp) => (if hT h10 5 = 9 then (lt_ (hR h10 5 6) (fun o11 => (nn o11 (fun a12 => (if hT h10 a12 = 6 then (if (hI h10 a12 1) < 20 then (lt_ (fun (o14 : Option Nat) (h15 : z_Hp) => (if hT h15 5 = 9 then (lt_ (hR h15 5 6) (fun o16 => (nwo h15 5 11 (fun a17 h18 => (if hT h18 5 = 9 then (bV (c_X5_init F a17 x1 x2 x3 (hI h18 5 4) o14 h18) (fun h19 => (nn o16 (fun a20 => (if hT h19 a20 = 6 then (bI (c_X6_add F a20 (some a17) h19) (fun x22 h21 => (some (x22, h21)))) else none))))) else none))))) else none)) (fun (j104_13 : Option Nat → z_Hp → Option (Int32 × z_Hp)) => (if x1 = 2 then (if hT h10 5 = 9 then (lt_ (hR h10 5 0) (fun o23 => (nn o23 (fun a24 => (if okA h10 a24 23 x4 = true then (lt_ (hR h10 a24 (ix x4)) (fun o25 => (nl o25 (if hT h10 5 = 9 then (bI (c_X9_found F 5 1 h10) (fun x28 h27 => (some (x28, h27)))) else none) (fun a26 => (if okL h10 a26 = true then (bR (c_J7_copyOf_59c91 F (some a26) (nI (hN h10 a26)) h10) (fun o30 h29 => (j104_13 o30 h29))) else none))))) else none))))) else none) else (j104_13 (some 1) h10)))) else (some ((-2), h10))) else none))))) else none) := ⟨_, rfl⟩
          obtain ⟨Bd, hBd⟩ : ∃ Bd : z_Hp → Option (Int32 × z_Hp), Bd = (fun (h14 : z_Hp) => (if hT h14 46 = 10 then (lt_ (hI h14 46 26) (fun x15 => (if hT h14 46 = 10 then (lt_ (hR h14 46 27) (fun o16 => (nn o16 (fun a17 => (if okA h14 a17 20 x15 = true then (lt_ (sI h14 a17 (ix x15) x1) (fun h18 => (if hT h18 46 = 10 then (lt_ (hR h18 46 28) (fun o19 => (nn o19 (fun a20 => (if okA h18 a20 20 x15 = true then (lt_ (sI h18 a20 (ix x15) x2) (fun h21 => (if hT h21 46 = 10 then (lt_ (hR h21 46 29) (fun o22 => (nn o22 (fun a23 => (if okA h21 a23 20 x15 = true then (lt_ (sI h21 a23 (ix x15) x3) (fun h24 => (if hT h24 46 = 10 then (lt_ (hR h24 46 30) (fun o25 => (nn o25 (fun a26 => (if okA h24 a26 20 x15 = true then (lt_ (sI h24 a26 (ix x15) (-9)) (fun h27 => (if hT h27 46 = 10 then (lt_ (hR h27 46 34) (fun o28 => (nn o28 (fun a29 => (if okA h27 a29 20 x15 = true then (lt_ (sI h27 a29 (ix x15) (-9)) (fun h30 => (if hT h30 46 = 10 then (lt_ (hR h30 46 35) (fun o31 => (nn o31 (fun a32 => (if okA h30 a32 20 x15 = true then (lt_ (sI h30 a32 (ix x15) (-9)) (fun h33 => (if hT h33 46 = 10 then (lt_ (hR h33 46 36) (fun o34 => (if hT h33 46 = 10 then (nn o34 (fun a35 => (if okA h33 a35 20 x15 = true then (lt_ (sI h33 a35 (ix x15) (hI h33 46 6)) (fun h36 => (if hT h36 46 = 10 then (lt_ (hR h36 46 37) (fun o37 => (lt_ (fun (x39 : Int32) (h40 : z_Hp) => (nn o37 (fun a41 => (if okA h40 a41 20 x15 = true then (lt_ (sI h40 a41 (ix x15) x39) (fun h42 => (c_X10_sheet_L172 F 46 x4 x15 F 0 h42))) else none)))) (fun (j168_38 : Int32 → z_Hp → Option (Int32 × z_Hp)) => (if x1 = 2 then (if hT h36 46 = 10 then (lt_ (hR h36 46 7) (fun o57 => (nn o57 (fun a58 => (if okA h36 a58 20 x4 = true then (j168_38 (hI h36 a58 (ix x4)) h36) else none))))) else none) else (j168_38 0 h36)))))) else none))) else none))) else none))) else none))) else none))))) else none))) else none))))) else none))) else none))))) else none))) else none))))) else none))) else none))))) else none))) else none))))) else none))) else none)) := ⟨_, rfl⟩
          obtain ⟨B, hB⟩ : ∃ B : z_Hp → Option (Int32 × z_Hp), B = fun (h12 : z_Hp) => (if hT h12 46 = 10 then (if (hI h12 46 26) = 20 then (some ((-2), h12)) else (lt_ Bd (fun (j78_13 : z_Hp → Option (Int32 × z_Hp)) => (if x1 = 2 then (if hT h12 46 = 10 then (lt_ (hR h12 46 7) (fun o59 => (nn o59 (fun a60 => (if okA h12 a60 20 x4 = true then (if 0 ≤ (hI h12 a60 (ix x4)) then (j78_13 h12) else (if hT h12 46 = 10 then (bI (c_X10_meets F 46 1 h12) (fun x62 h61 => (some (x62, h61)))) else none)) else none))))) else none) else (j78_13 h12))))) else none) := ⟨_, rfl⟩
          have XA : (if x1 < 0 then (some ((-1), h)) else (if 7 ≤ x1 then (some ((-1), h)) else (bI (c_X9_isSong F x3 h) (fun x6 h5 => (if x6 = 0 then (some ((-1), h5)) else (lt_ (fun (h8 : z_Hp) => (lt_ (fun (h10 : z_Hp) => (if hT h10 5 = 9 then (lt_ (hR h10 5 6) (fun o11 => (nn o11 (fun a12 => (if hT h10 a12 = 6 then (if (hI h10 a12 1) < 20 then (lt_ (fun (o14 : Option Nat) (h15 : z_Hp) => (if hT h15 5 = 9 then (lt_ (hR h15 5 6) (fun o16 => (nwo h15 5 11 (fun a17 h18 => (if hT h18 5 = 9 then (bV (c_X5_init F a17 x1 x2 x3 (hI h18 5 4) o14 h18) (fun h19 => (nn o16 (fun a20 => (if hT h19 a20 = 6 then (bI (c_X6_add F a20 (some a17) h19) (fun x22 h21 => (some (x22, h21)))) else none))))) else none))))) else none)) (fun (j104_13 : Option Nat → z_Hp → Option (Int32 × z_Hp)) => (if x1 = 2 then (if hT h10 5 = 9 then (lt_ (hR h10 5 0) (fun o23 => (nn o23 (fun a24 => (if okA h10 a24 23 x4 = true then (lt_ (hR h10 a24 (ix x4)) (fun o25 => (nl o25 (if hT h10 5 = 9 then (bI (c_X9_found F 5 1 h10) (fun x28 h27 => (some (x28, h27)))) else none) (fun a26 => (if okL h10 a26 = true then (bR (c_J7_copyOf_59c91 F (some a26) (nI (hN h10 a26)) h10) (fun o30 h29 => (j104_13 o30 h29))) else none))))) else none))))) else none) else (j104_13 (some 1) h10)))) else (some ((-2), h10))) else none))))) else none)) (fun (j49_9 : z_Hp → Option (Int32 × z_Hp)) => (if x1 = 2 then (bI (c_X9_isRow F x4 h8) (fun x32 h31 => (if x32 = 0 then (some ((-1), h31)) else (j49_9 h31)))) else (j49_9 h8))))) (fun (j34_7 : z_Hp → Option (Int32 × z_Hp)) => (if x2 = (-9) then (j34_7 h5) else (bI (c_X9_isPrinter F x2 h5) (fun x34 h33 => (if x34 = 0 then (some ((-1), h33)) else (j34_7 h33)))))))))))) = A h := by
            rw [if_neg k1, if_neg k2, x_isSong, bI_some, if_pos c3, ite10]
            dsimp only [lt_]
            have st : (if x1 = 2 then (bI (c_X9_isRow F x4 h) (fun x32 h31 => (if x32 = 0 then (some ((-1), h31)) else (A h31)))) else (A h)) = A h := by
              by_cases z : x1 = 2
              · rw [if_pos z, x_isRow, bI_some, if_pos (c4 z), ite10]
              · rw [if_neg z]
            rw [hA] at st ⊢
            by_cases z : x2 = -9
            · rw [if_pos z]; exact st
            · rw [if_neg z, x_isPrinter, bI_some, if_pos (c2.resolve_left z), ite10]; exact st
          have MB : ∀ g, (bI (c_X10_in F x1 0 6 g) (fun x6 h5 => (if x6 = 0 then (some ((-1), h5)) else (lt_ (fun (h8 : z_Hp) => (bI (c_X10_isSong F x3 h8) (fun x10 h9 => (if x10 = 0 then (some ((-1), h9)) else (lt_ (fun (h12 : z_Hp) => (if hT h12 46 = 10 then (if (hI h12 46 26) = 20 then (some ((-2), h12)) else (lt_ (fun (h14 : z_Hp) => (if hT h14 46 = 10 then (lt_ (hI h14 46 26) (fun x15 => (if hT h14 46 = 10 then (lt_ (hR h14 46 27) (fun o16 => (nn o16 (fun a17 => (if okA h14 a17 20 x15 = true then (lt_ (sI h14 a17 (ix x15) x1) (fun h18 => (if hT h18 46 = 10 then (lt_ (hR h18 46 28) (fun o19 => (nn o19 (fun a20 => (if okA h18 a20 20 x15 = true then (lt_ (sI h18 a20 (ix x15) x2) (fun h21 => (if hT h21 46 = 10 then (lt_ (hR h21 46 29) (fun o22 => (nn o22 (fun a23 => (if okA h21 a23 20 x15 = true then (lt_ (sI h21 a23 (ix x15) x3) (fun h24 => (if hT h24 46 = 10 then (lt_ (hR h24 46 30) (fun o25 => (nn o25 (fun a26 => (if okA h24 a26 20 x15 = true then (lt_ (sI h24 a26 (ix x15) (-9)) (fun h27 => (if hT h27 46 = 10 then (lt_ (hR h27 46 34) (fun o28 => (nn o28 (fun a29 => (if okA h27 a29 20 x15 = true then (lt_ (sI h27 a29 (ix x15) (-9)) (fun h30 => (if hT h30 46 = 10 then (lt_ (hR h30 46 35) (fun o31 => (nn o31 (fun a32 => (if okA h30 a32 20 x15 = true then (lt_ (sI h30 a32 (ix x15) (-9)) (fun h33 => (if hT h33 46 = 10 then (lt_ (hR h33 46 36) (fun o34 => (if hT h33 46 = 10 then (nn o34 (fun a35 => (if okA h33 a35 20 x15 = true then (lt_ (sI h33 a35 (ix x15) (hI h33 46 6)) (fun h36 => (if hT h36 46 = 10 then (lt_ (hR h36 46 37) (fun o37 => (lt_ (fun (x39 : Int32) (h40 : z_Hp) => (nn o37 (fun a41 => (if okA h40 a41 20 x15 = true then (lt_ (sI h40 a41 (ix x15) x39) (fun h42 => (c_X10_sheet_L172 F 46 x4 x15 F 0 h42))) else none)))) (fun (j168_38 : Int32 → z_Hp → Option (Int32 × z_Hp)) => (if x1 = 2 then (if hT h36 46 = 10 then (lt_ (hR h36 46 7) (fun o57 => (nn o57 (fun a58 => (if okA h36 a58 20 x4 = true then (j168_38 (hI h36 a58 (ix x4)) h36) else none))))) else none) else (j168_38 0 h36)))))) else none))) else none))) else none))) else none))) else none))))) else none))) else none))))) else none))) else none))))) else none))) else none))))) else none))) else none))))) else none))) else none))))) else none))) else none)) (fun (j78_13 : z_Hp → Option (Int32 × z_Hp)) => (if x1 = 2 then (if hT h12 46 = 10 then (lt_ (hR h12 46 7) (fun o59 => (nn o59 (fun a60 => (if okA h12 a60 20 x4 = true then (if 0 ≤ (hI h12 a60 (ix x4)) then (j78_13 h12) else (if hT h12 46 = 10 then (bI (c_X10_meets F 46 1 h12) (fun x62 h61 => (some (x62, h61)))) else none)) else none))))) else none) else (j78_13 h12))))) else none)) (fun (j45_11 : z_Hp → Option (Int32 × z_Hp)) => (if x1 = 2 then (bI (c_X10_isRow F x4 h9) (fun x64 h63 => (if x64 = 0 then (some ((-1), h63)) else (j45_11 h63)))) else (j45_11 h9)))))))) (fun (j23_7 : z_Hp → Option (Int32 × z_Hp)) => (if x2 = (-9) then (j23_7 h5) else (bI (c_X10_isPrinter F x2 h5) (fun x66 h65 => (if x66 = 0 then (some ((-1), h65)) else (j23_7 h65)))))))))) = B g := by
            intro g
            rw [m_in, bI_some, ti_0, ti_6, if_pos c1, ite10]
            dsimp only [lt_]
            have st : (bI (c_X10_isSong F x3 g) (fun x10 h9 => (if x10 = 0 then (some ((-1), h9)) else (if x1 = 2 then (bI (c_X10_isRow F x4 h9) (fun x64 h63 => (if x64 = 0 then (some ((-1), h63)) else (B h63)))) else (B h9))))) = B g := by
              rw [m_isSong, bI_some, if_pos c3, ite10]
              by_cases z : x1 = 2
              · rw [if_pos z, m_isRow, bI_some, if_pos (c4 z), ite10]
              · rw [if_neg z]
            rw [hB, hBd] at st ⊢
            by_cases z : x2 = -9
            · rw [if_pos z]; exact st
            · rw [if_neg z, m_isPrinter, bI_some, if_pos (c2.resolve_left z), ite10]; exact st
          by_cases c5 : q = 20
          · refine OkI.same (-2) ⟨ow, J⟩ (XA.trans ?_) ((MB h).trans ?_)
            · rw [hA]
              dsimp only
              rw [fT5 I, if_pos rfl, fR5_6 I]
              dsimp only [lt_, nn]
              rw [fT14 I, if_pos rfl, h1, c5, if_neg (by decide)]
            · rw [hB]
              dsimp only
              rw [fT46 I, if_pos rfl, h2, c5, if_pos (by rfl)]
          · have hq' : q < 20 := by omega
            have q20 : nI q < 20 := nI_lt (b := 20) (by omega) (by decide)
            have qn : ¬ nI q = 20 := by rw [show (20 : Int32) = nI 20 from rfl, nI_eq (by omega) (by decide)]; exact c5
            obtain ⟨kk, hkk, ek⟩ := rng (x := x1) (n := 6) c1
            obtain ⟨sk, hsk, es⟩ := rng (x := x3) (n := 9) c3
            have op8 : opt 8 x2 := by
              rcases c2 with c2 | c2
              · exact Or.inl c2
              · obtain ⟨j, hj, e⟩ := rng (x := x2) (n := 7) c2
                exact Or.inr ⟨j, by omega, e⟩
            -- what is left of the finish, by the heap behind the cut
            have finish : ∀ (hc : z_Hp) (cb n r : Nat), St [] ow h hc → hZ hc ≤ hZ h + 1 → hS hc ≤ hS h + 40 → hT hc cb = (if cb = 1 then 19 else 20) → hN hc cb = n → n ≤ 40 → (cb = 1 ∨ (hZ h ≤ cb ∧ cb < hZ hc)) → (∀ k, k < n → hI hc cb k = hI hc 49 (40 * r + k)) → ((x1 = 2 ∧ x4 = nI r ∧ r < 6 ∧ hI h 48 r = nI n) ∨ (¬ x1 = 2 ∧ n = 0)) → (A h = some (nI q, mkS hc q (hZ hc) cb x1 x2 x3 (nI t))) → OkI h (A h) B := by
              intro hc cb n r sc z1 z2 w1 w2 w3 w4 w5 cs ea
              have Ic := I.st o sc (by decide)
              have sN : St [] ow h (nw hc 5 11) := sc.gN
              have zh := sc.1
              have o' := o.new (z := hZ h) (c := 16) hz
              have owz : ∀ i, owN ow (hZ h) 16 (hZ hc) i = 16 := fun i => if_pos zh
              have up : ∀ fs, St fs ow h (nw hc 5 11) → St fs (owN ow (hZ h) 16) h (nw hc 5 11) := fun fs s => ⟨s.1, s.2.1, fun a i ha hn => s.2.2.1 a i ha (by rw [← OwX.new h ow 16 a i ha]; exact hn), s.2.2.2⟩
              have sS' : St [16] (owN ow (hZ h) 16) h (mkS hc q (hZ hc) cb x1 x2 x3 (nI t)) := by
                unfold mkS
                refine St.wI (St.wR (St.gR (St.gI (St.gI (St.gI (St.gI (St.gI (St.gI (St.gI ((up _ (sN.sub (f2 := [16]) (by intro x hx; cases hx)))) ?_) ?_) ?_) ?_) ?_) ?_) ?_) ?_) o' 16 (by decide) rfl (by decide)) o' 16 (by decide) rfl (by decide)
                all_goals (rw [owz]; decide)
              have dn : ∀ fs g, St fs (owN ow (hZ h) 16) h g → St fs ow h g := fun fs g s => ⟨s.1, s.2.1, fun a i ha hn => s.2.2.1 a i ha (by rw [OwX.new h ow 16 a i ha]; exact hn), s.2.2.2⟩
              have sS := dn _ _ sS'
              have I1 := I.st o sS (by decide)
              have g2 : hI (mkS hc q (hZ hc) cb x1 x2 x3 (nI t)) 46 26 = nI q := (sS.fam I o (c := 66) (by decide) 46 26 (by omega) rfl).1.trans h2
              have g6 : hI (mkS hc q (hZ hc) cb x1 x2 x3 (nI t)) 46 6 = nI t := (sS.fam I o (c := 51) (by decide) 46 6 (by omega) rfl).1.trans t2
              have cs' : (x1 = 2 ∧ x4 = nI r ∧ r < 6 ∧ hI (mkS hc q (hZ hc) cb x1 x2 x3 (nI t)) 48 r = nI n) ∨ (¬ x1 = 2 ∧ n = 0) := by
                rcases cs with ⟨a1, a2, a3, a4⟩ | cs
                · exact Or.inl ⟨a1, a2, a3, (sS.fam I o (c := 60) (by decide) 48 r (by omega) rfl).1.trans a4⟩
                · exact Or.inr cs
              have body : Bd (mkS hc q (hZ hc) cb x1 x2 x3 (nI t)) = some (nI q, mkM (mkS hc q (hZ hc) cb x1 x2 x3 (nI t)) q n r x1 x2 x3 (nI t)) := by
                rw [hBd]
                exact m_mkB F x1 x2 x3 x4 I1 hF hq' g2 g6 w3 cs'
              have sM : St [16, 66] (owN ow (hZ h) 16) h (mkM (mkS hc q (hZ hc) cb x1 x2 x3 (nI t)) q n r x1 x2 x3 (nI t)) := by
                unfold mkM
                refine St.wI (St.wfl (St.wI (St.wI (St.wI (St.wI (St.wI (St.wI (St.wI (St.wI (sS'.sub (by decide)) o' 66 (by decide) rfl (by decide)) o' 66 (by decide) rfl (by decide)) o' 66 (by decide) rfl (by decide)) o' 66 (by decide) rfl (by decide)) o' 66 (by decide) rfl (by decide)) o' 66 (by decide) rfl (by decide)) o' 66 (by decide) rfl (by decide)) o' 66 (by decide) rfl (by decide)) o' 66 (by decide) (fun _ => rfl) (by decide)) o' 66 (by decide) rfl (by decide)
              refine ⟨nI q, _, mkM (mkS hc q (hZ hc) cb x1 x2 x3 (nI t)) q n r x1 x2 x3 (nI t), ea, ?_, ⟨owN ow (hZ h) 16, J.fin o' (dn _ _ sM) (OwX.new _ _ _) (by decide) (c16 := fun _ => ?_)⟩, ?_, ?_⟩
              · rw [hB]
                dsimp only
                rw [fT46 I1, if_pos rfl, g2, if_neg qn]
                rw [ltq]
                rcases cs' with ⟨a1, a2, a3, a4⟩ | ⟨a1, a2⟩
                · have b48 : okA (mkS hc q (hZ hc) cb x1 x2 x3 (nI t)) 48 20 x4 = true := by rw [a2]; exact okA_n (fT48 I1) (fN48 I1) (by omega) (by decide)
                  rw [if_pos a1, if_pos rfl, fR46_7 I1, ltq, nnq]
                  rw [if_pos b48, a2, ix_n (by omega), a4, if_pos (nge (by omega))]
                  exact body
                · rw [if_neg a1]; exact body
              · exact Rshe.new I o sc hq' w3 h1 h2 h3 h4 h5 w1 w2 w4 w5 ⟨kk, by omega, ek⟩ op8 ⟨sk, by omega, es⟩ ⟨t, ht, rfl⟩
              · show hZ hc + 1 ≤ _; omega
              · show hS hc + 11 ≤ _; omega
            have X0 : OkI h (A h) B → OkI h (if x1 < 0 then (some ((-1), h)) else (if 7 ≤ x1 then (some ((-1), h)) else (bI (c_X9_isSong F x3 h) (fun x6 h5 => (if x6 = 0 then (some ((-1), h5)) else (lt_ (fun (h8 : z_Hp) => (lt_ (fun (h10 : z_Hp) => (if hT h10 5 = 9 then (lt_ (hR h10 5 6) (fun o11 => (nn o11 (fun a12 => (if hT h10 a12 = 6 then (if (hI h10 a12 1) < 20 then (lt_ (fun (o14 : Option Nat) (h15 : z_Hp) => (if hT h15 5 = 9 then (lt_ (hR h15 5 6) (fun o16 => (nwo h15 5 11 (fun a17 h18 => (if hT h18 5 = 9 then (bV (c_X5_init F a17 x1 x2 x3 (hI h18 5 4) o14 h18) (fun h19 => (nn o16 (fun a20 => (if hT h19 a20 = 6 then (bI (c_X6_add F a20 (some a17) h19) (fun x22 h21 => (some (x22, h21)))) else none))))) else none))))) else none)) (fun (j104_13 : Option Nat → z_Hp → Option (Int32 × z_Hp)) => (if x1 = 2 then (if hT h10 5 = 9 then (lt_ (hR h10 5 0) (fun o23 => (nn o23 (fun a24 => (if okA h10 a24 23 x4 = true then (lt_ (hR h10 a24 (ix x4)) (fun o25 => (nl o25 (if hT h10 5 = 9 then (bI (c_X9_found F 5 1 h10) (fun x28 h27 => (some (x28, h27)))) else none) (fun a26 => (if okL h10 a26 = true then (bR (c_J7_copyOf_59c91 F (some a26) (nI (hN h10 a26)) h10) (fun o30 h29 => (j104_13 o30 h29))) else none))))) else none))))) else none) else (j104_13 (some 1) h10)))) else (some ((-2), h10))) else none))))) else none)) (fun (j49_9 : z_Hp → Option (Int32 × z_Hp)) => (if x1 = 2 then (bI (c_X9_isRow F x4 h8) (fun x32 h31 => (if x32 = 0 then (some ((-1), h31)) else (j49_9 h31)))) else (j49_9 h8))))) (fun (j34_7 : z_Hp → Option (Int32 × z_Hp)) => (if x2 = (-9) then (j34_7 h5) else (bI (c_X9_isPrinter F x2 h5) (fun x34 h33 => (if x34 = 0 then (some ((-1), h33)) else (j34_7 h33)))))))))))) (fun g => (bI (c_X10_in F x1 0 6 g) (fun x6 h5 => (if x6 = 0 then (some ((-1), h5)) else (lt_ (fun (h8 : z_Hp) => (bI (c_X10_isSong F x3 h8) (fun x10 h9 => (if x10 = 0 then (some ((-1), h9)) else (lt_ (fun (h12 : z_Hp) => (if hT h12 46 = 10 then (if (hI h12 46 26) = 20 then (some ((-2), h12)) else (lt_ (fun (h14 : z_Hp) => (if hT h14 46 = 10 then (lt_ (hI h14 46 26) (fun x15 => (if hT h14 46 = 10 then (lt_ (hR h14 46 27) (fun o16 => (nn o16 (fun a17 => (if okA h14 a17 20 x15 = true then (lt_ (sI h14 a17 (ix x15) x1) (fun h18 => (if hT h18 46 = 10 then (lt_ (hR h18 46 28) (fun o19 => (nn o19 (fun a20 => (if okA h18 a20 20 x15 = true then (lt_ (sI h18 a20 (ix x15) x2) (fun h21 => (if hT h21 46 = 10 then (lt_ (hR h21 46 29) (fun o22 => (nn o22 (fun a23 => (if okA h21 a23 20 x15 = true then (lt_ (sI h21 a23 (ix x15) x3) (fun h24 => (if hT h24 46 = 10 then (lt_ (hR h24 46 30) (fun o25 => (nn o25 (fun a26 => (if okA h24 a26 20 x15 = true then (lt_ (sI h24 a26 (ix x15) (-9)) (fun h27 => (if hT h27 46 = 10 then (lt_ (hR h27 46 34) (fun o28 => (nn o28 (fun a29 => (if okA h27 a29 20 x15 = true then (lt_ (sI h27 a29 (ix x15) (-9)) (fun h30 => (if hT h30 46 = 10 then (lt_ (hR h30 46 35) (fun o31 => (nn o31 (fun a32 => (if okA h30 a32 20 x15 = true then (lt_ (sI h30 a32 (ix x15) (-9)) (fun h33 => (if hT h33 46 = 10 then (lt_ (hR h33 46 36) (fun o34 => (if hT h33 46 = 10 then (nn o34 (fun a35 => (if okA h33 a35 20 x15 = true then (lt_ (sI h33 a35 (ix x15) (hI h33 46 6)) (fun h36 => (if hT h36 46 = 10 then (lt_ (hR h36 46 37) (fun o37 => (lt_ (fun (x39 : Int32) (h40 : z_Hp) => (nn o37 (fun a41 => (if okA h40 a41 20 x15 = true then (lt_ (sI h40 a41 (ix x15) x39) (fun h42 => (c_X10_sheet_L172 F 46 x4 x15 F 0 h42))) else none)))) (fun (j168_38 : Int32 → z_Hp → Option (Int32 × z_Hp)) => (if x1 = 2 then (if hT h36 46 = 10 then (lt_ (hR h36 46 7) (fun o57 => (nn o57 (fun a58 => (if okA h36 a58 20 x4 = true then (j168_38 (hI h36 a58 (ix x4)) h36) else none))))) else none) else (j168_38 0 h36)))))) else none))) else none))) else none))) else none))) else none))))) else none))) else none))))) else none))) else none))))) else none))) else none))))) else none))) else none))))) else none))) else none))))) else none))) else none)) (fun (j78_13 : z_Hp → Option (Int32 × z_Hp)) => (if x1 = 2 then (if hT h12 46 = 10 then (lt_ (hR h12 46 7) (fun o59 => (nn o59 (fun a60 => (if okA h12 a60 20 x4 = true then (if 0 ≤ (hI h12 a60 (ix x4)) then (j78_13 h12) else (if hT h12 46 = 10 then (bI (c_X10_meets F 46 1 h12) (fun x62 h61 => (some (x62, h61)))) else none)) else none))))) else none) else (j78_13 h12))))) else none)) (fun (j45_11 : z_Hp → Option (Int32 × z_Hp)) => (if x1 = 2 then (bI (c_X10_isRow F x4 h9) (fun x64 h63 => (if x64 = 0 then (some ((-1), h63)) else (j45_11 h63)))) else (j45_11 h9)))))))) (fun (j23_7 : z_Hp → Option (Int32 × z_Hp)) => (if x2 = (-9) then (j23_7 h5) else (bI (c_X10_isPrinter F x2 h5) (fun x66 h65 => (if x66 = 0 then (some ((-1), h65)) else (j23_7 h65))))))))))) := by
              intro hh
              obtain ⟨r0, g1, g2, e1, e2, e3⟩ := hh
              exact ⟨r0, g1, g2, XA.trans e1, (MB g1).trans e2, e3⟩
            refine X0 ?_
            have start : ∀ K, A h = K → A h = K := fun _ e => e
            by_cases c6 : x1 = 2
            · obtain ⟨r, hr, er⟩ := rng (x := x4) (n := 5) (c4 c6)
              have b6 : okA h 6 23 x4 = true := by rw [er]; exact okA_n (fT6 I) (fN6 I) (by omega) (by decide)
              rcases J.row.1 r (by omega) with ⟨g1, g2⟩ | ⟨n, a, g1, g2, g3, g4, g5, g6, g7, g8⟩
              · refine OkI.found0 (F := F) 1 (by decide) J ?_ (fun h' w => ?_)
                · show _ = c_X9_found F 5 1 h
                  rw [hA]
                  dsimp only
                  rw [fT5 I, if_pos rfl, fR5_6 I]
                  dsimp only [lt_, nn]
                  rw [fT14 I, if_pos rfl, h1, if_pos q20, if_pos c6, if_pos rfl, fR5_0 I]
                  dsimp only
                  rw [if_pos b6, er, ix_n (by omega), g2]
                  dsimp only [nl]
                  rw [if_pos rfl, bI_id]
                · have I' := I.st o w (by decide)
                  have h2' : hI h' 46 26 = nI q := (w.fam I o (c := 66) (by decide) 46 26 (by omega) rfl).1.trans h2
                  have e48 : hI h' 48 r = -9 := (w.fam I o (c := 60) (by decide) 48 r (by omega) rfl).1.trans g1
                  have b48 : okA h' 48 20 x4 = true := by rw [er]; exact okA_n (fT48 I') (fN48 I') (by omega) (by decide)
                  show _ = c_X10_meets F 46 1 h'
                  rw [hB]
                  dsimp only
                  rw [fT46 I', if_pos rfl, h2', if_neg qn]
                  dsimp only [lt_]
                  rw [if_pos c6, if_pos rfl, fR46_7 I']
                  dsimp only [nn]
                  rw [if_pos b48, er, ix_n (by omega), e48, if_neg nn9, if_pos rfl, bI_id]
              · have b5 : okL h a = true := okL_n g4 (by decide) (by decide)
                have sc : St [] ow h (cl_ h a) := (St.r I).gK
                have Ic := I.st o sc (by decide)
                have ha := I.al g4 (by decide)
                refine finish (cl_ h a) (hZ h) n r sc (by show hZ h + 1 ≤ _; omega) (by show hS h + hN h a ≤ _; omega) (by rw [hT_cl, if_pos rfl, g4, if_neg (by omega)]) (by rw [hN_cl, if_pos rfl]; exact g5) g1 (Or.inr ⟨Nat.le_refl _, by show hZ h < hZ h + 1; omega⟩) (fun k hk => by rw [hI_cl, if_pos rfl, hI_cl, if_neg (by omega)]; exact g8 k hk) (Or.inl ⟨c6, er, by omega, g2⟩) ?_
                rw [hA]
                dsimp only
                rw [fT5 I, if_pos rfl, fR5_6 I]
                dsimp only [lt_, nn]
                rw [fT14 I, if_pos rfl, h1, if_pos q20, if_pos c6, if_pos rfl, fR5_0 I]
                dsimp only
                rw [if_pos b6, er, ix_n (by omega), g3]
                dsimp only [nl]
                rw [if_pos b5, g5, x_copyOf F g4 g5, bR_some, fT5 Ic, if_pos rfl, fR5_6 Ic]
                exact x_mk F Ic hq' ((sc.fam I o (c := 16) (by decide) 14 1 (by omega) rfl).1.trans h1) x1 x2 x3 (nI t) ((sc.fam I o (c := 1) (by decide) 5 4 (by omega) rfl).1.trans t1)
            · refine finish h 1 0 0 (St.r I) (by omega) (by omega) (by rw [if_pos rfl]; exact S.1 1 (by decide)) S.2.2.1 (by omega) (Or.inl rfl) (fun k hk => by omega) (Or.inr ⟨c6, rfl⟩) ?_
              rw [hA]
              dsimp only
              rw [fT5 I, if_pos rfl, fR5_6 I]
              dsimp only [lt_, nn]
              rw [fT14 I, if_pos rfl, h1, if_pos q20, if_neg c6, fT5 I, if_pos rfl, fR5_6 I]
              exact x_mk F I hq' h1 x1 x2 x3 (nI t) t1
        · have c6 : x1 = 2 := Classical.byContradiction (fun e => c4 (fun e2 => absurd e2 e))
          have c7 : ¬ (0 ≤ x4.toInt ∧ x4.toInt ≤ 5) := fun e => c4 (fun _ => e)
          refine OkI.same (-1) ⟨ow, J⟩ ?_ ?_
          · rw [if_neg k1, if_neg k2, x_isSong, bI_some, if_pos c3, ite10]
            dsimp only [lt_]
            by_cases z : x2 = -9
            · rw [if_pos z, if_pos c6, x_isRow, bI_some, if_neg c7, ite00]
            · rw [if_neg z, x_isPrinter, bI_some, if_pos (c2.resolve_left z), ite10, if_pos c6, x_isRow, bI_some, if_neg c7, ite00]
          · rw [m_in, bI_some, ti_0, ti_6, if_pos c1, ite10]
            dsimp only [lt_]
            by_cases z : x2 = -9
            · rw [if_pos z, m_isSong, bI_some, if_pos c3, ite10, if_pos c6, m_isRow, bI_some, if_neg c7, ite00]
            · rw [if_neg z, m_isPrinter, bI_some, if_pos (c2.resolve_left z), ite10, m_isSong, bI_some, if_pos c3, ite10, if_pos c6, m_isRow, bI_some, if_neg c7, ite00]
      · have z : ¬ x2 = -9 := fun e => c2 (Or.inl e)
        have z2 : ¬ (0 ≤ x2.toInt ∧ x2.toInt ≤ 7) := fun e => c2 (Or.inr e)
        refine OkI.same (-1) ⟨ow, J⟩ ?_ ?_
        · rw [if_neg k1, if_neg k2, x_isSong, bI_some, if_pos c3, ite10]
          dsimp only [lt_]
          rw [if_neg z, x_isPrinter, bI_some, if_neg z2, ite00]
        · rw [m_in, bI_some, ti_0, ti_6, if_pos c1, ite10]
          dsimp only [lt_]
          rw [if_neg z, m_isPrinter, bI_some, if_neg z2, ite00]
    · refine OkI.same (-1) ⟨ow, J⟩ ?_ ?_
      · rw [if_neg k1, if_neg k2, x_isSong, bI_some, if_neg c3, ite00]
      · rw [m_in, bI_some, ti_0, ti_6, if_pos c1, ite10]
        dsimp only [lt_]
        by_cases z : x2 = -9
        · rw [if_pos z, m_isSong, bI_some, if_neg c3, ite00]
        · rw [if_neg z, m_isPrinter, bI_some]
          by_cases z2 : 0 ≤ x2.toInt ∧ x2.toInt ≤ 7
          · rw [if_pos z2, ite10, m_isSong, bI_some, if_neg c3, ite00]
          · rw [if_neg z2, ite00]
  · refine OkI.same (-1) ⟨ow, J⟩ ?_ ?_
    · by_cases k1 : x1 < 0
      · rw [if_pos k1]
      · rw [if_neg k1, if_pos (by rw [fa_le, ti_7]; rw [fa_lt, ti_0] at k1; omega)]
    · rw [m_in, bI_some, ti_0, ti_6, if_neg c1, ite00]
end OpsM
