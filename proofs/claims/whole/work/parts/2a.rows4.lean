section Ops5
variable {h : z_Hp} (F : Nat) (x1 x2 x3 x4 x5 : Int32)
theorem hI_cpI (a s b d n q j : Nat) : hI (cpI h a s b d n) q j = if q = b ∧ d ≤ j ∧ j < d + n then hI h a (s + (j - d)) else hI h q j := by
  rw [hI_cp]
  unfold va_cpy
  by_cases c : q = b
  · subst c
    rw [if_pos rfl]
    by_cases c2 : d ≤ j ∧ j < d + n
    · rw [if_pos c2, if_pos ⟨rfl, c2⟩]
    · rw [if_neg c2, if_neg (fun e => c2 e.2)]
  · rw [if_neg c, if_neg (fun e => c e.1)]
theorem St.gC {fs : List Nat} {ow : Ow} {h h1 : z_Hp} (s : St fs ow h h1) {a sp b dp n : Nat} (hb : ∀ i, ow b i ∈ fs) : St fs ow h (cpI h1 a sp b dp n) := by
  refine ⟨s.1, s.2.1, fun q j hq hn => ?_, s.2.2.2⟩
  obtain ⟨c1, c2, c3⟩ := s.2.2.1 q j hq hn
  refine ⟨?_, c2, c3⟩
  rw [hI_cpI, if_neg (fun e => hn (by rw [e.1]; exact hb j))]
  exact c1
theorem m_copy_bad (I : Ifx h) {r q n m : Nat} (hr : r < 6) (hq : q < 6) (hn : n ≤ 40) (hm : m ≤ 40) (e : hI h 48 r = nI n) (e' : hI h 48 q = nI m) (c5 : 0 ≤ x5) (c7 : ¬((0 ≤ x2.toInt ∧ x2.toInt + x5.toInt ≤ n) ∧ 0 ≤ x4.toInt ∧ x4.toInt + x5.toInt ≤ m)) : c_X10_copy F 46 (nI r) x2 (nI q) x4 x5 h = c_X10_meets F 46 2 h := by
  have c1 : 0 ≤ (nI r).toInt ∧ (nI r).toInt ≤ 5 := by rw [toI_n (by omega)]; omega
  have c3 : 0 ≤ (nI q).toInt ∧ (nI q).toInt ≤ 5 := by rw [toI_n (by omega)]; omega
  have b8 : okA h 48 20 (nI r) = true := okA_n (fT48 I) (fN48 I) (by omega) (by decide)
  have b9 : okA h 48 20 (nI q) = true := okA_n (fT48 I) (fN48 I) (by omega) (by decide)
  have f1 : ¬ hI h 48 r < 0 := by rw [e]; exact pnI (by omega)
  have f2 : 0 ≤ hI h 48 q := by rw [e']; exact nge (by omega)
  unfold c_X10_copy
  rw [m_isRow, bI_some, if_pos c1, ite10, m_isRow, bI_some, if_pos c3, ite10, if_pos c5, fT46 I, if_pos rfl, fR46_7 I]
  dsimp only [lt_, nn]
  rw [if_pos b8, ix_n (by omega), if_neg f1, if_pos rfl]
  rw [if_pos b9, ix_n (by omega), if_pos f2]
  have e5 : (if hT h 46 = 10 then bI (c_X10_meets F 46 2 h) (fun x21 h20 => some (x21, h20)) else none) = c_X10_meets F 46 2 h := by rw [fT46 I, if_pos rfl, bI_id]
  by_cases d1 : x2 < 0
  · rw [if_pos d1]; exact e5
  · rw [if_neg d1]
    by_cases d2 : x4 < 0
    · rw [if_pos d2]; exact e5
    · rw [if_neg d2, if_pos rfl, if_pos b8, e]
      rw [fa_lt, ti_0] at d1 d2
      by_cases d3 : 0 < lg_cmp (x2.toInt64 + x5.toInt64) (nI n).toInt64
      · rw [if_pos d3]; exact e5
      · rw [if_neg d3, if_pos rfl, if_pos b9, e']
        rw [cmp_pos, sum64, Int32.toInt_toInt64, toI_n (by omega)] at d3
        rw [if_neg (by rw [cmp_le, sum64, Int32.toInt_toInt64, toI_n (by omega)]; omega)]
        exact e5
theorem op_copy (hF : 5000 ≤ F) (J : Inv h) : OkI h (c_X9_copy F 5 x1 x2 x3 x4 x5 h) (c_X10_copy F 46 x1 x2 x3 x4 x5) := by
  obtain ⟨ow, J⟩ := J
  have o := J.1
  have I := J.2.1
  have R : Rrow ow h := J.2.2.2.2.2.2.2.1
  unfold c_X9_copy c_X10_copy
  by_cases c1 : 0 ≤ x1.toInt ∧ x1.toInt ≤ 5
  · by_cases c3 : 0 ≤ x3.toInt ∧ x3.toInt ≤ 5
    · by_cases c5 : 0 ≤ x5
      · obtain ⟨r, hr, rfl⟩ := rng (x := x1) (n := 5) c1
        obtain ⟨q, hq, rfl⟩ := rng (x := x3) (n := 5) c3
        have b1 : okA h 6 23 (nI r) = true := okA_n (fT6 I) (fN6 I) (by omega) (by decide)
        have b2 : okA h 6 23 (nI q) = true := okA_n (fT6 I) (fN6 I) (by omega) (by decide)
        have c6 : 0 ≤ x5.toInt := by rw [fa_le, ti_0] at c5; exact c5
        rcases R.1 r (by omega) with ⟨g1, g2⟩ | ⟨n, a, g1, g2, g3, g4, g5, g6, g7, g8⟩
        · refine OkI.found0 (F := F) 1 (by decide) J ?_ (fun h' s => ?_)
          · show _ = c_X9_found F 5 1 h
            simp only [x_isRow, if_pos c1, if_pos c3, bI_some, ite10, if_pos c5, fT5 I, if_true, lt_, fR5_0 I, nn, b1, b2, ix_n (show r < 2147483648 by omega), ix_n (show q < 2147483648 by omega), g2, nl, bI_id]
          · have I' := I.st o s (by decide)
            have e : hI h' 48 r = -9 := (s.fam I o (c := 60) (by decide) 48 r (by omega) rfl).1.trans g1
            have b8 : okA h' 48 20 (nI r) = true := okA_n (fT48 I') (fN48 I') (by omega) (by decide)
            show _ = c_X10_meets F 46 1 h'
            simp only [m_isRow, if_pos c1, if_pos c3, bI_some, ite10, if_pos c5, fT46 I', if_true, lt_, fR46_7 I', nn, b8, ix_n (show r < 2147483648 by omega), e, if_pos nlt9, bI_id]
        · rcases R.1 q (by omega) with ⟨k1, k2⟩ | ⟨m, b, k1, k2, k3, k4, k5, k6, k7, k8⟩
          · refine OkI.found0 (F := F) 1 (by decide) J ?_ (fun h' s => ?_)
            · show _ = c_X9_found F 5 1 h
              simp only [x_isRow, if_pos c1, if_pos c3, bI_some, ite10, if_pos c5, fT5 I, if_true, lt_, fR5_0 I, nn, b1, b2, ix_n (show r < 2147483648 by omega), ix_n (show q < 2147483648 by omega), g3, k2, nl, bI_id]
            · have I' := I.st o s (by decide)
              have e : hI h' 48 r = nI n := (s.fam I o (c := 60) (by decide) 48 r (by omega) rfl).1.trans g2
              have e' : hI h' 48 q = -9 := (s.fam I o (c := 60) (by decide) 48 q (by omega) rfl).1.trans k1
              have b8 : okA h' 48 20 (nI r) = true := okA_n (fT48 I') (fN48 I') (by omega) (by decide)
              have b9 : okA h' 48 20 (nI q) = true := okA_n (fT48 I') (fN48 I') (by omega) (by decide)
              show _ = c_X10_meets F 46 1 h'
              simp only [m_isRow, if_pos c1, if_pos c3, bI_some, ite10, if_pos c5, fT46 I', if_true, lt_, fR46_7 I', nn, b8, b9, ix_n (show r < 2147483648 by omega), ix_n (show q < 2147483648 by omega), e, e', if_neg (pnI (show n < 2147483648 by omega)), if_neg nn9, bI_id]
          · by_cases c7 : (0 ≤ x2.toInt ∧ x2.toInt + x5.toInt ≤ n) ∧ 0 ≤ x4.toInt ∧ x4.toInt + x5.toInt ≤ m
            · obtain ⟨i, hi, rfl⟩ := rng (x := x2) (n := 40) ⟨by omega, by omega⟩
              obtain ⟨j, hj, rfl⟩ := rng (x := x4) (n := 40) ⟨by omega, by omega⟩
              obtain ⟨w, hw, rfl⟩ := rng (x := x5) (n := 40) ⟨by omega, by omega⟩
              have c8 := c7
              rw [toI_n (by omega), toI_n (by omega), toI_n (by omega)] at c8
              have d1 : hT h a = 20 ∧ hT h b = 20 ∧ ¬ nI i < 0 ∧ ¬ nI j < 0 ∧ ¬ nI w < 0 ∧ ix (nI i) + ix (nI w) ≤ hN h a ∧ ix (nI j) + ix (nI w) ≤ hN h b := by
                rw [ix_n (by omega), ix_n (by omega), ix_n (by omega), g5, k5]
                exact ⟨g4, k4, pnI (by omega), pnI (by omega), pnI (by omega), by omega, by omega⟩
              have s1 : St [10] ow h (cpI h a i b j w) := (St.r I).gC (fun i => by rw [k7]; decide)
              have I1 := I.st o s1 (by decide)
              have m49 : ∀ z, hI (cpI h a i b j w) 49 z = hI h 49 z := fun z => by rw [hI_cpI, if_neg (by omega)]
              have e : hI (cpI h a i b j w) 48 r = nI n := by rw [hI_cpI, if_neg (by omega)]; exact g2
              have e' : hI (cpI h a i b j w) 48 q = nI m := by rw [hI_cpI, if_neg (by omega)]; exact k2
              have b8 : okA (cpI h a i b j w) 48 20 (nI r) = true := okA_n (fT48 I1) (fN48 I1) (by omega) (by decide)
              have b9 : okA (cpI h a i b j w) 48 20 (nI q) = true := okA_n (fT48 I1) (fN48 I1) (by omega) (by decide)
              have s2 : St [10, 101] ow h (fl (cpI h a i b j w) 50 0 w (fun k => hI (cpI h a i b j w) 49 (40 * r + i + k))) := (s1.sub (by decide)).wfl o 101 (by decide) (fun _ => rfl) (by decide)
              have I2 := I.st o s2 (by decide)
              have s3 : St [10, 101, 60] ow h (fl (fl (cpI h a i b j w) 50 0 w (fun k => hI (cpI h a i b j w) 49 (40 * r + i + k))) 49 (40 * q + j) w (fun k => hI (fl (cpI h a i b j w) 50 0 w (fun k => hI (cpI h a i b j w) 49 (40 * r + i + k))) 50 k)) := (s2.sub (by decide)).wfl o 60 (by decide) (fun _ => rfl) (by decide)
              refine ⟨1, cpI h a i b j w, _, ?_, ?_, ⟨ow, J.fin o s3 (OwX.refl _ _) (by decide) (c10 := fun _ => ?_)⟩, ?_, ?_⟩
              · simp only [x_isRow, if_pos c1, if_pos c3, bI_some, ite10, if_pos c5, fT5 I, if_true, lt_, fR5_0 I, nn, b1, b2, ix_n (show r < 2147483648 by omega), ix_n (show q < 2147483648 by omega), g3, k3, nl]
                rw [x_hasPlaces F (nI i) (nI w) g4 g5 g1 c6, bI_some, if_pos c7.1, ite10, x_hasPlaces F (nI j) (nI w) k4 k5 k1 c6, bI_some, if_pos c7.2, ite10, if_pos d1, ix_n (by omega), ix_n (by omega), ix_n (by omega)]
              · simp only [m_isRow, if_pos c1, if_pos c3, bI_some, ite10, if_pos c5, fT46 I1, if_true, lt_, fR46_7 I1, nn, b8, b9, ix_n (show r < 2147483648 by omega), ix_n (show q < 2147483648 by omega), e, e', if_neg (pnI (show n < 2147483648 by omega)), if_pos (nge (show m < 2147483648 by omega)), if_neg (pnI (show i < 2147483648 by omega)), if_neg (pnI (show j < 2147483648 by omega)), cmp_pos, cmp_le, sum64, Int32.toInt_toInt64, toI_n (show n < 2147483648 by omega), toI_n (show m < 2147483648 by omega)]
                rw [if_neg (by omega), if_pos (by omega), m_copy_L104 F I1 (by omega) (by omega) (by omega), m_copy_L141 F I2 (by omega) (by omega) (by omega)]
              · refine R.set I q (by omega) (n := m) (a := b) k1 (fun p d hp hpq hd => ?_) (fun p hp => ?_) (fun p hp => ?_) (fun p k hp hpq hk => ?_) k4 k5 k6 k7 (fun k hk => ?_)
                · have hne : d ≠ b := fun e => hpq (R.2 p q b hp (by omega) (by rw [hd, e]) k3)
                  rcases R.1 p hp with ⟨l1, l2⟩ | ⟨l, d', l1, l2, l3, l4, l5, l6, l7, l8⟩
                  · rw [l2] at hd; cases hd
                  · rw [l3] at hd; cases hd
                    refine ⟨hne, rfl, rfl, fun i => rfl, fun k => ?_⟩
                    rw [hI_fl, if_neg (by omega), hI_fl, if_neg (by omega), hI_cpI, if_neg (fun e => hne e.1)]
                · show hR h 6 p = _
                  split
                  · rename_i e; rw [e, k3]
                  · rfl
                · rw [hI_fl, if_neg (by omega), hI_fl, if_neg (by omega), hI_cpI, if_neg (by omega)]
                  split
                  · rename_i e; rw [e, k2]
                  · rfl
                · rw [hI_fl, if_neg (by omega), hI_fl, if_neg (by omega), m49]
                · rw [hI_fl, if_neg (by omega), hI_fl, if_neg (by omega), hI_cpI, hI_fl]
                  by_cases c9 : j ≤ k ∧ k < j + w
                  · rw [if_pos ⟨rfl, c9⟩, if_pos ⟨rfl, by omega, by omega⟩, hI_fl, if_pos ⟨rfl, by omega, by omega⟩, m49, g8 _ (by omega)]
                    exact congrArg (hI h 49) (by omega)
                  · rw [if_neg (fun e => c9 e.2), if_neg (by omega), hI_fl, if_neg (by omega), m49, k8 k hk]
              · show hZ h ≤ _; omega
              · show hS h ≤ _; omega
            · refine OkI.found0 (F := F) 2 (by decide) J ?_ (fun h' s => ?_)
              · show _ = c_X9_found F 5 2 h
                simp only [x_isRow, if_pos c1, if_pos c3, bI_some, ite10, if_pos c5, fT5 I, if_true, lt_, fR5_0 I, nn, b1, b2, ix_n (show r < 2147483648 by omega), ix_n (show q < 2147483648 by omega), g3, k3, nl, bI_id]
                rw [x_hasPlaces F x2 x5 g4 g5 g1 c6, bI_some]
                by_cases c8 : 0 ≤ x2.toInt ∧ x2.toInt + x5.toInt ≤ n
                · rw [if_pos c8, ite10, x_hasPlaces F x4 x5 k4 k5 k1 c6, bI_some, if_neg (fun e => c7 ⟨c8, e⟩), ite00, fT5 I, if_pos rfl]
                · rw [if_neg c8, ite00, fT5 I, if_pos rfl]
              · have I' := I.st o s (by decide)
                have e : hI h' 48 r = nI n := (s.fam I o (c := 60) (by decide) 48 r (by omega) rfl).1.trans g2
                have e' : hI h' 48 q = nI m := (s.fam I o (c := 60) (by decide) 48 q (by omega) rfl).1.trans k2
                exact m_copy_bad F x2 x4 x5 I' (by omega) (by omega) g1 k1 e e' c5 c7
      · refine OkI.found0 (F := F) 5 (by decide) J ?_ (fun h' s => ?_)
        · show _ = c_X9_found F 5 5 h
          simp only [x_isRow, if_pos c1, if_pos c3, bI_some, ite10, if_neg c5, fT5 I, if_true, bI_id]
        · have I' := I.st o s (by decide)
          show _ = c_X10_meets F 46 5 h'
          simp only [m_isRow, if_pos c1, if_pos c3, bI_some, ite10, if_neg c5, fT46 I', if_true, bI_id]
    · exact OkI.same (-1) ⟨ow, J⟩ (by simp only [x_isRow, if_pos c1, if_neg c3, bI_some, ite10, ite00, if_true]) (by simp only [m_isRow, if_pos c1, if_neg c3, bI_some, ite10, ite00, if_true])
  · exact OkI.same (-1) ⟨ow, J⟩ (by simp only [x_isRow, if_neg c1, bI_some, ite00, if_true]) (by simp only [m_isRow, if_neg c1, bI_some, ite00, if_true])
end Ops5
