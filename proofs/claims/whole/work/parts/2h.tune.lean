section OpsC
variable {h : z_Hp} (F : Nat) (x1 x2 x3 x4 x5 : Int32)
theorem rowAt.keep {c mx : Nat} {ow ow' : Ow} {h h' : z_Hp} {p p' : Option Nat} {sz sz' : Int32} {g g' : Nat → Int32} (R : rowAt c mx ow h p sz g) (hk : ∀ a, p = some a → hT h a = 20 → hT h' a = hT h a ∧ hN h' a = hN h a ∧ (∀ i, ow' a i = ow a i) ∧ ∀ k, hI h' a k = hI h a k) (e1 : p' = p) (e2 : sz' = sz) (e3 : ∀ k, k < mx → g' k = g k) : rowAt c mx ow' h' p' sz' g' := by
  subst e1; subst e2
  rcases R with ⟨h1, h2⟩ | ⟨n, a, h1, h2, h3, h4, h5, h6, h7, h8⟩
  · exact Or.inl ⟨h1, h2⟩
  · obtain ⟨k1, k2, k3, k4⟩ := hk a h3 h4
    exact Or.inr ⟨n, a, h1, h2, h3, k1.trans h4, k2.trans h5, h6, fun i => (k3 i).trans (h7 i), fun k hk => by rw [k4 k, h8 k hk, e3 k (by omega)]⟩

theorem op_tune (hF : 5000 ≤ F) (J : Inv h) : OkI h (c_X9_tune F 5 x1 x2 h) (c_X10_tune F 46 x1 x2) := by
  obtain ⟨ow, J⟩ := J
  have o := J.1
  have I := J.2.1
  have hz := I.2.2.1
  have R : Rrow ow h := J.2.2.2.2.2.2.2.1
  have Q : Rtun ow h := J.2.2.2.2.2.2.2.2.2.2.1
  unfold c_X9_tune c_X10_tune
  by_cases c1 : 0 ≤ x1.toInt ∧ x1.toInt ≤ 5
  · by_cases c2 : 0 ≤ x2.toInt ∧ x2.toInt ≤ 5
    · obtain ⟨u, hu, rfl⟩ := rng (x := x1) (n := 5) c1
      obtain ⟨r, hr, rfl⟩ := rng (x := x2) (n := 5) c2
      have b1 : okA h 6 23 (nI r) = true := okA_n (fT6 I) (fN6 I) (by omega) (by decide)
      rcases R.1 r (by omega) with ⟨g1, g2⟩ | ⟨n, a, g1, g2, g3, g4, g5, g6, g7, g8⟩
      · refine OkI.found0 (F := F) 1 (by decide) J ?_ (fun h' s => ?_)
        · show _ = c_X9_found F 5 1 h
          rw [x_isTune, bI_some, if_pos c1, ite10, x_isRow, bI_some, if_pos c2, ite10]
          simp only [fT5 I, fT6 I, fT7 I, fT8 I, fT9 I, fT10 I, fT11 I, fT12 I, fT13 I, fT14 I, fT15 I, fT16 I, fT17 I, fT18 I, fT19 I, fT20 I, fT21 I, fT22 I, fT23 I, fT24 I, fT25 I, fT26 I, fT27 I, fT28 I, fT29 I, fT30 I, fT31 I, fT32 I, fT33 I, fT34 I, fT35 I, fT36 I, fT37 I, fT38 I, fT39 I, fT40 I, fT41 I, fT42 I, fT43 I, fT44 I, fT45 I, fR5_0 I, fR5_1 I, fR5_2 I, fR5_3 I, fR5_5 I, fR5_6 I, fR5_7 I, fR5_8 I, fR5_9 I, fR5_10 I, fR5_11 I, fR5_13 I, fR10_0 I, fR10_1 I, fR10_2 I, fR14_0 I, fR16_0 I, fR16_1 I, fR20_0 I, fR20_1 I, fR20_2 I, fR20_3 I, fR20_4 I, fR20_5 I, fR20_6 I, fR28_0 I, fR28_1 I, fR28_2 I, fR28_3 I, fR28_4 I, fR34_0 I, fR34_1 I, fR34_2 I, fR34_3 I, fR39_0 I, fR39_1 I, fR39_2 I, fR39_3 I, fR39_4 I, if_true, lt_, nn, b1, ix_n (show r < 2147483648 by omega), g2, nl, bI_id]
        · have I' := I.st o s (by decide)
          have e : hI h' 48 r = -9 := (s.fam I o (c := 60) (by decide) 48 r (by omega) rfl).1.trans g1
          have b8 : okA h' 48 20 (nI r) = true := okA_n (fT48 I') (fN48 I') (by omega) (by decide)
          show _ = c_X10_meets F 46 1 h'
          rw [m_isTune, bI_some, if_pos c1, ite10, m_isRow, bI_some, if_pos c2, ite10]
          simp only [fT46 I', if_true, lt_, fR46_7 I', nn, b8, ix_n (show r < 2147483648 by omega), e, if_neg nn9, bI_id]
      · have b5 : okL h a = true := okL_n g4 (by decide) (by decide)
        have mon : ∀ h', Ifx h' → hI h' 48 r = nI n → okA h' 48 20 (nI r) = true := fun h' I' e => okA_n (fT48 I') (fN48 I') (by omega) (by decide)
        by_cases c3 : 1 ≤ n ∧ n ≤ 8
        · have aw : (∀ k, k < n → 0 ≤ (hI h a k).toInt ∧ (hI h a k).toInt ≤ (20 : Int32).toInt) ↔ ∀ k, k < n → 0 ≤ (hI h 49 (40 * r + k)).toInt ∧ (hI h 49 (40 * r + k)).toInt ≤ 20 :=
            ⟨fun g k hk => by have := g k hk; rw [g8 k hk, ti_20] at this; exact this, fun g k hk => by rw [g8 k hk, ti_20]; exact g k hk⟩
          by_cases c4 : ∀ k, k < n → 0 ≤ (hI h 49 (40 * r + k)).toInt ∧ (hI h 49 (40 * r + k)).toInt ≤ 20
          · have s1 : St [13] ow h (sR (cl_ h a) 9 u (some (hZ h))) := ((St.r I).gK).wR o 13 (by decide) rfl (by decide)
            have I1 := I.st o s1 (by decide)
            have bz : ∀ k, k < hZ h → hT (cl_ h a) k = hT h k := fun k hk => by rw [hT_cl, if_neg (by omega)]
            have bn : ∀ k, k < hZ h → hN (cl_ h a) k = hN h k := fun k hk => by rw [hN_cl, if_neg (by omega)]
            have ha := I.al g4 (by decide)
            have b6 : okA (cl_ h a) 9 23 (nI u) = true := okA_n (n := 6) (by rw [bz 9 (by omega)]; exact fT9 I) (by rw [bn 9 (by omega)]; exact fN9 I) (by omega) (by decide)
            have b7 : okS (cl_ h a) 23 (some (hZ h)) = true := by
              unfold okS
              simp [z_ct, hT_cl, g4]
            have b9 : okL (sR (cl_ h a) 9 u (some (hZ h))) a = true := okL_n (t := 20) (by rw [hT_sR, bz a ha]; exact g4) (by decide) (by decide)
            have e9 : hN (sR (cl_ h a) 9 u (some (hZ h))) a = n := by rw [hN_sR, bn a ha]; exact g5
            generalize hg1 : sR (cl_ h a) 9 u (some (hZ h)) = k1 at s1 I1 b9 e9
            have e48 : hI k1 48 r = nI n := (s1.fam I o (c := 60) (by decide) 48 r (by omega) rfl).1.trans g2
            have e49 : ∀ k, hI k1 49 k = hI h 49 k := fun k => (s1.fam I o (c := 60) (by decide) 49 k (by omega) rfl).1
            have c4' : ∀ k, k < n → 0 ≤ (hI k1 49 (40 * r + k)).toInt ∧ (hI k1 49 (40 * r + k)).toInt ≤ 20 := fun k hk => by rw [e49]; exact c4 k hk
            have d1 : okA k1 48 20 (nI r) = true := okA_n (fT48 I1) (fN48 I1) (by omega) (by decide)
            have d2 : okA k1 57 20 (nI u) = true := okA_n (fT57 I1) (fN57 I1) (by omega) (by decide)
            have s2 : St [13, 63] ow h (fl (sI k1 57 u (nI n)) 58 (8 * u) n (fun k => hI (sI k1 57 u (nI n)) 49 (40 * r + k))) := ((s1.sub (by decide)).wI o 63 (by decide) rfl (by decide)).wfl o 63 (by decide) (fun _ => rfl) (by decide)
            refine ⟨nI n, k1, fl (sI k1 57 u (nI n)) 58 (8 * u) n (fun k => hI (sI k1 57 u (nI n)) 49 (40 * r + k)), ?_, ?_, ⟨owN ow (hZ h) 13, J.fin (o.new hz) s2 (OwX.new _ _ _) (by decide) (c13 := fun _ => ?_)⟩, ?_, ?_⟩
            · rw [x_isTune, bI_some, if_pos c1, ite10, x_isRow, bI_some, if_pos c2, ite10]
              simp only [fT5 I, fT6 I, fT7 I, fT8 I, fT9 I, fT10 I, fT11 I, fT12 I, fT13 I, fT14 I, fT15 I, fT16 I, fT17 I, fT18 I, fT19 I, fT20 I, fT21 I, fT22 I, fT23 I, fT24 I, fT25 I, fT26 I, fT27 I, fT28 I, fT29 I, fT30 I, fT31 I, fT32 I, fT33 I, fT34 I, fT35 I, fT36 I, fT37 I, fT38 I, fT39 I, fT40 I, fT41 I, fT42 I, fT43 I, fT44 I, fT45 I, fR5_0 I, fR5_1 I, fR5_2 I, fR5_3 I, fR5_5 I, fR5_6 I, fR5_7 I, fR5_8 I, fR5_9 I, fR5_10 I, fR5_11 I, fR5_13 I, fR10_0 I, fR10_1 I, fR10_2 I, fR14_0 I, fR16_0 I, fR16_1 I, fR20_0 I, fR20_1 I, fR20_2 I, fR20_3 I, fR20_4 I, fR20_5 I, fR20_6 I, fR28_0 I, fR28_1 I, fR28_2 I, fR28_3 I, fR28_4 I, fR34_0 I, fR34_1 I, fR34_2 I, fR34_3 I, fR39_0 I, fR39_1 I, fR39_2 I, fR39_3 I, fR39_4 I, if_true, lt_, nn, b1, ix_n (show r < 2147483648 by omega), g3, nl, b5, g5, if_neg (nI_ne0 (show 0 < n by omega) (show n < 2 ^ 31 by omega)), if_pos (show nI n ≤ 8 from nI_le (b := 8) (by omega) (by decide)), x_allWithin F g4 g5 g1 hF, if_pos (aw.mpr c4), bI_some, ite10, x_copyOf F g4 g5, bR_some, b6, b7, and_self, ix_n (show u < 2147483648 by omega)]
              rw [hg1]
              simp only [b9, e9, if_true]
            · dsimp only
              rw [m_isTune, bI_some, if_pos c1, ite10, m_isRow, bI_some, if_pos c2, ite10]
              simp only [fT46 I1, if_true, lt_, fR46_7 I1, nn, d1, ix_n (show r < 2147483648 by omega), e48, if_pos (nge (show n < 2147483648 by omega)), m_in, ti_1, ti_8, toI_n (show n < 2147483648 by omega), if_pos (show (1 : Int) ≤ n ∧ (n : Int) ≤ 8 by omega), bI_some, ite10]
              rw [m_tune_L54 F I1 (by omega) e48 g1 (by omega), if_pos c4']
              simp only [fT46 I1, if_true, lt_, fR46_7 I1, fR46_17 I1, nn, d1, d2, ix_n (show r < 2147483648 by omega), ix_n (show u < 2147483648 by omega), e48]
              rw [m_tune_L110 F (I1.gI) (by omega) (by omega) (show hI (sI k1 57 u (nI n)) 48 r = nI n by rw [hI_sI, if_neg (by omega)]; exact e48) (by omega) (by omega)]
              rw [hI_sI, if_pos ⟨rfl, rfl⟩]
            · intro v hv
              have kk : ∀ b, b < hZ h → ∀ k, 94 ≤ b → hI (fl (sI k1 57 u (nI n)) 58 (8 * u) n (fun k => hI (sI k1 57 u (nI n)) 49 (40 * r + k))) b k = hI h b k := fun b hb k h94 => by
                rw [hI_fl, if_neg (by omega), hI_sI, if_neg (by omega), ← hg1, hI_sR, hI_cl, if_neg (by omega)]
              by_cases e : v = u
              · subst e
                have es : hI (fl (sI k1 57 v (nI n)) 58 (8 * v) n (fun k => hI (sI k1 57 v (nI n)) 49 (40 * r + k))) 57 v = nI n := by rw [hI_fl, if_neg (by omega), hI_sI, if_pos ⟨rfl, rfl⟩]
                have ed : ∀ k, k < n → hI (fl (sI k1 57 v (nI n)) 58 (8 * v) n (fun k => hI (sI k1 57 v (nI n)) 49 (40 * r + k))) 58 (8 * v + k) = hI h 49 (40 * r + k) := fun k hk => by
                  rw [hI_fl, if_pos ⟨rfl, by omega, by omega⟩, hI_sI, if_neg (by omega), e49]
                  exact congrArg (hI h 49) (by omega)
                refine ⟨Or.inr ⟨n, hZ h, by omega, es, ?_, ?_, ?_, hz, fun i => if_pos (Nat.le_refl _), fun k hk => ?_⟩, ?_⟩
                · show hR k1 9 v = _; rw [← hg1, hR_sR, if_pos ⟨rfl, rfl⟩]
                · show hT k1 (hZ h) = _; rw [← hg1, hT_sR, hT_cl, if_pos rfl]; exact g4
                · show hN k1 (hZ h) = _; rw [← hg1, hN_sR, hN_cl, if_pos rfl]; exact g5
                · refine Eq.trans ?_ (ed k hk).symm
                  rw [hI_fl, if_neg (by omega), hI_sI, if_neg (by omega), ← hg1, hI_sR, hI_cl, if_pos rfl]; exact g8 k hk
                · rw [es]; exact nI_ne0 (by omega) (by omega)
              · have es : hI (fl (sI k1 57 u (nI n)) 58 (8 * u) n (fun k => hI (sI k1 57 u (nI n)) 49 (40 * r + k))) 57 v = hI h 57 v := by
                  rw [hI_fl, if_neg (by omega), hI_sI, if_neg (by omega)]
                  exact (s1.fam I o (c := 63) (by decide) 57 v (by omega) rfl).1
                have ed : ∀ k, k < 8 → hI (fl (sI k1 57 u (nI n)) 58 (8 * u) n (fun k => hI (sI k1 57 u (nI n)) 49 (40 * r + k))) 58 (8 * v + k) = hI h 58 (8 * v + k) := fun k hk => by
                  rw [hI_fl, if_neg (by omega), hI_sI, if_neg (by omega)]
                  exact (s1.fam I o (c := 63) (by decide) 58 _ (by omega) rfl).1
                refine ⟨(Q v hv).1.keep (fun b hb hb2 => ?_) ?_ es ed, ?_⟩
                · have hlt := I.al hb2 (by decide)
                  have h94 : 94 ≤ b := by
                    rcases (Q v hv).1 with ⟨-, q2⟩ | ⟨n', a', q1, q2, q3, q4, q5, q6, q7, q8⟩
                    · rw [q2] at hb; cases hb
                    · rw [q3] at hb; cases hb; exact q6
                  have := s1.2.1 b hlt
                  exact ⟨this.1, this.2, fun i => if_neg (by omega), fun k => kk b hlt k h94⟩
                · show hR k1 9 v = _; rw [← hg1, hR_sR, if_neg (by omega), hR_cl, if_neg (by omega)]
                · rw [es]; exact (Q v hv).2
            · show hZ k1 ≤ _; rw [← hg1]; show hZ h + 1 ≤ _; omega
            · show hS k1 ≤ _; rw [← hg1]; show hS h + hN h a ≤ _; omega
          · refine OkI.found0 (F := F) 3 (by decide) J ?_ (fun h' s => ?_)
            · show _ = c_X9_found F 5 3 h
              rw [x_isTune, bI_some, if_pos c1, ite10, x_isRow, bI_some, if_pos c2, ite10]
              simp only [fT5 I, fT6 I, fT7 I, fT8 I, fT9 I, fT10 I, fT11 I, fT12 I, fT13 I, fT14 I, fT15 I, fT16 I, fT17 I, fT18 I, fT19 I, fT20 I, fT21 I, fT22 I, fT23 I, fT24 I, fT25 I, fT26 I, fT27 I, fT28 I, fT29 I, fT30 I, fT31 I, fT32 I, fT33 I, fT34 I, fT35 I, fT36 I, fT37 I, fT38 I, fT39 I, fT40 I, fT41 I, fT42 I, fT43 I, fT44 I, fT45 I, fR5_0 I, fR5_1 I, fR5_2 I, fR5_3 I, fR5_5 I, fR5_6 I, fR5_7 I, fR5_8 I, fR5_9 I, fR5_10 I, fR5_11 I, fR5_13 I, fR10_0 I, fR10_1 I, fR10_2 I, fR14_0 I, fR16_0 I, fR16_1 I, fR20_0 I, fR20_1 I, fR20_2 I, fR20_3 I, fR20_4 I, fR20_5 I, fR20_6 I, fR28_0 I, fR28_1 I, fR28_2 I, fR28_3 I, fR28_4 I, fR34_0 I, fR34_1 I, fR34_2 I, fR34_3 I, fR39_0 I, fR39_1 I, fR39_2 I, fR39_3 I, fR39_4 I, if_true, lt_, nn, b1, ix_n (show r < 2147483648 by omega), g3, nl, b5, g5, if_neg (nI_ne0 (show 0 < n by omega) (show n < 2 ^ 31 by omega)), if_pos (show nI n ≤ 8 from nI_le (b := 8) (by omega) (by decide)), x_allWithin F g4 g5 g1 hF, if_neg (fun g => c4 (aw.mp g)), bI_some, ite00, if_true, bI_id]
            · have I' := I.st o s (by decide)
              have e : hI h' 48 r = nI n := (s.fam I o (c := 60) (by decide) 48 r (by omega) rfl).1.trans g2
              have e49 : ∀ k, hI h' 49 k = hI h 49 k := fun k => (s.fam I o (c := 60) (by decide) 49 k (by omega) rfl).1
              have b8 := mon h' I' e
              show _ = c_X10_meets F 46 3 h'
              rw [m_isTune, bI_some, if_pos c1, ite10, m_isRow, bI_some, if_pos c2, ite10]
              simp only [fT46 I', if_true, lt_, fR46_7 I', nn, b8, ix_n (show r < 2147483648 by omega), e, if_pos (nge (show n < 2147483648 by omega)), m_in, ti_1, ti_8, toI_n (show n < 2147483648 by omega), if_pos (show (1 : Int) ≤ n ∧ (n : Int) ≤ 8 by omega), bI_some, ite10]
              rw [m_tune_L54 F I' (by omega) e g1 (by omega), if_neg (fun g => c4 (fun k hk => by have := g k hk; rw [e49] at this; exact this))]
              simp only [fT46 I', if_true, bI_id]
        · refine OkI.found0 (F := F) 5 (by decide) J ?_ (fun h' s => ?_)
          · show _ = c_X9_found F 5 5 h
            rw [x_isTune, bI_some, if_pos c1, ite10, x_isRow, bI_some, if_pos c2, ite10]
            simp only [fT5 I, fT6 I, fT7 I, fT8 I, fT9 I, fT10 I, fT11 I, fT12 I, fT13 I, fT14 I, fT15 I, fT16 I, fT17 I, fT18 I, fT19 I, fT20 I, fT21 I, fT22 I, fT23 I, fT24 I, fT25 I, fT26 I, fT27 I, fT28 I, fT29 I, fT30 I, fT31 I, fT32 I, fT33 I, fT34 I, fT35 I, fT36 I, fT37 I, fT38 I, fT39 I, fT40 I, fT41 I, fT42 I, fT43 I, fT44 I, fT45 I, fR5_0 I, fR5_1 I, fR5_2 I, fR5_3 I, fR5_5 I, fR5_6 I, fR5_7 I, fR5_8 I, fR5_9 I, fR5_10 I, fR5_11 I, fR5_13 I, fR10_0 I, fR10_1 I, fR10_2 I, fR14_0 I, fR16_0 I, fR16_1 I, fR20_0 I, fR20_1 I, fR20_2 I, fR20_3 I, fR20_4 I, fR20_5 I, fR20_6 I, fR28_0 I, fR28_1 I, fR28_2 I, fR28_3 I, fR28_4 I, fR34_0 I, fR34_1 I, fR34_2 I, fR34_3 I, fR39_0 I, fR39_1 I, fR39_2 I, fR39_3 I, fR39_4 I, if_true, lt_, nn, b1, ix_n (show r < 2147483648 by omega), g3, nl, b5, g5, bI_id]
            by_cases e0 : nI n = 0
            · rw [if_pos e0]
            · rw [if_neg e0, if_neg (show ¬ nI n ≤ 8 from nI_ge (a := 8) (by have : n ≠ 0 := fun e => e0 (by rw [e]; rfl); omega) (by omega))]
          · have I' := I.st o s (by decide)
            have e : hI h' 48 r = nI n := (s.fam I o (c := 60) (by decide) 48 r (by omega) rfl).1.trans g2
            have b8 := mon h' I' e
            show _ = c_X10_meets F 46 5 h'
            rw [m_isTune, bI_some, if_pos c1, ite10, m_isRow, bI_some, if_pos c2, ite10]
            simp only [fT46 I', if_true, lt_, fR46_7 I', nn, b8, ix_n (show r < 2147483648 by omega), e, if_pos (nge (show n < 2147483648 by omega)), m_in, ti_1, ti_8, toI_n (show n < 2147483648 by omega), if_neg (show ¬ ((1 : Int) ≤ n ∧ (n : Int) ≤ 8) by omega), bI_some, ite00, if_true, bI_id]
    · exact OkI.same (-1) ⟨ow, J⟩ (by rw [x_isTune, bI_some, if_pos c1, ite10, x_isRow, bI_some, if_neg c2, ite00]) (by rw [m_isTune, bI_some, if_pos c1, ite10, m_isRow, bI_some, if_neg c2, ite00])
  · exact OkI.same (-1) ⟨ow, J⟩ (by rw [x_isTune, bI_some, if_neg c1, ite00]) (by rw [m_isTune, bI_some, if_neg c1, ite00])

theorem op_walk (hF : 5000 ≤ F) (J : Inv h) : OkI h (c_X9_walk F 5 x1 x2 h) (c_X10_walk F 46 x1 x2) := by
  obtain ⟨ow, J⟩ := J
  have o := J.1
  have I := J.2.1
  have hz := I.2.2.1
  have R : Rrow ow h := J.2.2.2.2.2.2.2.1
  have Q : Rwlk ow h := J.2.2.2.2.2.2.2.2.2.2.2.2.2.2.2.1
  unfold c_X9_walk c_X10_walk
  by_cases c1 : 0 ≤ x1.toInt ∧ x1.toInt ≤ 3
  · by_cases c2 : 0 ≤ x2.toInt ∧ x2.toInt ≤ 5
    · obtain ⟨u, hu, rfl⟩ := rng (x := x1) (n := 3) c1
      obtain ⟨r, hr, rfl⟩ := rng (x := x2) (n := 5) c2
      have b1 : okA h 6 23 (nI r) = true := okA_n (fT6 I) (fN6 I) (by omega) (by decide)
      rcases R.1 r (by omega) with ⟨g1, g2⟩ | ⟨n, a, g1, g2, g3, g4, g5, g6, g7, g8⟩
      · refine OkI.found0 (F := F) 1 (by decide) J ?_ (fun h' s => ?_)
        · show _ = c_X9_found F 5 1 h
          rw [x_isSeller, bI_some, if_pos c1, ite10, x_isRow, bI_some, if_pos c2, ite10]
          simp only [fT5 I, fT6 I, fT7 I, fT8 I, fT9 I, fT10 I, fT11 I, fT12 I, fT13 I, fT14 I, fT15 I, fT16 I, fT17 I, fT18 I, fT19 I, fT20 I, fT21 I, fT22 I, fT23 I, fT24 I, fT25 I, fT26 I, fT27 I, fT28 I, fT29 I, fT30 I, fT31 I, fT32 I, fT33 I, fT34 I, fT35 I, fT36 I, fT37 I, fT38 I, fT39 I, fT40 I, fT41 I, fT42 I, fT43 I, fT44 I, fT45 I, fR5_0 I, fR5_1 I, fR5_2 I, fR5_3 I, fR5_5 I, fR5_6 I, fR5_7 I, fR5_8 I, fR5_9 I, fR5_10 I, fR5_11 I, fR5_13 I, fR10_0 I, fR10_1 I, fR10_2 I, fR14_0 I, fR16_0 I, fR16_1 I, fR20_0 I, fR20_1 I, fR20_2 I, fR20_3 I, fR20_4 I, fR20_5 I, fR20_6 I, fR28_0 I, fR28_1 I, fR28_2 I, fR28_3 I, fR28_4 I, fR34_0 I, fR34_1 I, fR34_2 I, fR34_3 I, fR39_0 I, fR39_1 I, fR39_2 I, fR39_3 I, fR39_4 I, if_true, lt_, nn, b1, ix_n (show r < 2147483648 by omega), g2, nl, bI_id]
        · have I' := I.st o s (by decide)
          have e : hI h' 48 r = -9 := (s.fam I o (c := 60) (by decide) 48 r (by omega) rfl).1.trans g1
          have b8 : okA h' 48 20 (nI r) = true := okA_n (fT48 I') (fN48 I') (by omega) (by decide)
          show _ = c_X10_meets F 46 1 h'
          rw [m_isSeller, bI_some, if_pos c1, ite10, m_isRow, bI_some, if_pos c2, ite10]
          simp only [fT46 I', if_true, lt_, fR46_7 I', nn, b8, ix_n (show r < 2147483648 by omega), e, if_neg nn9, bI_id]
      · have b5 : okL h a = true := okL_n g4 (by decide) (by decide)
        have mon : ∀ h', Ifx h' → hI h' 48 r = nI n → okA h' 48 20 (nI r) = true := fun h' I' e => okA_n (fT48 I') (fN48 I') (by omega) (by decide)
        by_cases c3 : 1 ≤ n
        · have aw : (∀ k, k < n → 0 ≤ (hI h a k).toInt ∧ (hI h a k).toInt ≤ (9 : Int32).toInt) ↔ ∀ k, k < n → 0 ≤ (hI h 49 (40 * r + k)).toInt ∧ (hI h 49 (40 * r + k)).toInt ≤ 9 :=
            ⟨fun g k hk => by have := g k hk; rw [g8 k hk, ti_9] at this; exact this, fun g k hk => by rw [g8 k hk, ti_9]; exact g k hk⟩
          by_cases c4 : ∀ k, k < n → 0 ≤ (hI h 49 (40 * r + k)).toInt ∧ (hI h 49 (40 * r + k)).toInt ≤ 9
          · have s1 : St [18] ow h (sR (cl_ h a) 40 u (some (hZ h))) := ((St.r I).gK).wR o 18 (by decide) rfl (by decide)
            have I1 := I.st o s1 (by decide)
            have bz : ∀ k, k < hZ h → hT (cl_ h a) k = hT h k := fun k hk => by rw [hT_cl, if_neg (by omega)]
            have bn : ∀ k, k < hZ h → hN (cl_ h a) k = hN h k := fun k hk => by rw [hN_cl, if_neg (by omega)]
            have ha := I.al g4 (by decide)
            have b6 : okA (cl_ h a) 40 23 (nI u) = true := okA_n (n := 4) (by rw [bz 40 (by omega)]; exact fT40 I) (by rw [bn 40 (by omega)]; exact fN40 I) (by omega) (by decide)
            have b7 : okS (cl_ h a) 23 (some (hZ h)) = true := by
              unfold okS
              simp [z_ct, hT_cl, g4]
            have b9 : okL (sR (cl_ h a) 40 u (some (hZ h))) a = true := okL_n (t := 20) (by rw [hT_sR, bz a ha]; exact g4) (by decide) (by decide)
            have e9 : hN (sR (cl_ h a) 40 u (some (hZ h))) a = n := by rw [hN_sR, bn a ha]; exact g5
            generalize hg1 : sR (cl_ h a) 40 u (some (hZ h)) = k1 at s1 I1 b9 e9
            have e48 : hI k1 48 r = nI n := (s1.fam I o (c := 60) (by decide) 48 r (by omega) rfl).1.trans g2
            have e49 : ∀ k, hI k1 49 k = hI h 49 k := fun k => (s1.fam I o (c := 60) (by decide) 49 k (by omega) rfl).1
            have c4' : ∀ k, k < n → 0 ≤ (hI k1 49 (40 * r + k)).toInt ∧ (hI k1 49 (40 * r + k)).toInt ≤ 9 := fun k hk => by rw [e49]; exact c4 k hk
            have d1 : okA k1 48 20 (nI r) = true := okA_n (fT48 I1) (fN48 I1) (by omega) (by decide)
            have d2 : okA k1 89 20 (nI u) = true := okA_n (fT89 I1) (fN89 I1) (by omega) (by decide)
            have s2 : St [18, 68] ow h (fl (sI k1 89 u (nI n)) 90 (40 * u) n (fun k => hI (sI k1 89 u (nI n)) 49 (40 * r + k))) := ((s1.sub (by decide)).wI o 68 (by decide) rfl (by decide)).wfl o 68 (by decide) (fun _ => rfl) (by decide)
            refine ⟨nI n, k1, fl (sI k1 89 u (nI n)) 90 (40 * u) n (fun k => hI (sI k1 89 u (nI n)) 49 (40 * r + k)), ?_, ?_, ⟨owN ow (hZ h) 18, J.fin (o.new hz) s2 (OwX.new _ _ _) (by decide) (c18 := fun _ => ?_)⟩, ?_, ?_⟩
            · rw [x_isSeller, bI_some, if_pos c1, ite10, x_isRow, bI_some, if_pos c2, ite10]
              simp only [fT5 I, fT6 I, fT7 I, fT8 I, fT9 I, fT10 I, fT11 I, fT12 I, fT13 I, fT14 I, fT15 I, fT16 I, fT17 I, fT18 I, fT19 I, fT20 I, fT21 I, fT22 I, fT23 I, fT24 I, fT25 I, fT26 I, fT27 I, fT28 I, fT29 I, fT30 I, fT31 I, fT32 I, fT33 I, fT34 I, fT35 I, fT36 I, fT37 I, fT38 I, fT39 I, fT40 I, fT41 I, fT42 I, fT43 I, fT44 I, fT45 I, fR5_0 I, fR5_1 I, fR5_2 I, fR5_3 I, fR5_5 I, fR5_6 I, fR5_7 I, fR5_8 I, fR5_9 I, fR5_10 I, fR5_11 I, fR5_13 I, fR10_0 I, fR10_1 I, fR10_2 I, fR14_0 I, fR16_0 I, fR16_1 I, fR20_0 I, fR20_1 I, fR20_2 I, fR20_3 I, fR20_4 I, fR20_5 I, fR20_6 I, fR28_0 I, fR28_1 I, fR28_2 I, fR28_3 I, fR28_4 I, fR34_0 I, fR34_1 I, fR34_2 I, fR34_3 I, fR39_0 I, fR39_1 I, fR39_2 I, fR39_3 I, fR39_4 I, if_true, lt_, nn, b1, ix_n (show r < 2147483648 by omega), g3, nl, b5, g5, if_neg (nI_ne0 (show 0 < n by omega) (show n < 2 ^ 31 by omega)), x_allWithin F g4 g5 g1 hF, if_pos (aw.mpr c4), bI_some, ite10, x_copyOf F g4 g5, bR_some, b6, b7, and_self, ix_n (show u < 2147483648 by omega)]
              rw [hg1]
              simp only [b9, e9, if_true]
            · dsimp only
              rw [m_isSeller, bI_some, if_pos c1, ite10, m_isRow, bI_some, if_pos c2, ite10]
              simp only [fT46 I1, if_true, lt_, fR46_7 I1, nn, d1, ix_n (show r < 2147483648 by omega), e48, if_pos (nge (show n < 2147483648 by omega)), if_neg (nI_ne0 (show 0 < n by omega) (show n < 2 ^ 31 by omega))]
              rw [m_walk_L48 F I1 (by omega) e48 g1 (by omega), if_pos c4']
              simp only [fT46 I1, if_true, lt_, fR46_7 I1, fR46_53 I1, nn, d1, d2, ix_n (show r < 2147483648 by omega), ix_n (show u < 2147483648 by omega), e48]
              rw [m_walk_L101 F (I1.gI) (by omega) (by omega) (show hI (sI k1 89 u (nI n)) 48 r = nI n by rw [hI_sI, if_neg (by omega)]; exact e48) (by omega) (by omega)]
            · intro v hv
              have kk : ∀ b, b < hZ h → ∀ k, 94 ≤ b → hI (fl (sI k1 89 u (nI n)) 90 (40 * u) n (fun k => hI (sI k1 89 u (nI n)) 49 (40 * r + k))) b k = hI h b k := fun b hb k h94 => by
                rw [hI_fl, if_neg (by omega), hI_sI, if_neg (by omega), ← hg1, hI_sR, hI_cl, if_neg (by omega)]
              by_cases e : v = u
              · subst e
                have es : hI (fl (sI k1 89 v (nI n)) 90 (40 * v) n (fun k => hI (sI k1 89 v (nI n)) 49 (40 * r + k))) 89 v = nI n := by rw [hI_fl, if_neg (by omega), hI_sI, if_pos ⟨rfl, rfl⟩]
                have ed : ∀ k, k < n → hI (fl (sI k1 89 v (nI n)) 90 (40 * v) n (fun k => hI (sI k1 89 v (nI n)) 49 (40 * r + k))) 90 (40 * v + k) = hI h 49 (40 * r + k) := fun k hk => by
                  rw [hI_fl, if_pos ⟨rfl, by omega, by omega⟩, hI_sI, if_neg (by omega), e49]
                  exact congrArg (hI h 49) (by omega)
                refine ⟨Or.inr ⟨n, hZ h, g1, es, ?_, ?_, ?_, hz, fun i => if_pos (Nat.le_refl _), fun k hk => ?_⟩, ?_, ?_⟩
                · show hR k1 40 v = _; rw [← hg1, hR_sR, if_pos ⟨rfl, rfl⟩]
                · show hT k1 (hZ h) = _; rw [← hg1, hT_sR, hT_cl, if_pos rfl]; exact g4
                · show hN k1 (hZ h) = _; rw [← hg1, hN_sR, hN_cl, if_pos rfl]; exact g5
                · refine Eq.trans ?_ (ed k hk).symm
                  rw [hI_fl, if_neg (by omega), hI_sI, if_neg (by omega), ← hg1, hI_sR, hI_cl, if_pos rfl]; exact g8 k hk
                · rw [es]; exact nI_ne0 (by omega) (by omega)
                · intro k n' h6 h7 h8
                  rw [es, nI_eq (by omega) (by omega)] at h6
                  subst h6
                  rw [ed k h8]
                  obtain ⟨p, hp, e⟩ := rng (x := hI h 49 (40 * r + k)) (n := 9) (c4 k h8)
                  exact ⟨p, by omega, e⟩
              · have es : hI (fl (sI k1 89 u (nI n)) 90 (40 * u) n (fun k => hI (sI k1 89 u (nI n)) 49 (40 * r + k))) 89 v = hI h 89 v := by
                  rw [hI_fl, if_neg (by omega), hI_sI, if_neg (by omega)]
                  exact (s1.fam I o (c := 68) (by decide) 89 v (by omega) rfl).1
                have ed : ∀ k, k < 40 → hI (fl (sI k1 89 u (nI n)) 90 (40 * u) n (fun k => hI (sI k1 89 u (nI n)) 49 (40 * r + k))) 90 (40 * v + k) = hI h 90 (40 * v + k) := fun k hk => by
                  rw [hI_fl, if_neg (by omega), hI_sI, if_neg (by omega)]
                  exact (s1.fam I o (c := 68) (by decide) 90 _ (by omega) rfl).1
                refine ⟨(Q v hv).1.keep (fun b hb hb2 => ?_) ?_ es ed, ?_, ?_⟩
                · have hlt := I.al hb2 (by decide)
                  have h94 : 94 ≤ b := by
                    rcases (Q v hv).1 with ⟨-, q2⟩ | ⟨n', a', q1, q2, q3, q4, q5, q6, q7, q8⟩
                    · rw [q2] at hb; cases hb
                    · rw [q3] at hb; cases hb; exact q6
                  have := s1.2.1 b hlt
                  exact ⟨this.1, this.2, fun i => if_neg (by omega), fun k => kk b hlt k h94⟩
                · show hR k1 40 v = _; rw [← hg1, hR_sR, if_neg (by omega), hR_cl, if_neg (by omega)]
                · rw [es]; exact (Q v hv).2.1
                · intro k n' h6 h7 h8
                  rw [es] at h6
                  rw [ed k (by omega)]
                  exact (Q v hv).2.2 k n' h6 h7 h8
            · show hZ k1 ≤ _; rw [← hg1]; show hZ h + 1 ≤ _; omega
            · show hS k1 ≤ _; rw [← hg1]; show hS h + hN h a ≤ _; omega
          · refine OkI.found0 (F := F) 3 (by decide) J ?_ (fun h' s => ?_)
            · show _ = c_X9_found F 5 3 h
              rw [x_isSeller, bI_some, if_pos c1, ite10, x_isRow, bI_some, if_pos c2, ite10]
              simp only [fT5 I, fT6 I, fT7 I, fT8 I, fT9 I, fT10 I, fT11 I, fT12 I, fT13 I, fT14 I, fT15 I, fT16 I, fT17 I, fT18 I, fT19 I, fT20 I, fT21 I, fT22 I, fT23 I, fT24 I, fT25 I, fT26 I, fT27 I, fT28 I, fT29 I, fT30 I, fT31 I, fT32 I, fT33 I, fT34 I, fT35 I, fT36 I, fT37 I, fT38 I, fT39 I, fT40 I, fT41 I, fT42 I, fT43 I, fT44 I, fT45 I, fR5_0 I, fR5_1 I, fR5_2 I, fR5_3 I, fR5_5 I, fR5_6 I, fR5_7 I, fR5_8 I, fR5_9 I, fR5_10 I, fR5_11 I, fR5_13 I, fR10_0 I, fR10_1 I, fR10_2 I, fR14_0 I, fR16_0 I, fR16_1 I, fR20_0 I, fR20_1 I, fR20_2 I, fR20_3 I, fR20_4 I, fR20_5 I, fR20_6 I, fR28_0 I, fR28_1 I, fR28_2 I, fR28_3 I, fR28_4 I, fR34_0 I, fR34_1 I, fR34_2 I, fR34_3 I, fR39_0 I, fR39_1 I, fR39_2 I, fR39_3 I, fR39_4 I, if_true, lt_, nn, b1, ix_n (show r < 2147483648 by omega), g3, nl, b5, g5, if_neg (nI_ne0 (show 0 < n by omega) (show n < 2 ^ 31 by omega)), x_allWithin F g4 g5 g1 hF, if_neg (fun g => c4 (aw.mp g)), bI_some, ite00, if_true, bI_id]
            · have I' := I.st o s (by decide)
              have e : hI h' 48 r = nI n := (s.fam I o (c := 60) (by decide) 48 r (by omega) rfl).1.trans g2
              have e49 : ∀ k, hI h' 49 k = hI h 49 k := fun k => (s.fam I o (c := 60) (by decide) 49 k (by omega) rfl).1
              have b8 := mon h' I' e
              show _ = c_X10_meets F 46 3 h'
              rw [m_isSeller, bI_some, if_pos c1, ite10, m_isRow, bI_some, if_pos c2, ite10]
              simp only [fT46 I', if_true, lt_, fR46_7 I', nn, b8, ix_n (show r < 2147483648 by omega), e, if_pos (nge (show n < 2147483648 by omega)), if_neg (nI_ne0 (show 0 < n by omega) (show n < 2 ^ 31 by omega))]
              rw [m_walk_L48 F I' (by omega) e g1 (by omega), if_neg (fun g => c4 (fun k hk => by have := g k hk; rw [e49] at this; exact this))]
              simp only [fT46 I', if_true, bI_id]
        · refine OkI.found0 (F := F) 5 (by decide) J ?_ (fun h' s => ?_)
          · show _ = c_X9_found F 5 5 h
            rw [x_isSeller, bI_some, if_pos c1, ite10, x_isRow, bI_some, if_pos c2, ite10]
            simp only [fT5 I, fT6 I, fT7 I, fT8 I, fT9 I, fT10 I, fT11 I, fT12 I, fT13 I, fT14 I, fT15 I, fT16 I, fT17 I, fT18 I, fT19 I, fT20 I, fT21 I, fT22 I, fT23 I, fT24 I, fT25 I, fT26 I, fT27 I, fT28 I, fT29 I, fT30 I, fT31 I, fT32 I, fT33 I, fT34 I, fT35 I, fT36 I, fT37 I, fT38 I, fT39 I, fT40 I, fT41 I, fT42 I, fT43 I, fT44 I, fT45 I, fR5_0 I, fR5_1 I, fR5_2 I, fR5_3 I, fR5_5 I, fR5_6 I, fR5_7 I, fR5_8 I, fR5_9 I, fR5_10 I, fR5_11 I, fR5_13 I, fR10_0 I, fR10_1 I, fR10_2 I, fR14_0 I, fR16_0 I, fR16_1 I, fR20_0 I, fR20_1 I, fR20_2 I, fR20_3 I, fR20_4 I, fR20_5 I, fR20_6 I, fR28_0 I, fR28_1 I, fR28_2 I, fR28_3 I, fR28_4 I, fR34_0 I, fR34_1 I, fR34_2 I, fR34_3 I, fR39_0 I, fR39_1 I, fR39_2 I, fR39_3 I, fR39_4 I, if_true, lt_, nn, b1, ix_n (show r < 2147483648 by omega), g3, nl, b5, g5, bI_id]
            rw [if_pos (show nI n = 0 by rw [show n = 0 by omega]; rfl)]
          · have I' := I.st o s (by decide)
            have e : hI h' 48 r = nI n := (s.fam I o (c := 60) (by decide) 48 r (by omega) rfl).1.trans g2
            have b8 := mon h' I' e
            show _ = c_X10_meets F 46 5 h'
            rw [m_isSeller, bI_some, if_pos c1, ite10, m_isRow, bI_some, if_pos c2, ite10]
            simp only [fT46 I', if_true, lt_, fR46_7 I', nn, b8, ix_n (show r < 2147483648 by omega), e, if_pos (nge (show n < 2147483648 by omega)), show nI n = 0 from by rw [show n = 0 by omega]; rfl, if_true, if_pos (show (0 : Int32) ≤ 0 by decide), bI_id]
    · exact OkI.same (-1) ⟨ow, J⟩ (by rw [x_isSeller, bI_some, if_pos c1, ite10, x_isRow, bI_some, if_neg c2, ite00]) (by rw [m_isSeller, bI_some, if_pos c1, ite10, m_isRow, bI_some, if_neg c2, ite00])
  · exact OkI.same (-1) ⟨ow, J⟩ (by rw [x_isSeller, bI_some, if_neg c1, ite00]) (by rw [m_isSeller, bI_some, if_neg c1, ite00])

end OpsC
