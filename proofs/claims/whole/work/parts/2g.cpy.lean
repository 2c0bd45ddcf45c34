section OpsB
variable {h : z_Hp} (F : Nat) (x1 x2 x3 x4 x5 : Int32)
theorem St.gK {fs : List Nat} {ow : Ow} {h h1 : z_Hp} (s : St fs ow h h1) {a : Nat} : St fs ow h (cl_ h1 a) := by
  have z := s.1
  refine ⟨Nat.le_trans s.1 (Nat.le_succ _), fun b hb => ?_, fun b j hb hn => ?_, fun b hb => ?_⟩
  · rw [hT_cl, hN_cl, if_neg (by omega), if_neg (by omega)]
    exact s.2.1 b hb
  · rw [hI_cl, hJ_cl, hR_cl, if_neg (by omega), if_neg (by omega), if_neg (by omega)]
    exact s.2.2.1 b j hb hn
  · rw [hZ_cl] at hb
    rw [hT_cl, if_neg (by omega)]
    exact s.2.2.2 b (by omega)
theorem x_copyOf {a n : Nat} (t1 : hT h a = 20) (t2 : hN h a = n) : c_J7_copyOf_59c91 F (some a) (nI n) h = some (some (hZ h), cl_ h a) := by
  unfold c_J7_copyOf_59c91
  have b1 : okL h a = true := okL_n t1 (by decide) (by decide)
  simp only [nn, b1, if_true, t2, t1, clo, hT_cl]
theorem x_allWithin {a n : Nat} (t1 : hT h a = 20) (t2 : hN h a = n) (hn : n ≤ 40) (hF : 5000 ≤ F) (v : Int32) : c_X9_allWithin F (some a) v h = some (if ∀ k, k < n → 0 ≤ (hI h a k).toInt ∧ (hI h a k).toInt ≤ v.toInt then 1 else 0, h) := by
  have b1 : okL h a = true := okL_n t1 (by decide) (by decide)
  have step : ∀ m k, k < n → 0 ≤ (hI h a k).toInt ∧ (hI h a k).toInt ≤ v.toInt → c_X9_allWithin_L2 F (some a) v (m + 1) (nI k) h = c_X9_allWithin_L2 F (some a) v m (nI (k + 1)) h := by
    intro m k hk g
    have b2 : okA h a 20 (nI k) = true := okA_n t1 t2 hk (by omega)
    have d1 : ¬ hI h a k < 0 := by rw [fa_lt, ti_0]; omega
    have d2 : hI h a k ≤ v := by rw [fa_le]; omega
    rw [c_X9_allWithin_L2]
    simp only [nn, b1, if_true, t2, if_neg (nI_ge hk (show n < 2 ^ 31 by omega)), b2, ix_n (show k < 2147483648 by omega), if_neg d1, if_pos d2, lt_, nI_1]
  unfold c_X9_allWithin
  by_cases c : ∀ k, k < n → 0 ≤ (hI h a k).toInt ∧ (hI h a k).toInt ≤ v.toInt
  · rw [if_pos c]
    refine lpS (L := fun m (s : Int32) => c_X9_allWithin_L2 F (some a) v m s h) (fun k => nI k) n (fun m k hk => step m k hk (c k hk)) (fun m => ?_) F (by omega)
    show c_X9_allWithin_L2 F (some a) v (m + 1) (nI n) h = _
    rw [c_X9_allWithin_L2]
    simp only [nn, b1, if_true, t2, if_pos (nI_le (Nat.le_refl n) (show n < 2 ^ 31 by omega))]
  · rw [if_neg c]
    have c' : ∃ i, i < n ∧ ¬ (0 ≤ (hI h a i).toInt ∧ (hI h a i).toInt ≤ v.toInt) := by
      apply Classical.byContradiction
      intro g
      exact c (fun k hk => Classical.byContradiction (fun g2 => g ⟨k, hk, g2⟩))
    obtain ⟨i, g1, g2, g3⟩ := fb_first c'
    refine lpS (L := fun m (s : Int32) => c_X9_allWithin_L2 F (some a) v m s h) (fun k => nI k) i (fun m k hk => step m k (by omega) (Classical.byContradiction (fun g4 => g3 k hk g4))) (fun m => ?_) F (by omega)
    show c_X9_allWithin_L2 F (some a) v (m + 1) (nI i) h = _
    have b2 : okA h a 20 (nI i) = true := okA_n t1 t2 g1 (by omega)
    rw [c_X9_allWithin_L2]
    simp only [nn, b1, if_true, t2, if_neg (nI_ge g1 (show n < 2 ^ 31 by omega)), b2, ix_n (show i < 2147483648 by omega)]
    by_cases d1 : hI h a i < 0
    · rw [if_pos d1]
    · rw [if_neg d1, if_neg (by rw [fa_lt, ti_0] at d1; rw [fa_le]; omega)]

theorem m_tune_L54 (I : Ifx h) {r n N : Nat} (hr : r < 6) (e : hI h 48 r = nI n) (hn : n ≤ 40) (hN : n < N) (y : Int32) (K1 K2 : z_Hp → Option (Int32 × z_Hp)) : c_X10_tune_L54 F 46 y (nI r) K1 K2 N 0 h = if ∀ k, k < n → 0 ≤ (hI h 49 (40 * r + k)).toInt ∧ (hI h 49 (40 * r + k)).toInt ≤ 20 then K1 h else K2 h := by
  have b1 : okA h 48 20 (nI r) = true := okA_n (fT48 I) (fN48 I) (by omega) (by decide)
  have run : ∀ m k, k < n → c_X10_tune_L54 F 46 y (nI r) K1 K2 (m + 1) (nI k) h = if 0 ≤ (hI h 49 (40 * r + k)).toInt ∧ (hI h 49 (40 * r + k)).toInt ≤ 20 then c_X10_tune_L54 F 46 y (nI r) K1 K2 m (nI (k + 1)) h else K2 h := by
    intro m k hk
    have e1 : (40 : Int32) * nI r + nI k = nI (40 * r + k) := by rw [show (40 : Int32) = nI 40 from rfl, nI_mul, nI_add]
    have b2 : okA h 49 20 (nI (40 * r + k)) = true := okA_n (fT49 I) (fN49 I) (by omega) (by decide)
    rw [c_X10_tune_L54]
    simp only [fT46 I, if_true, lt_, nn, fR46_7 I, b1, ix_n (show r < 2147483648 by omega), e, if_neg (nI_ge hk (show n < 2 ^ 31 by omega)), fR46_8 I, e1, b2, ix_n (show 40 * r + k < 2147483648 by omega), m_in, ti_0, ti_20, bI_some, nI_1, iteZ]
  by_cases c : ∀ k, k < n → 0 ≤ (hI h 49 (40 * r + k)).toInt ∧ (hI h 49 (40 * r + k)).toInt ≤ 20
  · rw [if_pos c]
    refine lpS (L := fun m (s : Int32) => c_X10_tune_L54 F 46 y (nI r) K1 K2 m s h) (fun k => nI k) n (fun m k hk => by show c_X10_tune_L54 F 46 y (nI r) K1 K2 (m + 1) (nI k) h = _; rw [run m k hk, if_pos (c k hk)]) (fun m => ?_) N hN
    show c_X10_tune_L54 F 46 y (nI r) K1 K2 (m + 1) (nI n) h = _
    rw [c_X10_tune_L54]
    simp only [fT46 I, if_true, lt_, nn, fR46_7 I, b1, ix_n (show r < 2147483648 by omega), e, if_pos (nI_le (Nat.le_refl n) (show n < 2 ^ 31 by omega))]
  · rw [if_neg c]
    have c' : ∃ i, i < n ∧ ¬ (0 ≤ (hI h 49 (40 * r + i)).toInt ∧ (hI h 49 (40 * r + i)).toInt ≤ 20) := by
      apply Classical.byContradiction
      intro g
      exact c (fun k hk => Classical.byContradiction (fun g2 => g ⟨k, hk, g2⟩))
    obtain ⟨i, g1, g2, g3⟩ := fb_first c'
    refine lpS (L := fun m (s : Int32) => c_X10_tune_L54 F 46 y (nI r) K1 K2 m s h) (fun k => nI k) i (fun m k hk => by show c_X10_tune_L54 F 46 y (nI r) K1 K2 (m + 1) (nI k) h = _; rw [run m k (by omega), if_pos (Classical.byContradiction (fun g4 => g3 k hk g4))]) (fun m => ?_) N (by omega)
    show c_X10_tune_L54 F 46 y (nI r) K1 K2 (m + 1) (nI i) h = _
    rw [run m i g1, if_neg g2]

theorem m_walk_L48 (I : Ifx h) {r n N : Nat} (hr : r < 6) (e : hI h 48 r = nI n) (hn : n ≤ 40) (hN : n < N) (y : Int32) (K1 K2 : z_Hp → Option (Int32 × z_Hp)) : c_X10_walk_L48 F 46 y (nI r) K1 K2 N 0 h = if ∀ k, k < n → 0 ≤ (hI h 49 (40 * r + k)).toInt ∧ (hI h 49 (40 * r + k)).toInt ≤ 9 then K1 h else K2 h := by
  have b1 : okA h 48 20 (nI r) = true := okA_n (fT48 I) (fN48 I) (by omega) (by decide)
  have run : ∀ m k, k < n → c_X10_walk_L48 F 46 y (nI r) K1 K2 (m + 1) (nI k) h = if 0 ≤ (hI h 49 (40 * r + k)).toInt ∧ (hI h 49 (40 * r + k)).toInt ≤ 9 then c_X10_walk_L48 F 46 y (nI r) K1 K2 m (nI (k + 1)) h else K2 h := by
    intro m k hk
    have e1 : (40 : Int32) * nI r + nI k = nI (40 * r + k) := by rw [show (40 : Int32) = nI 40 from rfl, nI_mul, nI_add]
    have b2 : okA h 49 20 (nI (40 * r + k)) = true := okA_n (fT49 I) (fN49 I) (by omega) (by decide)
    rw [c_X10_walk_L48]
    simp only [fT46 I, if_true, lt_, nn, fR46_7 I, b1, ix_n (show r < 2147483648 by omega), e, if_neg (nI_ge hk (show n < 2 ^ 31 by omega)), fR46_8 I, e1, b2, ix_n (show 40 * r + k < 2147483648 by omega), m_isPlace, bI_some, nI_1, iteZ]
  by_cases c : ∀ k, k < n → 0 ≤ (hI h 49 (40 * r + k)).toInt ∧ (hI h 49 (40 * r + k)).toInt ≤ 9
  · rw [if_pos c]
    refine lpS (L := fun m (s : Int32) => c_X10_walk_L48 F 46 y (nI r) K1 K2 m s h) (fun k => nI k) n (fun m k hk => by show c_X10_walk_L48 F 46 y (nI r) K1 K2 (m + 1) (nI k) h = _; rw [run m k hk, if_pos (c k hk)]) (fun m => ?_) N hN
    show c_X10_walk_L48 F 46 y (nI r) K1 K2 (m + 1) (nI n) h = _
    rw [c_X10_walk_L48]
    simp only [fT46 I, if_true, lt_, nn, fR46_7 I, b1, ix_n (show r < 2147483648 by omega), e, if_pos (nI_le (Nat.le_refl n) (show n < 2 ^ 31 by omega))]
  · rw [if_neg c]
    have c' : ∃ i, i < n ∧ ¬ (0 ≤ (hI h 49 (40 * r + i)).toInt ∧ (hI h 49 (40 * r + i)).toInt ≤ 9) := by
      apply Classical.byContradiction
      intro g
      exact c (fun k hk => Classical.byContradiction (fun g2 => g ⟨k, hk, g2⟩))
    obtain ⟨i, g1, g2, g3⟩ := fb_first c'
    refine lpS (L := fun m (s : Int32) => c_X10_walk_L48 F 46 y (nI r) K1 K2 m s h) (fun k => nI k) i (fun m k hk => by show c_X10_walk_L48 F 46 y (nI r) K1 K2 (m + 1) (nI k) h = _; rw [run m k (by omega), if_pos (Classical.byContradiction (fun g4 => g3 k hk g4))]) (fun m => ?_) N (by omega)
    show c_X10_walk_L48 F 46 y (nI r) K1 K2 (m + 1) (nI i) h = _
    rw [run m i g1, if_neg g2]

theorem m_tune_L110 (I : Ifx h) {u r n N : Nat} (hu : u < 6) (hr : r < 6) (e : hI h 48 r = nI n) (hn : n ≤ 8) (hN : n < N) : c_X10_tune_L110 F 46 (nI u) (nI r) N 0 h = some (hI h 57 u, fl h 58 (8 * u) n (fun k => hI h 49 (40 * r + k))) := by
  have key := lpS (L := fun m (s : Int32 × z_Hp) => c_X10_tune_L110 F 46 (nI u) (nI r) m s.1 s.2) (R := some (hI h 57 u, fl h 58 (8 * u) n (fun k => hI h 49 (40 * r + k)))) (fun k => (nI k, fl h 58 (8 * u) k (fun k => hI h 49 (40 * r + k)))) n (fun m k hk => ?_) (fun m => ?_) N hN
  · simp only [fl_0] at key
    exact key
  · show c_X10_tune_L110 F 46 (nI u) (nI r) (m + 1) (nI k) (fl h 58 (8 * u) k (fun k => hI h 49 (40 * r + k))) = c_X10_tune_L110 F 46 (nI u) (nI r) m (nI (k + 1)) _
    rw [c_X10_tune_L110]
    have e1 : (40 : Int32) * nI r + nI k = nI (40 * r + k) := by rw [show (40 : Int32) = nI 40 from rfl, nI_mul, nI_add]
    have e3 : (8 : Int32) * nI u + nI k = nI (8 * u + k) := by rw [show (8 : Int32) = nI 8 from rfl, nI_mul, nI_add]
    have b1 : okA (fl h 58 (8 * u) k (fun k => hI h 49 (40 * r + k))) 49 20 (nI (40 * r + k)) = true := okA_n (fT49 I) (fN49 I) (by omega) (by decide)
    have b2 : okA (fl h 58 (8 * u) k (fun k => hI h 49 (40 * r + k))) 58 20 (nI (8 * u + k)) = true := okA_n (fT58 I) (fN58 I) (by omega) (by decide)
    have b3 : okA (fl h 58 (8 * u) k (fun k => hI h 49 (40 * r + k))) 48 20 (nI r) = true := okA_n (fT48 I) (fN48 I) (by omega) (by decide)
    have e2 : hI (fl h 58 (8 * u) k (fun k => hI h 49 (40 * r + k))) 49 (40 * r + k) = hI h 49 (40 * r + k) := by rw [hI_fl, if_neg (by omega)]
    have e4 : hI (fl h 58 (8 * u) k (fun k => hI h 49 (40 * r + k))) 48 r = nI n := by rw [hI_fl, if_neg (by omega)]; exact e
    simp only [hT_fl, fT46 I, if_true, lt_, hR_fl, fR46_7 I, fR46_8 I, fR46_18 I, nn, b3, ix_n (show r < 2147483648 by omega), e4, if_neg (nI_ge hk (show n < 2 ^ 31 by omega)), e1, e3, b1, b2, ix_n (show 40 * r + k < 2147483648 by omega), ix_n (show 8 * u + k < 2147483648 by omega), e2, nI_1]
    rw [fl_s h 58 (8 * u) k (fun k => hI h 49 (40 * r + k))]
  · show c_X10_tune_L110 F 46 (nI u) (nI r) (m + 1) (nI n) (fl h 58 (8 * u) n (fun k => hI h 49 (40 * r + k))) = _
    rw [c_X10_tune_L110]
    have b3 : okA (fl h 58 (8 * u) n (fun k => hI h 49 (40 * r + k))) 48 20 (nI r) = true := okA_n (fT48 I) (fN48 I) (by omega) (by decide)
    have b4 : okA (fl h 58 (8 * u) n (fun k => hI h 49 (40 * r + k))) 57 20 (nI u) = true := okA_n (fT57 I) (fN57 I) (by omega) (by decide)
    have e4 : hI (fl h 58 (8 * u) n (fun k => hI h 49 (40 * r + k))) 48 r = nI n := by rw [hI_fl, if_neg (by omega)]; exact e
    have e5 : hI (fl h 58 (8 * u) n (fun k => hI h 49 (40 * r + k))) 57 u = hI h 57 u := by rw [hI_fl, if_neg (by omega)]
    simp only [hT_fl, fT46 I, if_true, lt_, hR_fl, fR46_7 I, fR46_17 I, nn, b3, b4, ix_n (show r < 2147483648 by omega), ix_n (show u < 2147483648 by omega), e4, e5, if_pos (nI_le (Nat.le_refl n) (show n < 2 ^ 31 by omega))]

theorem m_walk_L101 (I : Ifx h) {u r n N : Nat} (hu : u < 4) (hr : r < 6) (e : hI h 48 r = nI n) (hn : n ≤ 40) (hN : n < N) : c_X10_walk_L101 F 46 (nI u) (nI r) N 0 h = some (nI n, fl h 90 (40 * u) n (fun k => hI h 49 (40 * r + k))) := by
  have key := lpS (L := fun m (s : Int32 × z_Hp) => c_X10_walk_L101 F 46 (nI u) (nI r) m s.1 s.2) (R := some (nI n, fl h 90 (40 * u) n (fun k => hI h 49 (40 * r + k)))) (fun k => (nI k, fl h 90 (40 * u) k (fun k => hI h 49 (40 * r + k)))) n (fun m k hk => ?_) (fun m => ?_) N hN
  · simp only [fl_0] at key
    exact key
  · show c_X10_walk_L101 F 46 (nI u) (nI r) (m + 1) (nI k) (fl h 90 (40 * u) k (fun k => hI h 49 (40 * r + k))) = c_X10_walk_L101 F 46 (nI u) (nI r) m (nI (k + 1)) _
    rw [c_X10_walk_L101]
    have e1 : (40 : Int32) * nI r + nI k = nI (40 * r + k) := by rw [show (40 : Int32) = nI 40 from rfl, nI_mul, nI_add]
    have e3 : (40 : Int32) * nI u + nI k = nI (40 * u + k) := by rw [show (40 : Int32) = nI 40 from rfl, nI_mul, nI_add]
    have b1 : okA (fl h 90 (40 * u) k (fun k => hI h 49 (40 * r + k))) 49 20 (nI (40 * r + k)) = true := okA_n (fT49 I) (fN49 I) (by omega) (by decide)
    have b2 : okA (fl h 90 (40 * u) k (fun k => hI h 49 (40 * r + k))) 90 20 (nI (40 * u + k)) = true := okA_n (fT90 I) (fN90 I) (by omega) (by decide)
    have b3 : okA (fl h 90 (40 * u) k (fun k => hI h 49 (40 * r + k))) 48 20 (nI r) = true := okA_n (fT48 I) (fN48 I) (by omega) (by decide)
    have e2 : hI (fl h 90 (40 * u) k (fun k => hI h 49 (40 * r + k))) 49 (40 * r + k) = hI h 49 (40 * r + k) := by rw [hI_fl, if_neg (by omega)]
    have e4 : hI (fl h 90 (40 * u) k (fun k => hI h 49 (40 * r + k))) 48 r = nI n := by rw [hI_fl, if_neg (by omega)]; exact e
    simp only [hT_fl, fT46 I, if_true, lt_, hR_fl, fR46_7 I, fR46_8 I, fR46_54 I, nn, b3, ix_n (show r < 2147483648 by omega), e4, if_neg (nI_ge hk (show n < 2 ^ 31 by omega)), e1, e3, b1, b2, ix_n (show 40 * r + k < 2147483648 by omega), ix_n (show 40 * u + k < 2147483648 by omega), e2, nI_1]
    rw [fl_s h 90 (40 * u) k (fun k => hI h 49 (40 * r + k))]
  · show c_X10_walk_L101 F 46 (nI u) (nI r) (m + 1) (nI n) (fl h 90 (40 * u) n (fun k => hI h 49 (40 * r + k))) = _
    rw [c_X10_walk_L101]
    have b3 : okA (fl h 90 (40 * u) n (fun k => hI h 49 (40 * r + k))) 48 20 (nI r) = true := okA_n (fT48 I) (fN48 I) (by omega) (by decide)
    have b4 : okA (fl h 90 (40 * u) n (fun k => hI h 49 (40 * r + k))) 57 20 (nI u) = true := okA_n (fT57 I) (fN57 I) (by omega) (by decide)
    have e4 : hI (fl h 90 (40 * u) n (fun k => hI h 49 (40 * r + k))) 48 r = nI n := by rw [hI_fl, if_neg (by omega)]; exact e
    have e5 : hI (fl h 90 (40 * u) n (fun k => hI h 49 (40 * r + k))) 57 u = hI h 57 u := by rw [hI_fl, if_neg (by omega)]
    simp only [hT_fl, fT46 I, if_true, lt_, hR_fl, fR46_7 I, fR46_17 I, nn, b3, b4, ix_n (show r < 2147483648 by omega), ix_n (show u < 2147483648 by omega), e4, e5, if_pos (nI_le (Nat.le_refl n) (show n < 2 ^ 31 by omega))]

end OpsB
