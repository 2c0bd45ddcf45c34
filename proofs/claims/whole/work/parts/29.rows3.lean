section Ops4
variable {h : z_Hp} (F : Nat) (x1 x2 x3 x4 x5 : Int32)
theorem x_mean_L {a n N : Nat} (t1 : hT h a = 20) (t2 : hN h a = n) (hn : n ≤ 40) (hN : n < N) (K : Int64 → z_Hp → Option (Int32 × z_Hp)) : c_X9_mean_L42 F 5 a K N 0 0 h = K (itr (fun k s => s + (hI h a k).toInt64) 0 n) h := by
  refine lpS (L := fun m (s : Int64 × Int32) => c_X9_mean_L42 F 5 a K m s.1 s.2 h) (fun k => (itr (fun k s => s + (hI h a k).toInt64) 0 k, nI k)) n (fun m k hk => ?_) (fun m => ?_) N hN
  · show c_X9_mean_L42 F 5 a K (m + 1) _ (nI k) h = _
    rw [c_X9_mean_L42]
    have b1 : okL h a = true := okL_n t1 (by decide) (by decide)
    have b2 : okA h a 20 (nI k) = true := okA_n t1 t2 hk (by omega)
    rw [if_pos b1, t2, if_neg (nI_ge hk (by omega)), if_pos b2, ix_n (by omega)]
    simp only [lt_, nI_1]
    rfl
  · show c_X9_mean_L42 F 5 a K (m + 1) _ (nI n) h = _
    rw [c_X9_mean_L42]
    have b1 : okL h a = true := okL_n t1 (by decide) (by decide)
    rw [if_pos b1, t2, if_pos (nI_le (Nat.le_refl _) (by omega))]
theorem m_mean_L (I : Ifx h) {r n N : Nat} (hr : r < 6) (e : hI h 48 r = nI n) (hn : n ≤ 40) (hN : n < N) (K : Int64 → z_Hp → Option (Int32 × z_Hp)) : c_X10_mean_L17 F 46 (nI r) K N 0 0 h = K (itr (fun k s => s + (hI h 49 (40 * r + k)).toInt64) 0 n) h := by
  have b1 : okA h 48 20 (nI r) = true := okA_n (fT48 I) (fN48 I) hr (by decide)
  refine lpS (L := fun m (s : Int64 × Int32) => c_X10_mean_L17 F 46 (nI r) K m s.1 s.2 h) (fun k => (itr (fun k s => s + (hI h 49 (40 * r + k)).toInt64) 0 k, nI k)) n (fun m k hk => ?_) (fun m => ?_) N hN
  · show c_X10_mean_L17 F 46 (nI r) K (m + 1) _ (nI k) h = _
    rw [c_X10_mean_L17]
    have e1 : (40 : Int32) * nI r + nI k = nI (40 * r + k) := by rw [show (40 : Int32) = nI 40 from rfl, nI_mul, nI_add]
    have b2 : okA h 49 20 (nI (40 * r + k)) = true := okA_n (fT49 I) (fN49 I) (by omega) (by omega)
    simp only [fT46 I, if_true, lt_, fR46_7 I, nn, b1, ix_n (show r < 2147483648 by omega), e, if_neg (nI_ge hk (show n < 2 ^ 31 by omega)), fR46_8 I, e1, b2, ix_n (show 40 * r + k < 2147483648 by omega), nI_1]
    rfl
  · show c_X10_mean_L17 F 46 (nI r) K (m + 1) _ (nI n) h = _
    rw [c_X10_mean_L17]
    simp only [fT46 I, if_true, lt_, fR46_7 I, nn, b1, ix_n (show r < 2147483648 by omega), e, if_pos (nI_le (Nat.le_refl n) (show n < 2 ^ 31 by omega))]
theorem op_mean (hF : 5000 ≤ F) (J : Inv h) : OkI h (c_X9_mean F 5 x1 h) (c_X10_mean F 46 x1) := by
  obtain ⟨ow, J⟩ := J
  have o := J.1
  have I := J.2.1
  have R : Rrow ow h := J.2.2.2.2.2.2.2.1
  unfold c_X9_mean c_X10_mean
  by_cases c1 : 0 ≤ x1.toInt ∧ x1.toInt ≤ 5
  · obtain ⟨r, hr, rfl⟩ := rng (x := x1) (n := 5) c1
    have b1 : okA h 6 23 (nI r) = true := okA_n (fT6 I) (fN6 I) (by omega) (by decide)
    rcases R.1 r (by omega) with ⟨g1, g2⟩ | ⟨n, a, g1, g2, g3, g4, g5, g6, g7, g8⟩
    · refine OkI.found0 (F := F) 1 (by decide) J ?_ (fun h' s => ?_)
      · show _ = c_X9_found F 5 1 h
        simp only [x_isRow, if_pos c1, bI_some, ite10, fT5 I, if_true, lt_, fR5_0 I, nn, b1, ix_n (show r < 2147483648 by omega), g2, nl, bI_id]
      · have I' := I.st o s (by decide)
        have e : hI h' 48 r = -9 := (s.fam I o (c := 60) (by decide) 48 r (by omega) rfl).1.trans g1
        show _ = c_X10_meets F 46 1 h'
        rw [fT46 I', if_pos rfl, m_askedRow1 F I' (by omega) e, m_meets I' F 1 1 rfl (by decide), bI_some, if_neg (by decide)]
    · have b5 : okL h a = true := okL_n g4 (by decide) (by decide)
      by_cases c2 : n = 0
      · subst c2
        refine OkI.found0 (F := F) 4 (by decide) J ?_ (fun h' s => ?_)
        · show _ = c_X9_found F 5 4 h
          simp only [x_isRow, if_pos c1, bI_some, ite10, fT5 I, if_true, lt_, fR5_0 I, nn, b1, ix_n (show r < 2147483648 by omega), g3, nl, b5, g5, nI_0, bI_id]
        · have I' := I.st o s (by decide)
          have e : hI h' 48 r = nI 0 := (s.fam I o (c := 60) (by decide) 48 r (by omega) rfl).1.trans g2
          have b8 : okA h' 48 20 (nI r) = true := okA_n (fT48 I') (fN48 I') (by omega) (by decide)
          show _ = c_X10_meets F 46 4 h'
          rw [fT46 I', if_pos rfl, m_askedRow2 F I' (by omega) g1 e, bI_some, if_pos (show (0 : Int32) ≤ 0 by decide), m_mean_L F I' (by omega) e (by omega) (by omega)]
          simp only [fT46 I', if_true, lt_, fR46_7 I', nn, b8, ix_n (show r < 2147483648 by omega), e, nI_0, bI_id]
      · have e0 : ¬ nI n = 0 := nI_ne0 (by omega) (by omega)
        have e00 : ¬ (nI n).toInt64 = 0 := by rw [nI_l (by omega), show (0 : Int64) = lN 0 from rfl, lN_eq (by omega) (by omega)]; exact c2
        generalize hv : (itr (fun k s => s + (hI h a k).toInt64) 0 n / (nI n).toInt64 : Int64).toInt32 = v
        have s1 : St [3] ow h (sI h 5 15 v) := (St.r I).wI o 3 (by decide) rfl (by decide)
        have I1 := I.st o s1 (by decide)
        have e3 : hI (sI h 5 15 v) 48 r = nI n := g2
        have hv2 : (itr (fun k s => s + (hI (sI h 5 15 v) 49 (40 * r + k)).toInt64) 0 n / (nI n).toInt64 : Int64).toInt32 = v := by
          rw [itr_cong (g := fun k s => s + (hI h a k).toInt64) (fun k t hk => by
            have e : hI (sI h 5 15 v) 49 (40 * r + k) = hI h 49 (40 * r + k) := by rw [hI_sI, if_neg (by omega)]
            rw [e, g8 k hk])]
          exact hv
        have b8 : okA (sI h 5 15 v) 48 20 (nI r) = true := okA_n (fT48 I1) (fN48 I1) (by omega) (by decide)
        have s2 : St [3, 53] ow h (sI (sI h 5 15 v) 46 2 v) := (s1.sub (by decide)).wI o 53 (by decide) rfl (by decide)
        refine ⟨1, sI h 5 15 v, sI (sI h 5 15 v) 46 2 v, ?_, ?_, ⟨ow, J.fin o s2 (OwX.refl _ _) (by decide) (c3 := fun _ => ?_)⟩, ?_, ?_⟩
        · simp only [x_isRow, if_pos c1, bI_some, ite10, fT5 I, if_true, lt_, fR5_0 I, nn, b1, ix_n (show r < 2147483648 by omega), g3, nl, b5, g5, if_neg e0]
          rw [x_mean_L F g4 g5 g1 (by omega), if_pos b5, g5, if_neg e00, hv, fT5 I, if_pos rfl]
        · dsimp only
          rw [fT46 I1, if_pos rfl, m_askedRow2 F I1 (by omega) g1 e3, bI_some, if_pos (show (0 : Int32) ≤ 0 by decide), m_mean_L F I1 (by omega) e3 g1 (by omega)]
          simp only [fT46 I1, if_true, lt_, fR46_7 I1, nn, b8, ix_n (show r < 2147483648 by omega), e3, if_neg e0, if_neg e00, hv2, c_X10_ask, bI_some]
        · unfold Rask
          simp [hI_sI]
        · show hZ h ≤ _; omega
        · show hS h ≤ _; omega
  · refine OkI.same (-1) ⟨ow, J⟩ (by simp only [x_isRow, if_neg c1, bI_some, ite00, if_true]) ?_
    rw [fT46 I, if_pos rfl, m_askedRow0 F x1 I c1, bI_some, if_neg (by decide)]
theorem x_hasPlaces {a n : Nat} (t1 : hT h a = 20) (t2 : hN h a = n) (hn : n ≤ 40) (hx : 0 ≤ x2.toInt) : c_X9_hasPlaces F (some a) x1 x2 h = some (if 0 ≤ x1.toInt ∧ x1.toInt + x2.toInt ≤ n then 1 else 0, h) := by
  have b1 : okL h a = true := okL_n t1 (by decide) (by decide)
  unfold c_X9_hasPlaces
  simp only [nn, b1, if_true, t2, fa_lt, ti_0, toI_n (show n < 2147483648 by omega)]
  split
  · rw [if_neg (by omega)]
  · split
    · rw [if_neg (by omega)]
    · rename_i c1 c2
      have := fb_rng x2
      rw [fb_subI (by rw [toI_n (by omega)]; omega) (by rw [toI_n (by omega)]; omega), toI_n (by omega)]
      split
      · rw [if_neg (by omega)]
      · rw [if_pos (by omega)]
theorem m_copy_L104 (I : Ifx h) {r i n N : Nat} (hr : r < 6) (hi : i + n ≤ 40) (hN : n < N) (y4 y5 : Int32) (K : z_Hp → Option (Int32 × z_Hp)) : c_X10_copy_L104 F 46 (nI r) (nI i) y4 y5 (nI n) K N 0 h = K (fl h 50 0 n (fun k => hI h 49 (40 * r + i + k))) := by
  have key := lpS (L := fun m (s : Int32 × z_Hp) => c_X10_copy_L104 F 46 (nI r) (nI i) y4 y5 (nI n) K m s.1 s.2) (R := K (fl h 50 0 n (fun k => hI h 49 (40 * r + i + k)))) (fun k => (nI k, fl h 50 0 k (fun k => hI h 49 (40 * r + i + k)))) n (fun m k hk => ?_) (fun m => ?_) N hN
  · simp only [fl_0] at key
    exact key
  · show c_X10_copy_L104 F 46 (nI r) (nI i) y4 y5 (nI n) K (m + 1) (nI k) (fl h 50 0 k (fun k => hI h 49 (40 * r + i + k))) = c_X10_copy_L104 F 46 (nI r) (nI i) y4 y5 (nI n) K m (nI (k + 1)) _
    rw [c_X10_copy_L104]
    have e1 : (40 : Int32) * nI r + nI i + nI k = nI (40 * r + i + k) := by rw [show (40 : Int32) = nI 40 from rfl, nI_mul, nI_add, nI_add]
    have b1 : okA (fl h 50 0 k (fun k => hI h 49 (40 * r + i + k))) 49 20 (nI (40 * r + i + k)) = true := okA_n (fT49 I) (fN49 I) (by omega) (by omega)
    have b2 : okA (fl h 50 0 k (fun k => hI h 49 (40 * r + i + k))) 50 20 (nI k) = true := okA_n (fT50 I) (fN50 I) (by omega) (by omega)
    have e2 : hI (fl h 50 0 k (fun k => hI h 49 (40 * r + i + k))) 49 (40 * r + i + k) = hI h 49 (40 * r + i + k) := by rw [hI_fl, if_neg (by omega)]
    simp only [if_neg (nI_ge hk (show n < 2 ^ 31 by omega)), hT_fl, fT46 I, if_true, lt_, hR_fl, fR46_9 I, fR46_8 I, nn, e1, b1, b2, ix_n (show 40 * r + i + k < 2147483648 by omega), ix_n (show k < 2147483648 by omega), e2, nI_1]
    congr 1
    have := fl_s h 50 0 k (fun k => hI h 49 (40 * r + i + k))
    rw [Nat.zero_add] at this
    exact this
  · show c_X10_copy_L104 F 46 (nI r) (nI i) y4 y5 (nI n) K (m + 1) (nI n) _ = _
    rw [c_X10_copy_L104, if_pos (nI_le (Nat.le_refl n) (show n < 2 ^ 31 by omega))]
theorem m_copy_L141 (I : Ifx h) {r i n N : Nat} (hr : r < 6) (hi : i + n ≤ 40) (hN : n < N) : c_X10_copy_L141 F 46 (nI r) (nI i) (nI n) N 0 h = some (1, fl h 49 (40 * r + i) n (fun k => hI h 50 k)) := by
  have key := lpS (L := fun m (s : Int32 × z_Hp) => c_X10_copy_L141 F 46 (nI r) (nI i) (nI n) m s.1 s.2) (R := some (1, fl h 49 (40 * r + i) n (fun k => hI h 50 k))) (fun k => (nI k, fl h 49 (40 * r + i) k (fun k => hI h 50 k))) n (fun m k hk => ?_) (fun m => ?_) N hN
  · simp only [fl_0] at key
    exact key
  · show c_X10_copy_L141 F 46 (nI r) (nI i) (nI n) (m + 1) (nI k) (fl h 49 (40 * r + i) k (fun k => hI h 50 k)) = c_X10_copy_L141 F 46 (nI r) (nI i) (nI n) m (nI (k + 1)) _
    rw [c_X10_copy_L141]
    have e1 : (40 : Int32) * nI r + nI i + nI k = nI (40 * r + i + k) := by rw [show (40 : Int32) = nI 40 from rfl, nI_mul, nI_add, nI_add]
    have b1 : okA (fl h 49 (40 * r + i) k (fun k => hI h 50 k)) 49 20 (nI (40 * r + i + k)) = true := okA_n (fT49 I) (fN49 I) (by omega) (by omega)
    have b2 : okA (fl h 49 (40 * r + i) k (fun k => hI h 50 k)) 50 20 (nI k) = true := okA_n (fT50 I) (fN50 I) (by omega) (by omega)
    have e2 : hI (fl h 49 (40 * r + i) k (fun k => hI h 50 k)) 50 k = hI h 50 k := by rw [hI_fl, if_neg (by omega)]
    simp only [if_neg (nI_ge hk (show n < 2 ^ 31 by omega)), hT_fl, fT46 I, if_true, lt_, hR_fl, fR46_9 I, fR46_8 I, nn, e1, b1, b2, ix_n (show 40 * r + i + k < 2147483648 by omega), ix_n (show k < 2147483648 by omega), e2, nI_1]
    rw [fl_s h 49 (40 * r + i) k (fun k => hI h 50 k)]
  · show c_X10_copy_L141 F 46 (nI r) (nI i) (nI n) (m + 1) (nI n) _ = _
    rw [c_X10_copy_L141, if_pos (nI_le (Nat.le_refl n) (show n < 2 ^ 31 by omega))]
end Ops4
