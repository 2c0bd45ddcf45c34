section Ops6
variable {h : z_Hp} (F : Nat) (x1 x2 x3 x4 x5 : Int32)
theorem m_askedText0 (I : Ifx h) (hr : ¬ (0 ≤ x1.toInt ∧ x1.toInt ≤ 3)) : c_X10_askedText F 46 x1 h = some (-1, h) := by
  unfold c_X10_askedText
  simp only [m_isText, if_neg hr, bI_some, ite00, if_true]
theorem m_askedText1 (I : Ifx h) {r : Nat} (hr : r < 4) (e : hI h 51 r = -9) : c_X10_askedText F 46 (nI r) h = c_X10_meets F 46 1 h := by
  unfold c_X10_askedText
  have a1 : okA h 51 20 (nI r) = true := okA_n (fT51 I) (fN51 I) hr (by decide)
  simp only [m_isText, toI_n (show r < 2147483648 by omega)]
  rw [if_pos (by omega)]
  simp only [bI_some, ite10, fT46 I, if_true, lt_, fR46_10 I, nn, a1, ix_n (show r < 2147483648 by omega), e, if_neg nn9, bI_id]
theorem m_askedText2 (I : Ifx h) {r n : Nat} (hr : r < 4) (hn : n ≤ 60) (e : hI h 51 r = nI n) : c_X10_askedText F 46 (nI r) h = some (0, h) := by
  unfold c_X10_askedText
  have a1 : okA h 51 20 (nI r) = true := okA_n (fT51 I) (fN51 I) hr (by decide)
  simp only [m_isText, toI_n (show r < 2147483648 by omega)]
  rw [if_pos (by omega)]
  simp only [bI_some, ite10, fT46 I, if_true, lt_, fR46_10 I, nn, a1, ix_n (show r < 2147483648 by omega), e, if_pos (nge (show n < 2147483648 by omega))]
theorem m_text_L34 (I : Ifx h) {r : Nat} (hr : r < 4) (x : Int32) {n : Nat} (hn : 60 < n) : c_X10_text_L34 F 46 (nI r) x n 0 h = some (x, fl h 52 (60 * r) 60 (fun _ => 32)) := by
  have key := lpS (L := fun n (s : Int32 × z_Hp) => c_X10_text_L34 F 46 (nI r) x n s.1 s.2) (R := some (x, fl h 52 (60 * r) 60 (fun _ => 32))) (fun k => (nI k, fl h 52 (60 * r) k (fun _ => 32))) 60 (fun n k hk => ?_) (fun n => ?_) n hn
  · simp only [fl_0] at key
    exact key
  · show c_X10_text_L34 F 46 (nI r) x (n + 1) (nI k) (fl h 52 (60 * r) k (fun _ => 32)) = c_X10_text_L34 F 46 (nI r) x n (nI (k + 1)) _
    rw [c_X10_text_L34]
    have c1 : ¬ (60 : Int32) ≤ nI k := nI_ge hk (by decide)
    have e1 : (60 : Int32) * nI r + nI k = nI (60 * r + k) := by rw [show (60 : Int32) = nI 60 from rfl, nI_mul, nI_add]
    have a1 : okA (fl h 52 (60 * r) k (fun _ => 32)) 52 20 (nI (60 * r + k)) = true := okA_n (fT52 I) (fN52 I) (by omega) (by decide)
    simp only [if_neg c1, hT_fl, fT46 I, if_true, lt_, hR_fl, fR46_11 I, nn, e1, a1, ix_n (show 60 * r + k < 2147483648 by omega), nI_1]
    rw [fl_s (g := fun _ => 32)]
  · show c_X10_text_L34 F 46 (nI r) x (n + 1) (nI 60) (fl h 52 (60 * r) 60 (fun _ => 32)) = _
    rw [c_X10_text_L34]
    rw [if_pos (by decide)]
theorem x_text_L32 (I : Ifx h) {r a n N : Nat} (hr : r < 4) (t1 : hT h a = 21) (t2 : hN h a = n) (hn : n ≤ 60) (hN : n < N) : c_X9_text_L32 F 5 (nI r) (nI n) a N 0 h = some (nI n, sR (fl h a 0 n (fun _ => 32)) 7 r (some a)) := by
  have key := lpS (L := fun m (s : Int32 × z_Hp) => c_X9_text_L32 F 5 (nI r) (nI n) a m s.1 s.2) (R := some (nI n, sR (fl h a 0 n (fun _ => 32)) 7 r (some a))) (fun k => (nI k, fl h a 0 k (fun _ => 32))) n (fun m k hk => ?_) (fun m => ?_) N hN
  · simp only [fl_0] at key
    exact key
  · show c_X9_text_L32 F 5 (nI r) (nI n) a (m + 1) (nI k) (fl h a 0 k (fun _ => 32)) = c_X9_text_L32 F 5 (nI r) (nI n) a m (nI (k + 1)) _
    rw [c_X9_text_L32]
    have b1 : okA (fl h a 0 k (fun _ => 32)) a 21 (nI k) = true := okA_n t1 t2 (by omega) (by omega)
    simp only [if_neg (nI_ge hk (show n < 2 ^ 31 by omega)), b1, if_true, lt_, ix_n (show k < 2147483648 by omega), nI_1, show ((32 : Int32).toInt8.toInt32) = 32 from rfl]
    congr 1
    have := fl_s h a 0 k (fun _ => 32)
    rw [Nat.zero_add] at this
    exact this
  · show c_X9_text_L32 F 5 (nI r) (nI n) a (m + 1) (nI n) (fl h a 0 n (fun _ => 32)) = _
    rw [c_X9_text_L32, if_pos (nI_le (Nat.le_refl n) (show n < 2 ^ 31 by omega))]
    have b1 : okA (fl h a 0 n (fun _ => 32)) 7 24 (nI r) = true := okA_n (fT7 I) (fN7 I) (by omega) (by decide)
    have b2 : okS (fl h a 0 n (fun _ => 32)) 24 (some a) = true := by
      unfold okS
      simp [z_ct, hT_fl, t1]
    simp only [hT_fl, fT5 I, if_true, lt_, hR_fl, fR5_1 I, nn, b1, b2, and_self, ix_n (show r < 2147483648 by omega)]
theorem Rtxt.set {ow ow' : Ow} {h h' : z_Hp} (R : Rtxt ow h) (I : Ifx h) (r : Nat) (hr : r < 4) {n a : Nat} (hn : n ≤ 60) (hal : ∀ q b, q < 4 → q ≠ r → hR h 7 q = some b → b ≠ a ∧ hT h' b = hT h b ∧ hN h' b = hN h b ∧ (∀ i, ow' b i = ow b i) ∧ ∀ k, hI h' b k = hI h b k)
    (e1 : ∀ q, q < 4 → hR h' 7 q = if q = r then some a else hR h 7 q) (e2 : ∀ q, q < 4 → hI h' 51 q = if q = r then nI n else hI h 51 q) (e3 : ∀ q k, q < 4 → q ≠ r → k < 60 → hI h' 52 (60 * q + k) = hI h 52 (60 * q + k))
    (t1 : hT h' a = 21) (t2 : hN h' a = n) (t3 : 94 ≤ a) (t4 : ∀ i, ow' a i = 11) (t5 : ∀ k, k < n → hI h' a k = hI h' 52 (60 * r + k)) : Rtxt ow' h' := by
  refine ⟨fun q hq => ?_, fun q p b hq hp h1 h2 => ?_⟩
  · by_cases e : q = r
    · subst e
      rw [e1 q hq, e2 q hq, if_pos rfl, if_pos rfl]
      exact Or.inr ⟨n, a, hn, rfl, rfl, t1, t2, t3, t4, t5⟩
    · rw [e1 q hq, e2 q hq, if_neg e, if_neg e]
      rcases R.1 q hq with ⟨g1, g2⟩ | ⟨m, b, g1, g2, g3, g4, g5, g6, g7, g8⟩
      · exact Or.inl ⟨g1, g2⟩
      · obtain ⟨-, k1, k2, k3, k4⟩ := hal q b hq e g3
        refine Or.inr ⟨m, b, g1, g2, g3, k1.trans g4, k2.trans g5, g6, fun i => (k3 i).trans (g7 i), fun k hk => ?_⟩
        exact ((k4 k).trans (g8 k hk)).trans (e3 q k hq e (by omega)).symm
  · rw [e1 q hq] at h1
    rw [e1 p hp] at h2
    by_cases c1 : q = r
    · by_cases c2 : p = r
      · omega
      · rw [if_pos c1] at h1
        rw [if_neg c2] at h2
        exact absurd (Option.some.inj h1).symm (hal p b hp c2 h2).1
    · by_cases c2 : p = r
      · rw [if_neg c1] at h1
        rw [if_pos c2] at h2
        exact absurd (Option.some.inj h2).symm (hal q b hq c1 h1).1
      · rw [if_neg c1] at h1
        rw [if_neg c2] at h2
        exact R.2 q p b hq hp h1 h2
theorem op_text (hF : 5000 ≤ F) (J : Inv h) : OkI h (c_X9_text F 5 x1 x2 h) (c_X10_text F 46 x1 x2) := by
  obtain ⟨ow, J⟩ := J
  have o := J.1
  have I := J.2.1
  have R : Rtxt ow h := J.2.2.2.2.2.2.2.2.1
  unfold c_X9_text c_X10_text
  by_cases c1 : 0 ≤ x1.toInt ∧ x1.toInt ≤ 3
  · by_cases c2 : x2 ≤ 60
    · by_cases c3 : 0 ≤ x2
      · obtain ⟨r, hr, rfl⟩ := rng (x := x1) (n := 3) c1
        obtain ⟨n, hn, rfl⟩ : ∃ n : Nat, n ≤ 60 ∧ x2 = nI n := nI_of2 (M := 60) ti_60 (by rw [fa_lt]; rw [fa_le] at c3; omega) c2
        have hz := I.2.2.1
        have b1 : inb (nI n) 100000 = true := inb_n (by omega) (by decide)
        have s0 : St [] ow h (nw h 21 n) := (St.r I).gN
        have I0 := I.st o s0 (by decide)
        have s1 : St [11] (owN ow (hZ h) 11) h (sR (fl (nw h 21 n) (hZ h) 0 n (fun _ => 32)) 7 r (some (hZ h))) := (((St.r I).gN).gF (fun i => by rw [owN, if_pos (Nat.le_refl _)]; decide)).wR (o.new hz) 11 (by decide) rfl (by decide)
        have I1 := I.st (o.new hz) s1 (by decide)
        have b4 : okA (sR (fl (nw h 21 n) (hZ h) 0 n (fun _ => 32)) 7 r (some (hZ h))) 51 20 (nI r) = true := okA_n (fT51 I1) (fN51 I1) (by omega) (by decide)
        have s2 : St [11, 61] (owN ow (hZ h) 11) h (fl (sI (sR (fl (nw h 21 n) (hZ h) 0 n (fun _ => 32)) 7 r (some (hZ h))) 51 r (nI n)) 52 (60 * r) 60 (fun _ => 32)) := ((s1.sub (by decide)).wI (o.new hz) 61 (by decide) rfl (by decide)).wfl (o.new hz) 61 (by decide) (fun i => rfl) (by decide)
        have s3 : St [11, 61] ow h (fl (sI (sR (fl (nw h 21 n) (hZ h) 0 n (fun _ => 32)) 7 r (some (hZ h))) 51 r (nI n)) 52 (60 * r) 60 (fun _ => 32)) := ⟨s2.1, s2.2.1, fun a i ha hn => s2.2.2.1 a i ha (by rw [OwX.new h ow 11 a i ha]; exact hn), s2.2.2.2⟩
        refine ⟨nI n, sR (fl (nw h 21 n) (hZ h) 0 n (fun _ => 32)) 7 r (some (hZ h)), fl (sI (sR (fl (nw h 21 n) (hZ h) 0 n (fun _ => 32)) 7 r (some (hZ h))) 51 r (nI n)) 52 (60 * r) 60 (fun _ => 32), ?_, ?_, ⟨owN ow (hZ h) 11, ?_⟩, ?_, ?_⟩
        · simp only [x_isText, if_pos c1, bI_some, ite10, if_pos c2, if_pos c3, b1, if_true, nwo, ix_n (show n < 2147483648 by omega)]
          exact x_text_L32 F I0 (by omega) (by rw [hT_nw, if_pos rfl]) (by rw [hN_nw, if_pos rfl]) hn (by omega)
        · simp only [m_isText, if_pos c1, bI_some, ite10, if_pos c2, if_pos c3, fT46 I1, if_true, lt_, fR46_10 I1, nn, b4, ix_n (show r < 2147483648 by omega)]
          exact m_text_L34 F I1.gI (by omega) (nI n) (by omega)
        · refine J.fin (o.new hz) s3 (OwX.new _ _ _) (by decide) (c11 := fun _ => ?_)
          refine R.set I r (by omega) (n := n) (a := hZ h) hn (fun q b hq hqr hb => ?_) (fun q hq => ?_) (fun q hq => ?_) (fun q k hq hqr hk => ?_) ?_ ?_ hz (fun i => if_pos (Nat.le_refl _)) (fun k hk => ?_)
          · rcases R.1 q hq with ⟨g1, g2⟩ | ⟨m, b', g1, g2, g3, g4, g5, g6, g7, g8⟩
            · rw [g2] at hb; cases hb
            · rw [g3] at hb; cases hb
              have hlt := I.al g4 (by decide)
              refine ⟨by omega, ?_, ?_, fun i => if_neg (by omega), fun k => ?_⟩
              · simp only [hT_fl, hT_sI, hT_sR, hT_nw]; rw [if_neg (by omega)]
              · simp only [hN_fl, hN_sI, hN_sR, hN_nw]; rw [if_neg (by omega)]
              · simp only [hI_fl, hI_sI, hI_sR, hI_nw]; rw [if_neg (by omega), if_neg (by omega), if_neg (by omega), if_neg (by omega)]
          · simp only [hR_fl, hR_sI, hR_sR, hR_nw, true_and, if_neg (show ¬ 7 = hZ h by omega)]
          · rw [hI_fl, if_neg (by omega)]; simp only [hI_sI, hI_sR, hI_fl, hI_nw, true_and, if_neg (show ¬ 51 = hZ h by omega), show ¬ (51 = hZ h ∧ 0 ≤ q ∧ q < 0 + n) by omega, if_false]
          · simp only [hI_fl, hI_sI, hI_sR, hI_nw, true_and]; rw [if_neg (by omega), if_neg (by omega), if_neg (by omega), if_neg (by omega)]
          · simp only [hT_fl, hT_sI, hT_sR, hT_nw, if_true]
          · simp only [hN_fl, hN_sI, hN_sR, hN_nw, if_true]
          · simp only [hI_fl, hI_sI, hI_sR, true_and]; rw [if_neg (by omega), if_neg (by omega), if_pos (by omega), if_pos (by omega)]
        · show hZ h + 1 ≤ _; omega
        · show hS h + n ≤ _; omega
      · refine OkI.found0 (F := F) 5 (by decide) J ?_ (fun h' s => ?_)
        · show _ = c_X9_found F 5 5 h
          simp only [x_isText, if_pos c1, bI_some, ite10, if_pos c2, if_neg c3, fT5 I, if_true, bI_id]
        · have I' := I.st o s (by decide)
          show _ = c_X10_meets F 46 5 h'
          simp only [m_isText, if_pos c1, bI_some, ite10, if_pos c2, if_neg c3, fT46 I', if_true, bI_id]
    · exact OkI.same (-1) ⟨ow, J⟩ (by simp only [x_isText, if_pos c1, bI_some, ite10, if_neg c2]) (by simp only [m_isText, if_pos c1, bI_some, ite10, if_neg c2])
  · exact OkI.same (-1) ⟨ow, J⟩ (by simp only [x_isText, if_neg c1, bI_some, ite00, if_true]) (by simp only [m_isText, if_neg c1, bI_some, ite00, if_true])
theorem op_put (J : Inv h) : OkI h (c_X9_put F 5 x1 x2 x3 h) (c_X10_put F 46 x1 x2 x3) := by
  obtain ⟨ow, J⟩ := J
  have o := J.1
  have I := J.2.1
  have R : Rtxt ow h := J.2.2.2.2.2.2.2.2.1
  unfold c_X9_put c_X10_put
  rw [fb_byte_twice]
  by_cases c1 : 0 ≤ x1.toInt ∧ x1.toInt ≤ 3
  · obtain ⟨r, hr, rfl⟩ := rng (x := x1) (n := 3) c1
    have b1 : okA h 7 24 (nI r) = true := okA_n (fT7 I) (fN7 I) (by omega) (by decide)
    rcases R.1 r (by omega) with ⟨g1, g2⟩ | ⟨n, a, g1, g2, g3, g4, g5, g6, g7, g8⟩
    · refine OkI.found0 (F := F) 1 (by decide) J ?_ (fun h' s => ?_)
      · show _ = c_X9_found F 5 1 h
        simp only [x_isText, if_pos c1, bI_some, ite10, fT5 I, if_true, lt_, fR5_1 I, nn, b1, ix_n (show r < 2147483648 by omega), g2, nl, bI_id]
      · have I' := I.st o s (by decide)
        have e : hI h' 51 r = -9 := (s.fam I o (c := 61) (by decide) 51 r (by omega) rfl).1.trans g1
        show _ = c_X10_meets F 46 1 h'
        rw [fT46 I', if_pos rfl, m_askedText1 F I' (by omega) e, m_meets I' F 1 1 rfl (by decide), bI_some, if_neg (by decide)]
    · have b5 : okL h a = true := okL_n g4 (by decide) (by decide)
      by_cases c2 : 0 ≤ x2.toInt ∧ x2.toInt ≤ (n : Int) - 1
      · obtain ⟨i, hi, rfl⟩ := rng (x := x2) (n := 59) ⟨c2.1, by omega⟩
        rw [toI_n (by omega)] at c2
        have c3 : ¬ nI i < 0 := pnI (by omega)
        have c4 : nI i < nI n := nI_lt (by omega) (by omega)
        have b6 : okA h a 21 (nI i) = true := okA_n g4 g5 (by omega) (by omega)
        generalize x3.toInt8.toInt32 = v
        have s1 : St [11] ow h (sI h a i v) := (St.r I).gI (by rw [g7]; decide)
        have I1 := I.st o s1 (by decide)
        have e1 : (60 : Int32) * nI r + nI i = nI (60 * r + i) := by rw [show (60 : Int32) = nI 60 from rfl, nI_mul, nI_add]
        have e2 : hI (sI h a i v) 52 (60 * r + i) = hI h a i := by
          rw [hI_sI, if_neg (by omega), g8 i (by omega)]
        have e3 : hI (sI h a i v) 51 r = nI n := by
          rw [hI_sI, if_neg (by omega), g2]
        have b8 : okA (sI h a i v) 51 20 (nI r) = true := okA_n (fT51 I1) (fN51 I1) (by omega) (by decide)
        have b9 : okA (sI h a i v) 52 20 (nI (60 * r + i)) = true := okA_n (fT52 I1) (fN52 I1) (by omega) (by decide)
        have s2 : St [11, 61] ow h (sI (sI h a i v) 52 (60 * r + i) v) := (s1.sub (by decide)).wI o 61 (by decide) rfl (by decide)
        refine ⟨hI h a i + 1000, sI h a i v, sI (sI h a i v) 52 (60 * r + i) v, ?_, ?_, ⟨ow, ?_⟩, ?_, ?_⟩
        · simp only [x_isText, if_pos c1, bI_some, ite10, fT5 I, if_true, lt_, fR5_1 I, nn, b1, ix_n (show r < 2147483648 by omega), g3, nl, if_neg c3, b5, g5, if_pos c4, b6, ix_n (show i < 2147483648 by omega)]
        · dsimp only
          rw [fT46 I1, if_pos rfl, m_askedText2 F I1 (by omega) g1 e3]
          simp only [bI_some, if_pos (show (0 : Int32) ≤ 0 by decide), fT46 I1, if_true, lt_, fR46_10 I1, nn, b8, ix_n (show r < 2147483648 by omega), e3, m_in, ti_0, predI (show n < 2147483648 by omega), toI_n (show i < 2147483648 by omega)]
          rw [if_pos c2, ite10]
          simp only [fR46_11 I1, e1, b9, if_true, ix_n (show 60 * r + i < 2147483648 by omega), e2]
        · refine J.fin o s2 (OwX.refl _ _) (by decide) (c11 := fun _ => ?_)
          refine R.set I r (by omega) (n := n) (a := a) g1 (fun q b hq hqr hb => ?_) (fun q hq => ?_) (fun q hq => ?_) (fun q k hq hqr hk => ?_) g4 g5 g6 g7 (fun k hk => ?_)
          · have hne : b ≠ a := fun e => hqr (R.2 q r a hq (by omega) (by rw [hb, e]) g3)
            rcases R.1 q hq with ⟨k1, k2⟩ | ⟨m, b', k1, k2, k3, k4, k5, k6, k7, k8⟩
            · rw [k2] at hb; cases hb
            · rw [k3] at hb; cases hb
              refine ⟨hne, rfl, rfl, fun i => rfl, fun k => ?_⟩
              simp only [hI_sI]; rw [if_neg (by omega), if_neg (by omega)]
          · simp only [hR_sI]
            split
            · rename_i e; rw [e, g3]
            · rfl
          · simp only [hI_sI]; rw [if_neg (by omega), if_neg (by omega)]
            split
            · rename_i e; rw [e, g2]
            · rfl
          · simp only [hI_sI]; rw [if_neg (by omega), if_neg (by omega)]
          · simp only [hI_sI]
            rw [if_neg (by omega)]
            by_cases e : k = i
            · subst e; simp only [true_and, if_true]
            · rw [if_neg (by omega), if_neg (by omega), if_neg (by omega), g8 k hk]
        · show hZ h ≤ _; omega
        · show hS h ≤ _; omega
      · refine OkI.found0 (F := F) 2 (by decide) J ?_ (fun h' s => ?_)
        · show _ = c_X9_found F 5 2 h
          simp only [x_isText, if_pos c1, bI_some, ite10, fT5 I, if_true, lt_, fR5_1 I, nn, b1, ix_n (show r < 2147483648 by omega), g3, nl, b5, g5, bI_id]
          by_cases c3 : x2 < 0
          · rw [if_pos c3]
          · rw [if_neg c3, if_neg (by rw [fa_lt, toI_n (by omega)]; rw [fa_lt, ti_0] at c3; omega)]
        · have I' := I.st o s (by decide)
          have e : hI h' 51 r = nI n := (s.fam I o (c := 61) (by decide) 51 r (by omega) rfl).1.trans g2
          have b8 : okA h' 51 20 (nI r) = true := okA_n (fT51 I') (fN51 I') (by omega) (by decide)
          show _ = c_X10_meets F 46 2 h'
          rw [fT46 I', if_pos rfl, m_askedText2 F I' (by omega) g1 e]
          simp only [bI_some, if_pos (show (0 : Int32) ≤ 0 by decide), fT46 I', if_true, lt_, fR46_10 I', nn, b8, ix_n (show r < 2147483648 by omega), e, m_in, ti_0, predI (show n < 2147483648 by omega)]
          rw [if_neg c2, ite00, bI_id]
  · refine OkI.same (-1) ⟨ow, J⟩ (by simp only [x_isText, if_neg c1, bI_some, ite00, if_true]) ?_
    rw [fT46 I, if_pos rfl, m_askedText0 F x1 I c1, bI_some, if_neg (by decide)]
end Ops6
