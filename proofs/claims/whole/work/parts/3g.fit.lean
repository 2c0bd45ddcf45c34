section Fit
variable {h : z_Hp} (F : Nat) (x1 x2 x3 x4 x5 : Int32)
def offI (g : Nat → Int32) (n : Nat) (tn : Nat → Int32) (m i : Nat) : Int32 := nI (acc g i n) - tn (i % m)
def badF (g : Nat → Int32) (n : Nat) (tn : Nat → Int32) (m sl i : Nat) : Prop := nI sl < offI g n tn m i ∨ ¬ (-(offI g n tn m i)) ≤ nI sl
/-- the first bad one below L, or none -/
def FM (bad : Nat → Prop) (L : Nat) (v : Int32) : Prop := (∃ i, i < L ∧ bad i ∧ (∀ j, j < i → ¬ bad j) ∧ v = nI i) ∨ ((∀ i, i < L → ¬ bad i) ∧ v = -9)
theorem FM.eq {bad : Nat → Prop} {L : Nat} {v v2 : Int32} (A : FM bad L v) (B : FM bad L v2) : v = v2 := by
  rcases A with ⟨i, h1, h2, h3, rfl⟩ | ⟨h1, rfl⟩
  · rcases B with ⟨j, k1, k2, k3, rfl⟩ | ⟨k1, rfl⟩
    · have : i = j := by
        rcases Nat.lt_trichotomy i j with c | c | c
        · exact absurd h2 (k3 i c)
        · exact c
        · exact absurd k2 (h3 j c)
      rw [this]
    · exact absurd h2 (k1 i h1)
  · rcases B with ⟨j, k1, k2, k3, rfl⟩ | ⟨k1, rfl⟩
    · exact absurd k2 (h1 j k1)
    · rfl
theorem FM.m9 {bad : Nat → Prop} {L : Nat} {v : Int32} (A : FM bad L v) (hL : L < 2147483648) : v = -9 ↔ ∀ i, i < L → ¬ bad i := by
  rcases A with ⟨i, h1, h2, h3, rfl⟩ | ⟨h1, rfl⟩
  · constructor
    · intro e
      exact absurd e (enc9 (by omega))
    · intro e
      exact absurd h2 (e i h1)
  · exact ⟨fun _ => h1, fun _ => rfl⟩
theorem x_misfit (hF : 5000 ≤ F) {a b n c m sl : Nat} {g tn : Nat → Int32} (S : SgX h a b n g) (tc : hT h c = 20) (nc : hN h c = m) (m0 : 0 < m) (m8 : m ≤ 8) (ec : ∀ k, k < m → hI h c k = tn k) : Wp (c_X7_firstMisfit F a (some c) (nI sl) h) (fun r => FM (badF g n tn m sl) (mks g n + 1) r.1 ∧ r.2 = h) := by
  have ml : mks g n ≤ n := fb_ct_le _ _
  have n60 := S.2.2.2.2.1
  have ol : okL h c = true := okL_n tc (by decide) (by decide)
  unfold c_X7_firstMisfit
  refine Wp.loop (L := fun z (u : Int32 × Int32) => c_X7_firstMisfit_L5 F a (some c) (nI sl) z u.1 u.2 h) (N := mks g n + 1) (fun i u => u.1 = nI (i % m) ∧ u.2 = nI i ∧ ∀ j, j < i → ¬ badF g n tn m sl j) (fun z i u hi hP ih => ?_) (fun z u hP => ?_) F (0, 0) (by omega) ⟨by dsimp only; rw [Nat.zero_mod]; rfl, rfl, fun j hj => by omega⟩
  · obtain ⟨u1, u2⟩ := u
    obtain ⟨q1, q2, q3⟩ := hP
    dsimp only at q1 q2 ⊢
    subst q1 q2
    have lm := Nat.mod_lt i m0
    have o1 : okA h c 20 (nI (i % m)) = true := okA_n tc nc lm (by omega)
    rw [c_X7_firstMisfit_L5, nI_1, nI_1, ix_n (show i % m < 2147483648 by omega)]
    refine Wp.ifT S.1 (Wp.ifF (by rw [S.2.2.2.2.2.2.1]; exact nI_ge hi (by omega)) (Wp.rf rfl (Wp.ifT ol ?_)))
    rw [nc]
    refine Wp.ifF (nI_ge lm (by omega)) (Wp.ifT S.1 (Wp.cI ((x_beats F hF S (show i < 100 by omega)).mono (fun r e => ?_))))
    subst e
    dsimp only
    refine Wp.ifT o1 (Wp.ltI ?_)
    rw [ec _ lm]
    by_cases d1 : nI sl < offI g n tn m i
    · exact Wp.ifT d1 (Wp.ret ⟨Or.inl ⟨i, hi, Or.inl d1, q3, rfl⟩, rfl⟩)
    · refine Wp.ifF d1 ?_
      by_cases d2 : (-(offI g n tn m i)) ≤ nI sl
      · refine Wp.ifT d2 (Wp.ifT ol (Wp.lj (fun j hj => ?_)))
        rw [nc]
        have go : ∀ p, p = (i + 1) % m → Wp (j (nI p) h) (fun r => FM (badF g n tn m sl) (mks g n + 1) r.1 ∧ r.2 = h) := fun p hp => by
          rw [hj]
          refine ih (nI p, nI (i + 1)) ⟨by rw [hp], rfl, fun y hy => ?_⟩
          by_cases e : y = i
          · rw [e]
            intro bd
            rcases bd with bd | bd
            · exact d1 bd
            · exact bd d2
          · exact q3 y (by omega)
        have em := Nat.add_mod i 1 m
        by_cases d3 : m ≤ i % m + 1
        · refine Wp.ifT (nI_le d3 (by omega)) (go 0 ?_)
          have : i % m = m - 1 := by omega
          rw [Nat.add_mod, this]
          by_cases m1 : m = 1
          · rw [m1]
          · rw [Nat.mod_eq_of_lt (show 1 < m by omega), show m - 1 + 1 = m by omega, Nat.mod_self]
        · refine Wp.ifF (nI_ge (by omega) (by omega)) (go _ ?_)
          rw [Nat.add_mod, Nat.mod_eq_of_lt (show 1 < m by omega), Nat.mod_eq_of_lt (show i % m + 1 < m by omega)]
      · exact Wp.ifF d2 (Wp.ret ⟨Or.inl ⟨i, hi, Or.inr d2, q3, rfl⟩, rfl⟩)
  · obtain ⟨u1, u2⟩ := u
    obtain ⟨q1, q2, q3⟩ := hP
    dsimp only at q1 q2 ⊢
    subst q1 q2
    rw [c_X7_firstMisfit_L5]
    exact Wp.ifT S.1 (Wp.ifT (by rw [S.2.2.2.2.2.2.1]; exact nI_le (Nat.le_refl _) (by omega)) (Wp.ret ⟨Or.inr ⟨q3, rfl⟩, rfl⟩))
theorem e8 (u k : Nat) : (8 : Int32) * nI u + nI k = nI (8 * u + k) := by rw [show (8 : Int32) = nI 8 from rfl, nI_mul, nI_add]
theorem m_unfit (I : Ifx h) (Ru : Rrul h) (hF : 5000 ≤ F) {s n u m sl : Nat} {g tn : Nat → Int32} (S : SgM h s n g) (hu : u < 6) (e57 : hI h 57 u = nI m) (m0 : 0 < m) (m8 : m ≤ 8) (e58 : ∀ k, k < m → hI h 58 (8 * u + k) = tn k) (esl : now (mm h) 0 = nI sl) : Wp (c_X10_unfit F 46 (nI s) (nI u) h) (fun r => FM (badF g n tn m sl) (mks g n + 1) r.1 ∧ ChI Aw h r.2) := by
  have ml : mks g n ≤ n := fb_ct_le _ _
  have n60 := S.2.1
  unfold c_X10_unfit
  refine Wp.ifT (fT46 I) (Wp.cIe (m_now F I Ru hF 0 0 rfl (by decide)) (Wp.ifT (fT46 I) (Wp.cI ((m_lines F I hF S).mono (fun r d => ?_)))))
  obtain ⟨l, v⟩ := r
  obtain ⟨d1, d2, W⟩ := d
  dsimp only at d1 d2 W ⊢
  subst d1
  rw [esl]
  refine Wp.loop (L := fun z (q : Int32 × z_Hp) => c_X10_unfit_L16 F 46 (nI s) (nI u) (nI sl) (nI (mks g n + 1)) z q.1 q.2) (N := mks g n + 1) (fun i q => q.1 = nI i ∧ ChI Aw h q.2 ∧ ∀ j, j < i → ¬ badF g n tn m sl j) (fun z i q hi hP ih => ?_) (fun z q hP => ?_) F (0, v) (by omega) ⟨rfl, d2, fun j hj => by omega⟩
  · obtain ⟨q0, k⟩ := q
    obtain ⟨q1, q2, q3⟩ := hP
    dsimp only at q1 q2 ⊢
    subst q1
    have Ik := q2.fx I
    have Sk := S.ch q2 (fun i => ⟨by unfold Aw; omega, by unfold Aw; omega⟩)
    rw [c_X10_unfit_L16, nI_1]
    refine Wp.ifF (nI_ge hi (by omega)) (Wp.ifT (fT46 Ik) (Wp.cI ((m_measureOf F Ik hF Sk (show i ≤ mks g n by omega)).mono (fun r d => ?_))))
    obtain ⟨x, k2⟩ := r
    obtain ⟨f1, f2, f3⟩ := d
    dsimp only at f1 f2 f3 ⊢
    subst f1
    have I2 := f2.fx Ik
    have c2 : ChI Aw h k2 := (q2.trans f2).mono (fun a i e => by rcases e with e | e <;> exact e)
    have lm := Nat.mod_lt i m0
    have o57 : okA k2 57 20 (nI u) = true := okA_n (fT57 I2) (fN57 I2) (by omega) (by decide)
    have o58 : okA k2 58 20 (nI (8 * u + i % m)) = true := okA_n (fT58 I2) (fN58 I2) (by omega) (by decide)
    have f57 : hI k2 57 u = nI m := (c2.1 57 u (by unfold Aw; omega)).trans e57
    have f58 : hI k2 58 (8 * u + i % m) = tn (i % m) := (c2.1 58 _ (by unfold Aw; omega)).trans (e58 _ lm)
    refine Wp.ifT (fT46 I2) (Wp.ltO (Wp.ifT (fT46 I2) (Wp.ltO (Wp.rf (fR46_17 I2) (Wp.ifT o57 ?_)))))
    rw [ix_n (show u < 2147483648 by omega), f57, pk_rem (show i < 2 ^ 31 by omega) m0 (by omega), e8, ix_n (show 8 * u + i % m < 2147483648 by omega)]
    refine Wp.ifF (nI_ne0 m0 (by omega)) (Wp.rf (fR46_18 I2) (Wp.ifT o58 (Wp.ltI ?_)))
    rw [f58]
    by_cases g1 : nI sl < offI g n tn m i
    · exact Wp.ifT g1 (Wp.ret ⟨Or.inl ⟨i, hi, Or.inl g1, q3, rfl⟩, c2⟩)
    · refine Wp.ifF g1 ?_
      by_cases g2 : (-(offI g n tn m i)) ≤ nI sl
      · refine Wp.ifT g2 (Wp.ltI (ih (nI (i + 1), k2) ⟨rfl, c2, fun y hy => ?_⟩))
        by_cases e : y = i
        · rw [e]
          intro bd
          rcases bd with bd | bd
          · exact g1 bd
          · exact bd g2
        · exact q3 y (by omega)
      · exact Wp.ifF g2 (Wp.ret ⟨Or.inl ⟨i, hi, Or.inr g2, q3, rfl⟩, c2⟩)
  · obtain ⟨q0, k⟩ := q
    obtain ⟨q1, q2, q3⟩ := hP
    dsimp only at q1 q2 ⊢
    subst q1
    rw [c_X10_unfit_L16]
    exact Wp.ifT (nI_le (Nat.le_refl _) (by omega)) (Wp.ret ⟨Or.inr ⟨q3, rfl⟩, q2⟩)
theorem Rtun.x {ow : Ow} (R : Rtun ow h) {u : Nat} (hu : u < 6) : (hI h 57 u = -9 ∧ hR h 9 u = none) ∨ ∃ m c, 0 < m ∧ m ≤ 8 ∧ hI h 57 u = nI m ∧ hR h 9 u = some c ∧ hT h c = 20 ∧ hN h c = m ∧ ∀ k, k < m → hI h c k = hI h 58 (8 * u + k) := by
  obtain ⟨r1, r2⟩ := R u hu
  rcases r1 with e | ⟨m, c, a1, a2, a3, a4, a5, a6, a7, a8⟩
  · exact Or.inl e
  · refine Or.inr ⟨m, c, ?_, a1, a2, a3, a4, a5, a8⟩
    apply Nat.pos_of_ne_zero
    intro z
    rw [z] at a2
    exact r2 a2
theorem op_fit (hF : 5000 ≤ F) (J : Inv h) : OkI h (c_X9_fit F 5 x1 x2 h) (c_X10_fit F 46 x1 x2) := by
  obtain ⟨ow, J⟩ := J
  have o := J.1
  have I := J.2.1
  by_cases c1 : 0 ≤ x1.toInt ∧ x1.toInt ≤ 9
  · by_cases c2 : 0 ≤ x2.toInt ∧ x2.toInt ≤ 5
    · obtain ⟨s, hs, rfl⟩ := rng (x := x1) (n := 9) c1
      obtain ⟨u, hu, rfl⟩ := rng (x := x2) (n := 5) c2
      have o8 : okA h 8 25 (nI s) = true := okA_n (fT8 I) (fN8 I) (by omega) (by decide)
      have o9 : okA h 9 23 (nI u) = true := okA_n (fT9 I) (fN9 I) (by omega) (by decide)
      have miss : (hR h 8 s = none ∨ hR h 9 u = none) → (hI h 53 s < 0 ∨ ¬ 0 ≤ hI h 57 u) → OkI h (c_X9_fit F 5 (nI s) (nI u) h) (c_X10_fit F 46 (nI s) (nI u)) := fun m1 m2 => by
        refine OkI.found0 (F := F) 1 (by decide) J ?_ (fun h' w => ?_)
        · unfold c_X9_fit
          show _ = c_X9_found F 5 1 h
          rw [x_isSong, bI_some, if_pos c1, ite10, x_isTune, bI_some, if_pos c2, ite10]
          simp only [fT5 I, fR5_2 I, fR5_3 I, if_true, ltq, nnq, o8, o9, ix_n (show s < 2147483648 by omega), ix_n (show u < 2147483648 by omega)]
          cases e : hR h 8 s with
          | none => rw [nlz, bI_id]
          | some a =>
            rw [nlq]
            rcases m1 with m1 | m1
            · rw [m1] at e; cases e
            · rw [m1, nlz, bI_id]
        · have I' := I.st o w (by decide)
          have e53 : hI h' 53 s = hI h 53 s := (w.fam I o (c := 62) (by decide) 53 s (by omega) rfl).1
          have e57 : hI h' 57 u = hI h 57 u := (w.fam I o (c := 63) (by decide) 57 u (by omega) rfl).1
          have o53 : okA h' 53 20 (nI s) = true := okA_n (fT53 I') (fN53 I') (by omega) (by decide)
          have o57 : okA h' 57 20 (nI u) = true := okA_n (fT57 I') (fN57 I') (by omega) (by decide)
          unfold c_X10_fit
          show _ = c_X10_meets F 46 1 h'
          rw [m_isSong, bI_some, if_pos c1, ite10, m_isTune, bI_some, if_pos c2, ite10]
          simp only [fT46 I', fR46_12 I', fR46_17 I', if_true, ltq, nnq, o53, o57, ix_n (show s < 2147483648 by omega), ix_n (show u < 2147483648 by omega), e53, e57]
          by_cases d : hI h 53 s < 0
          · rw [if_pos d, bI_id]
          · rw [if_neg d]
            rcases m2 with m2 | m2
            · exact absurd m2 d
            · rw [if_neg m2, bI_id]
      rcases J.sng.x (s := s) (by omega) with ⟨g1, g2⟩ | ⟨n, a, b, g, e1, e2, X, M, _⟩
      · exact miss (Or.inl g2) (Or.inl (by rw [g1]; exact neg9))
      · rcases J.tun.x (u := u) (by omega) with ⟨t1, t2⟩ | ⟨m, c, m0, m8, t1, t2, t3, t4, t5⟩
        · exact miss (Or.inr t2) (Or.inr (by rw [t1]; exact nn9))
        · have n60 := M.2.1
          obtain ⟨sl, hsl, esl⟩ := now_r J.rul (w := 0) (by decide)
          obtain ⟨⟨v, k0⟩, f1, f2, f3⟩ := x_misfit F hF (sl := sl) (tn := fun k => hI h 58 (8 * u + k)) X t3 t4 m0 m8 t5
          dsimp only at f2 f3
          rw [f3] at f1
          obtain ⟨⟨v2, k⟩, k1, k2, k3⟩ := m_unfit F I J.rul hF (sl := sl) (tn := fun k => hI h 58 (8 * u + k)) M (show u < 6 by omega) t1 m0 m8 (fun _ _ => rfl) esl
          dsimp only at k2 k3
          have ev := f2.eq k2
          subst ev
          have sk : St [102] ow h k := k3.st (fs := [102]) I o (fun a i e => e.ow)
          have o53 : okA h 53 20 (nI s) = true := okA_n (fT53 I) (fN53 I) (by omega) (by decide)
          have o57 : okA h 57 20 (nI u) = true := okA_n (fT57 I) (fN57 I) (by omega) (by decide)
          refine ⟨v, h, k, ?_, ?_, ⟨ow, J.fin o sk (OwX.refl _ _) (by decide)⟩, by rw [k3.Z.1]; omega, by rw [k3.Z.2]; omega⟩
          · unfold c_X9_fit
            rw [x_isSong, bI_some, if_pos c1, ite10, x_isTune, bI_some, if_pos c2, ite10]
            simp only [fT5 I, fR5_2 I, fR5_3 I, if_true, ltq, nnq, o8, o9, ix_n (show s < 2147483648 by omega), ix_n (show u < 2147483648 by omega), e2, t2, nlq, x_now F I J.sta J.rul J.tod hF 0 0 rfl (by decide), bIq, X.1, esl, f1]
          · unfold c_X10_fit
            rw [m_isSong, bI_some, if_pos c1, ite10, m_isTune, bI_some, if_pos c2, ite10]
            simp only [fT46 I, fR46_12 I, fR46_17 I, if_true, ltq, nnq, o53, o57, ix_n (show s < 2147483648 by omega), ix_n (show u < 2147483648 by omega), e1, t1, if_neg (pnI (show n < 2147483648 by omega)), if_pos (nge (show m < 2147483648 by omega)), k1, bIq]
    · refine OkI.same (-1) ⟨ow, J⟩ ?_ ?_
      · unfold c_X9_fit
        rw [x_isSong, bI_some, if_pos c1, ite10, x_isTune, bI_some, if_neg c2, ite00]
      · unfold c_X10_fit
        rw [m_isSong, bI_some, if_pos c1, ite10, m_isTune, bI_some, if_neg c2, ite00]
  · refine OkI.same (-1) ⟨ow, J⟩ ?_ ?_
    · unfold c_X9_fit
      rw [x_isSong, bI_some, if_neg c1, ite00]
    · unfold c_X10_fit
      rw [m_isSong, bI_some, if_neg c1, ite00]
/-! ===== tunes ===== -/
def fitB (g : Nat → Int32) (n : Nat) (tn : Nat → Int32) (m sl : Nat) : Bool := decide (∀ i, i < mks g n + 1 → ¬ (nI sl < offI g n tn m i ∨ ¬ (-(offI g n tn m i)) ≤ nI sl))
theorem fitB_iff {g : Nat → Int32} {n : Nat} {tn : Nat → Int32} {m sl : Nat} {v : Int32} (A : FM (badF g n tn m sl) (mks g n + 1) v) (hn : n ≤ 60) : v = -9 ↔ fitB g n tn m sl = true := by
  have ml : mks g n ≤ n := fb_ct_le _ _
  rw [A.m9 (by omega)]
  unfold fitB
  rw [decide_eq_true_iff]
  exact Iff.rfl
def tuB (M : Nat → Nat → Int32) (g : Nat → Int32) (n sl u : Nat) : Bool := decide (¬ M 57 u < 0) && fitB g n (fun k => M 58 (8 * u + k)) (ix (M 57 u)) sl
theorem op_tunes (hF : 5000 ≤ F) (J : Inv h) : OkI h (c_X9_tunes F 5 x1 h) (c_X10_tunes F 46 x1) := by
  obtain ⟨ow, J⟩ := J
  have o := J.1
  have I := J.2.1
  by_cases c1 : 0 ≤ x1.toInt ∧ x1.toInt ≤ 9
  · obtain ⟨s, hs, rfl⟩ := rng (x := x1) (n := 9) c1
    have o8 : okA h 8 25 (nI s) = true := okA_n (fT8 I) (fN8 I) (by omega) (by decide)
    rcases J.sng.x (s := s) (by omega) with ⟨g1, g2⟩ | ⟨n, a, b, g, e1, e2, X, M, _⟩
    · refine OkI.found0 (F := F) 1 (by decide) J ?_ (fun h' w => ?_)
      · unfold c_X9_tunes
        show _ = c_X9_found F 5 1 h
        rw [x_isSong, bI_some, if_pos c1, ite10]
        simp only [fT5 I, fR5_2 I, if_true, ltq, nnq, o8, ix_n (show s < 2147483648 by omega), g2, nlz, bI_id]
      · have I' := I.st o w (by decide)
        have e : hI h' 53 s = -9 := (w.fam I o (c := 62) (by decide) 53 s (by omega) rfl).1.trans g1
        unfold c_X10_tunes
        show _ = c_X10_meets F 46 1 h'
        rw [fT46 I', if_pos rfl, m_askS F I' (by omega), e, if_neg nn9, m_meets I' F 1 1 rfl (by decide), bI_some, if_neg (by decide)]
    · have n60 := M.2.1
      obtain ⟨sl, hsl, esl⟩ := now_r J.rul (w := 0) (by decide)
      have m57 : ∀ u, mm h 57 u = hI h 57 u := fun _ => rfl
      have m58 : ∀ u, mm h 58 u = hI h 58 u := fun _ => rfl
      have bs6 : ∀ t, t ≤ 6 → bset (tuB (mm h) g n sl) t < 64 := fun t ht => Nat.lt_of_lt_of_le (bset_lt _ t) (show 2 ^ t ≤ 2 ^ 6 from Nat.pow_le_pow_right (by decide) ht)
      have S1 : ∀ t, bset (tuB (mm h) g n sl) (t + 1) = if tuB (mm h) g n sl t = true then bset (tuB (mm h) g n sl) t ||| 2 ^ t else bset (tuB (mm h) g n sl) t := fun t => rfl
      have XX : Wp (c_X9_tunes F 5 (nI s) h) (fun r => r = (nI (bset (tuB (mm h) g n sl) 6), h)) := by
        unfold c_X9_tunes
        refine Wp.cIe (x_isSong F _ _) (Wp.ifF (by rw [if_pos c1]; exact one0) (Wp.ifT (fT5 I) (Wp.ltO (Wp.rf (fR5_2 I) (Wp.ifT o8 (Wp.ltO ?_))))))
        rw [ix_n (show s < 2147483648 by omega)]
        refine Wp.rs e2 (Wp.ifT (fT5 I) (Wp.cIe (x_now F I J.sta J.rul J.tod hF 0 0 rfl (by decide)) ?_))
        rw [esl]
        refine Wp.loop (L := fun z (q : Int32 × Int32) => c_X9_tunes_L38 F 5 a (nI sl) z q.1 q.2 h) (N := 6) (fun t q => q.1 = nI (bset (tuB (mm h) g n sl) t) ∧ q.2 = nI t) (fun z t q ht hP ih => ?_) (fun z q hP => ?_) F (0, 0) (by omega) ⟨rfl, rfl⟩
        · obtain ⟨q0, q1⟩ := q
          obtain ⟨p1, p2⟩ := hP
          dsimp only at p1 p2 ⊢
          subst p1 p2
          have o9 : okA h 9 23 (nI t) = true := okA_n (fT9 I) (fN9 I) (by omega) (by decide)
          rw [c_X9_tunes_L38, nI_1]
          refine Wp.ifF (nI_ge (b := 6) ht (by omega)) (Wp.ifT (fT5 I) (Wp.ltO (Wp.rf (fR5_3 I) (Wp.ifT o9 (Wp.ltO (Wp.lj (fun j hj => ?_)))))))
          rw [ix_n (show t < 2147483648 by omega)]
          have go : ∀ v, v = bset (tuB (mm h) g n sl) (t + 1) → Wp (j (nI v) h) (fun r => r = (nI (bset (tuB (mm h) g n sl) 6), h)) := fun v hv => by
            rw [hj]
            exact ih (nI v, nI (t + 1)) ⟨by rw [hv], rfl⟩
          rcases J.tun.x (u := t) ht with ⟨t1, t2⟩ | ⟨m, c, m0, m8, t1, t2, t3, t4, t5⟩
          · refine Wp.rz t2 (go _ ?_)
            have f : tuB (mm h) g n sl t = false := by unfold tuB; rw [m57, t1, decide_eq_false (fun y => y neg9), Bool.false_and]
            rw [S1, f, if_neg (by decide)]
          · have f : tuB (mm h) g n sl t = fitB g n (fun k => hI h 58 (8 * t + k)) m sl := by
              unfold tuB
              rw [m57, t1, decide_eq_true (pnI (by omega)), Bool.true_and, ix_n (by omega)]; rfl
            refine Wp.rs t2 (Wp.ifT X.1 (Wp.cI ((x_misfit F hF (sl := sl) (tn := fun k => hI h 58 (8 * t + k)) X t3 t4 m0 m8 t5).mono (fun r e => ?_))))
            obtain ⟨v, k0⟩ := r
            obtain ⟨f1, f2⟩ := e
            dsimp only at f1 f2 ⊢
            rw [f2]
            by_cases d : v = -9
            · refine Wp.ifT d (Wp.ltI ?_)
              rw [shl_1 t (by omega), fa_or]
              exact go _ (by rw [S1, f, if_pos ((fitB_iff f1 n60).mp d)])
            · exact Wp.ifF d (go _ (by rw [S1, f, if_neg (fun y => d ((fitB_iff f1 n60).mpr y))]))
        · obtain ⟨q0, q1⟩ := q
          obtain ⟨p1, p2⟩ := hP
          dsimp only at p1 p2 ⊢
          subst p1 p2
          rw [c_X9_tunes_L38]
          exact Wp.ifT (by decide) (Wp.ret rfl)
      have MM : Wp (c_X10_tunes F 46 (nI s) h) (fun r => r.1 = nI (bset (tuB (mm h) g n sl) 6) ∧ ChI Aw h r.2) := by
        unfold c_X10_tunes
        refine Wp.ifT (fT46 I) (Wp.cIe (show c_X10_askedSong F 46 (nI s) h = some (0, h) by rw [m_askS F I (by omega), e1, if_pos (nge (by omega))]) (Wp.ifT (by decide) ?_))
        refine Wp.loop (L := fun z (q : Int32 × Int32 × z_Hp) => c_X10_tunes_L17 F 46 (nI s) z q.1 q.2.1 q.2.2) (N := 6) (fun t q => q.1 = nI (bset (tuB (mm h) g n sl) t) ∧ q.2.1 = nI t ∧ ChI Aw h q.2.2) (fun z t q ht hP ih => ?_) (fun z q hP => ?_) F (0, 0, h) (by omega) ⟨rfl, rfl, ChI.refl _ _⟩
        · obtain ⟨q0, q1, k⟩ := q
          obtain ⟨p1, p2, p3⟩ := hP
          dsimp only at p1 p2 p3 ⊢
          subst p1 p2
          have Ik := p3.fx I
          have Mk := M.ch p3 (fun i => ⟨by unfold Aw; omega, by unfold Aw; omega⟩)
          have sk : St [102] ow h k := p3.st (fs := [102]) I o (fun a i e => e.ow)
          have mk' : mm k = mm h := p3.mm (fun a i e => e.sc)
          have f57 : hI k 57 t = hI h 57 t := p3.1 57 t (by unfold Aw; omega)
          have o57 : okA k 57 20 (nI t) = true := okA_n (fT57 Ik) (fN57 Ik) (by omega) (by decide)
          rw [c_X10_tunes_L17, nI_1]
          refine Wp.ifF (nI_ge (b := 6) ht (by omega)) (Wp.ifT (fT46 Ik) (Wp.ltO (Wp.rf (fR46_17 Ik) (Wp.ifT o57 (Wp.lj (fun j hj => Wp.lj (fun j2 hj2 => ?_)))))))
          rw [ix_n (show t < 2147483648 by omega), f57]
          have go : ∀ x k', nI (bset (tuB (mm h) g n sl) t) ||| x = nI (bset (tuB (mm h) g n sl) (t + 1)) → ChI Aw h k' → Wp (j x k') (fun r => r.1 = nI (bset (tuB (mm h) g n sl) 6) ∧ ChI Aw h r.2) := fun x k' hx hk => by
            rw [hj]
            dsimp only [lt_]
            rw [hx]
            exact ih (nI (bset (tuB (mm h) g n sl) (t + 1)), nI (t + 1), k') ⟨rfl, rfl, hk⟩
          have go0 : ∀ k', tuB (mm h) g n sl t = false → ChI Aw h k' → Wp (j2 k') (fun r => r.1 = nI (bset (tuB (mm h) g n sl) 6) ∧ ChI Aw h r.2) := fun k' hx hk => by
            rw [hj2]
            exact go 0 k' (by rw [show (0 : Int32) = nI 0 from rfl, fa_or, Nat.or_zero, S1, hx, if_neg (by decide)]) hk
          rcases J.tun.x (u := t) ht with ⟨t1, t2⟩ | ⟨m, c, m0, m8, t1, t2, t3, t4, t5⟩
          · refine Wp.ifT (by rw [t1]; decide) (go0 _ ?_ p3)
            unfold tuB
            rw [m57, t1, decide_eq_false (fun y => y neg9), Bool.false_and]
          · have f : tuB (mm h) g n sl t = fitB g n (fun k => hI h 58 (8 * t + k)) m sl := by
              unfold tuB
              rw [m57, t1, decide_eq_true (pnI (by omega)), Bool.true_and, ix_n (by omega)]; rfl
            refine Wp.ifF (by rw [t1]; exact nI_nle m0 (by omega)) (Wp.ifT (fT46 Ik) (Wp.cI ((m_unfit F Ik (J.rul.st I o sk (by decide) (by decide)) hF (sl := sl) (tn := fun k => hI h 58 (8 * t + k)) Mk ht (f57.trans t1) m0 m8 (fun y _ => p3.1 58 _ (by unfold Aw; omega)) (by rw [mk']; exact esl)).mono (fun r e => ?_))))
            obtain ⟨v, k'⟩ := r
            obtain ⟨f1, f2⟩ := e
            dsimp only at f1 f2 ⊢
            have c2 : ChI Aw h k' := (p3.trans f2).mono (fun a i e => by rcases e with e | e <;> exact e)
            by_cases d : v = -9
            · exact Wp.ifT d (go _ _ (by rw [shl_1 t (by omega), fa_or, S1, f, if_pos ((fitB_iff f1 n60).mp d)]) c2)
            · refine Wp.ifF d (go0 _ ?_ c2)
              rw [f]
              cases y : fitB g n (fun k => hI h 58 (8 * t + k)) m sl with
              | true => exact absurd ((fitB_iff f1 n60).mpr y) d
              | false => rfl
        · obtain ⟨q0, q1, k⟩ := q
          obtain ⟨p1, p2, p3⟩ := hP
          dsimp only at p1 p2 p3 ⊢
          subst p1 p2
          rw [c_X10_tunes_L17]
          exact Wp.ifT (by decide) (Wp.ret ⟨rfl, p3⟩)
      refine OkI.wp (XX.mono (fun r e => ?_))
      subst e
      refine MM.mono (fun r e => ⟨e.1, ⟨ow, J.fin o (e.2.st (fs := [102]) I o (fun a i e => e.ow)) (OwX.refl _ _) (by decide)⟩, by rw [e.2.Z.1]; omega, by rw [e.2.Z.2]; omega⟩)
  · refine OkI.same (-1) ⟨ow, J⟩ ?_ ?_
    · unfold c_X9_tunes
      rw [x_isSong, bI_some, if_neg c1, ite00]
    · unfold c_X10_tunes
      rw [fT46 I, if_pos rfl, m_askS_no F c1, bI_some, if_neg (by decide)]
end Fit
