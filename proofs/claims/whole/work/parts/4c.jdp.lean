section Jdp
variable {h : z_Hp} (F : Nat) (x1 x2 x3 x4 x5 : Int32)
theorem op_judge (hF : 5000 ≤ F) (J : Inv h) : OkI h (c_X9_judge F 5 x1 x2 h) (c_X10_judge F 46 x1 x2) := by
  obtain ⟨ow, J⟩ := J
  have o := J.1
  have I := J.2.1
  have RR : Rrow ow h := J.2.2.2.2.2.2.2.1
  obtain ⟨q, hq, h1, h2, h3, h4, h5⟩ := J.she
  have p2 : 2 ^ q ≤ 2 ^ 20 := Nat.pow_le_pow_right (by decide) hq
  have e20 : (2 : Nat) ^ 20 = 1048576 := by decide
  by_cases c : 1 ≤ x1.toInt ∧ x1.toInt ≤ (2 ^ q : Nat) - 1
  · by_cases c2 : 0 ≤ x2.toInt ∧ x2.toInt ≤ 5
    · obtain ⟨D, hD', rfl⟩ := rng (x := x1) (n := 1048575) ⟨by omega, by omega⟩
      obtain ⟨r, hr, rfl⟩ := rng (x := x2) (n := 5) c2
      have hD : D < 1048576 := by omega
      have c' := c
      rw [toI_n (by omega)] at c'
      have d1 : 1 ≤ D := by omega
      have d2 : D < 2 ^ q := by omega
      have pl : pcn D 20 ≤ 20 := fb_ct_le _ _
      have pq : pcn D 20 = pcn D q := by have := pcn_q d2 (20 - q); rw [show q + (20 - q) = 20 by omega] at this; exact this
      have o6 : okA h 6 23 (nI r) = true := okA_n (fT6 I) (fN6 I) (by omega) (by decide)
      have xf := fun k (hk : k < 6) => x_found I F (nI k) k rfl hk
      by_cases pc : pcn D 20 ≤ 10
      · obtain ⟨⟨v, k0⟩, eS, v2, v3⟩ := x_haveS F I J.sng hF hq h1 h3 hD
        dsimp only at v2 v3
        rw [v2] at eS
        -- the reference's first steps, at a heap behind a call that found
        have mst : ∀ (h' : z_Hp) (k : Nat), k < 6 → Ifx h' → hI h' 46 26 = nI q → RefS h' q → (AllS h' q D ↔ AllS h q D) → ((hI h' 48 r < 0 ∧ k = 1) ∨ (¬ hI h' 48 r < 0 ∧ ¬ AllS h q D ∧ k = 1) ∨ (¬ hI h' 48 r < 0 ∧ AllS h q D ∧ ¬ hI h' 48 r = nI (pcn D 20) ∧ k = 5)) → c_X10_judge F 46 (nI D) (nI r) h' = c_X10_meets F 46 (nI k) h' := fun h' k hk I' e26 R' A' cs => by
          have mt := m_meets I' F (nI k) k rfl hk
          have o48 : okA h' 48 20 (nI r) = true := okA_n (fT48 I') (fN48 I') (by omega) (by decide)
          refine eq_wp ?_
          unfold c_X10_judge
          rw [ix_n (show r < 2147483648 by omega)]
          refine Wp.cIe (m_isRow F _ _) (Wp.ifF (by rw [if_pos c2]; exact one0) (Wp.ifT (fT46 I') (Wp.cIe (m_set F I' hF hq e26 hD d1 d2) ?_)))
          rw [if_pos pc]
          refine Wp.ifT (by decide) (Wp.ifT (fT46 I') (Wp.ltO (Wp.rf (fR46_7 I') (Wp.ifT o48 (Wp.lj (fun jA hjA => ?_))))))
          have gA : k = 1 → Wp (jA h') (fun r => some r = c_X10_meets F 46 (nI k) h') := fun e => by
            rw [hjA]
            refine Wp.ifT (fT46 I') ?_
            rw [bI_id]
            rw [e] at mt ⊢
            exact ⟨_, mt, mt.symm⟩
          by_cases cn : hI h' 48 r < 0
          · refine Wp.ifT cn (gA ?_)
            rcases cs with ⟨_, y⟩ | ⟨y, _⟩ | ⟨y, _⟩
            · exact y
            · exact absurd cn y
            · exact absurd cn y
          · refine Wp.ifF cn (Wp.ifT (fT46 I') (Wp.cI ((m_haveS F I' hF hq e26 R' hD).mono (fun u d => ?_))))
            obtain ⟨r1, k1⟩ := u
            obtain ⟨w1, w2⟩ := d
            dsimp only at w1 w2 ⊢
            rw [w1]
            rcases w2 with ⟨w2, w3⟩ | ⟨w2, w3⟩
            · rw [w3]
              refine Wp.ifF one0 (Wp.ifT (fT46 I') (Wp.ltO (Wp.rf (fR46_7 I') (Wp.ifT o48 (Wp.cIe (m_bits F (by omega) hF) ?_)))))
              rcases cs with ⟨y, _⟩ | ⟨_, y, _⟩ | ⟨_, _, y, ek⟩
              · exact absurd y cn
              · exact absurd (A'.mp w2) y
              · refine Wp.ifF y (Wp.ifT (fT46 I') ?_)
                rw [bI_id]
                rw [ek] at mt ⊢
                exact ⟨_, mt, mt.symm⟩
            · refine Wp.ifT w3 (gA ?_)
              rcases cs with ⟨y, _⟩ | ⟨_, _, y⟩ | ⟨_, y, _⟩
              · exact absurd y cn
              · exact y
              · exact absurd (A'.mpr y) w2
        have fnd : ∀ k, k < 6 → c_X9_judge F 5 (nI D) (nI r) h = c_X9_found F 5 (nI k) h → ((hI h 48 r < 0 ∧ k = 1) ∨ (¬ hI h 48 r < 0 ∧ ¬ AllS h q D ∧ k = 1) ∨ (¬ hI h 48 r < 0 ∧ AllS h q D ∧ ¬ hI h 48 r = nI (pcn D 20) ∧ k = 5)) → OkI h (c_X9_judge F 5 (nI D) (nI r) h) (c_X10_judge F 46 (nI D) (nI r)) := fun k hk ex cs => by
          refine OkI.found0 (F := F) k hk J ex (fun h' w => ?_)
          have I' := I.st o w (by decide)
          refine mst h' k hk I' ((w.fam I o (c := 66) (by decide) 46 26 (by omega) rfl).1.trans h2) ((Sh.refS h3 J.sng).st I o w (by decide) (by decide)) (AllS.st I o w (by decide) (by decide)) ?_
          rw [(w.fam I o (c := 60) (by decide) 48 r (by omega) rfl).1]
          exact cs
        rcases RR.1 r (by omega) with ⟨g1, g2⟩ | ⟨n, a, n40, e48, e6, ta, na, a94, oa, ea⟩
        · refine fnd 1 (by decide) (eq_wp ?_) (Or.inl ⟨by rw [g1]; exact neg9, rfl⟩)
          unfold c_X9_judge
          rw [ix_n (show r < 2147483648 by omega)]
          refine Wp.ifT (fT5 I) (Wp.cIe (x_set F I hq h1 _) (Wp.ifF (by rw [if_pos c]; exact one0) (Wp.cIe (x_isRow F _ _) (Wp.ifF (by rw [if_pos c2]; exact one0) (Wp.cIe (bitc F hD) (Wp.ifT (nI_le (b := 10) pc (by decide)) (Wp.ifT (fT5 I) (Wp.ltO (Wp.rf (fR5_0 I) (Wp.ifT o6 (Wp.ltO (Wp.lj (fun jA hjA => Wp.rz g2 ?_)))))))))))))
          rw [hjA]
          refine Wp.ifT (fT5 I) ?_
          rw [bI_id]
          exact ⟨_, xf 1 (by decide), (xf 1 (by decide)).symm⟩
        · have ol : okL h a = true := okL_n ta (by decide) (by decide)
          by_cases A : AllS h q D
          · have v4 : v = 1 := by
              rcases v3 with ⟨_, y⟩ | ⟨y, _⟩
              · exact y
              · exact absurd A y
            rw [v4] at eS
            by_cases en : n = pcn D 20
            · obtain ⟨sl, hsl, esl⟩ := now_r J.rul (w := 3) (by decide)
              have n1 : 1 ≤ pcn D q ∧ ∃ t, t < q ∧ D.testBit t = true := by
                obtain ⟨i, hi⟩ := Nat.exists_testBit_of_ne_zero (show D ≠ 0 by omega)
                have iq : i < q := by
                  by_cases y : i < q
                  · exact y
                  · have := Nat.testBit_lt_two_pow (show D < 2 ^ i from Nat.lt_of_lt_of_le d2 (Nat.pow_le_pow_right (by decide) (by omega)))
                    rw [this] at hi; cases hi
                have a1 := pcn_mono D (show i + 1 ≤ q by omega)
                have a2 := pcn_s D i
                rw [if_pos hi] at a2
                exact ⟨by omega, i, iq, hi⟩
              have f48 : hI h 48 r = nI (pcn D q) := by rw [e48, en, pq]
              unfold c_X9_judge
              rw [ix_n (show r < 2147483648 by omega)]
              refine OkI.wp ?_
              refine Wp.ifT (fT5 I) (Wp.cIe (x_set F I hq h1 _) (Wp.ifF (by rw [if_pos c]; exact one0) (Wp.cIe (x_isRow F _ _) (Wp.ifF (by rw [if_pos c2]; exact one0) (Wp.cIe (bitc F hD) (Wp.ifT (nI_le (b := 10) pc (by decide)) (Wp.ifT (fT5 I) (Wp.ltO (Wp.rf (fR5_0 I) (Wp.ifT o6 (Wp.ltO (Wp.lj (fun jA hjA => Wp.rs e6 ?_)))))))))))))
              refine Wp.ifT (fT5 I) (Wp.cIe eS (Wp.ifF one0 (Wp.ifT ol (Wp.ifT (by rw [na, en]) (Wp.ifT (fT5 I) (Wp.ltO (Wp.ifT (fT5 I) (Wp.ltO (Wp.ifT (fT5 I) (Wp.cIe (x_now F I J.sta J.rul J.tod hF 3 3 rfl (by decide)) (Wp.rf (fR5_8 I) (Wp.ifT (fT20 I) ?_))))))))))))
              rw [esl, fR5_6 I]
              refine Wp.cI ((x_work F o I J.prn hF hq h1 h3 hsl).mono (fun u d => ?_))
              obtain ⟨x, g⟩ := u
              obtain ⟨f1, f2, f3, f4⟩ := d
              dsimp only at f1 f2 f3 f4 ⊢
              have Ig := f2.fx I
              have sg : St [121, 123] ow h g := f2.st I o (fun a i e => e.ow)
              by_cases f : fea (mm h) q sl (fun _ => false) = true
              · rw [if_pos f] at f1
                rw [f1]
                refine Wp.ifF one0 (Wp.ifT (fT5 Ig) (Wp.ltO (Wp.ifT (fT5 Ig) (Wp.ltO (Wp.ifT (fT5 Ig) (Wp.ltO (Wp.ifT (fT5 Ig) (Wp.ltO (Wp.rf (fR5_8 Ig) (Wp.ifT (fT20 Ig) (Wp.ltO (Wp.rf (fR5_9 Ig) (Wp.ifT (fT28 Ig) ?_)))))))))))))
                rw [fR5_6 Ig, fR5_2 Ig, fR20_5 Ig]
                have gS : Rsng ow g := J.sng.st I o sg (OwX.refl _ _) (by decide) (by decide)
                have gH : Sh ow g q := Sh.st h3 I o sg (by decide) (by decide) (by decide)
                refine Wp.cV ((x_gath F Ig gS hF (y := yl (mm h) q (fun _ => false)) hq ((f2.1 14 1 (by unfold A3; omega)).trans h1) gH hD pc (fun s hs => ⟨(f4 s hs).1, (f4 s hs).2.2.1⟩)).mono (fun k1 G => ?_))
                obtain ⟨G1, G2, b, G3, G4, G5, G6⟩ := G
                have I1 := G1.fx Ig
                have sk : St [121, 123, 124] ow h k1 := (sg.trans (G1.st Ig o)).sub (by decide)
                have T1 : hT k1 a = 20 := (sk.2.1 a (I.al ta (by decide))).1.trans ta
                have N1 : hN k1 a = pcn D q := by rw [(sk.2.1 a (I.al ta (by decide))).2, na, en, pq]
                have V1 : ∀ j, j < pcn D q → hI k1 a j = (fun j => hI h 49 (40 * r + j)) j := fun j hj => by
                  rw [(sk.2.2.1 a j (I.al ta (by decide)) (by rw [oa j]; decide)).1]; exact ea j (by omega)
                refine Wp.ifT (fT5 I1) (Wp.ltO (Wp.rf (fR5_9 I1) (Wp.ifT (fT28 I1) (Wp.cI ((x_fwp F I1 hF (w := fun j => hI h 49 (40 * r + j)) hq (by omega) G2 G3 (fun j hj => (G4 j hj).2) G6 (fun s hs ms => (G5 s hs ms).1) T1 N1 V1).mono (fun u w => ?_))))))
                obtain ⟨u1, k2⟩ := u
                obtain ⟨w1, w2⟩ := w
                dsimp only at w1 w2 ⊢
                rw [w1]
                rcases w2 with ⟨s, b1, b2, b3, b4, b5⟩ | ⟨b1, b2⟩
                · refine Wp.ifF (by rw [b5]; exact enc9 (by omega)) (Wp.ret ?_)
                  dsimp only
                  refine (m_jud F J hF hq h2 h3 d1 d2 hD pc pq n1.2 A hsl esl (by omega) f48 (sk.sub (by decide))).mono (fun u m => ?_)
                  obtain ⟨m1, m2, m3, m4, m5⟩ := m
                  rcases m1 with ⟨m1, _⟩ | ⟨_, ⟨t, t1, t2, t3, t4, t5, t6⟩ | ⟨m1, _⟩⟩
                  · exact absurd f m1
                  · have et : t = s := by
                      rcases Nat.lt_trichotomy t s with y | y | y
                      · exact absurd (b4 t y t2) t3
                      · exact y
                      · exact absurd (t4 s y b2) b3
                    refine ⟨by rw [t5, b5, et], ⟨ow, J.fin o m2 (OwX.refl _ _) (by decide) (c3 := fun _ => ?_)⟩, ?_, ?_⟩
                    · show hI u.2 5 15 = hI u.2 46 2
                      rw [m3, t6, (sk.fam I o (c := 3) (by decide) 5 15 (by omega) rfl).1]; exact J.2.2.2.2.1
                    · rw [m4, G1.2.2.2.2.1, f2.Z.1]; omega
                    · rw [m5, G1.2.2.2.2.2, f2.Z.2]; omega
                  · exact absurd (m1 s b1 b2) b3
                · refine Wp.ifT b2 (Wp.ifT (fT5 I1) (Wp.ltO (Wp.rf (fR5_9 I1) (Wp.ifT (fT28 I1) (Wp.cI ((x_sO F I1 hF (V := VV h) (w := fun j => hI h 49 (40 * r + j)) hq (by omega) G2 (fun s hs ms => (G5 s hs ms).1) a94 T1 N1 V1 b1 (fun k ck t s ht hs mt ms => ?_)).mono (fun u w => ?_)))))))
                  · have s2 : St [121, 123, 124, 125] ow h k := (sk.trans (ck.st (fs := [125]) I1 o (fun a i e => by rw [e]; exact ⟨by decide, List.mem_cons_self⟩))).sub (by decide)
                    have Ik := ck.fx I1
                    obtain ⟨_, t10, _⟩ := (Sh.refS h3 J.sng) t ht
                    obtain ⟨_, s10, _⟩ := (Sh.refS h3 J.sng) s hs
                    obtain ⟨ai, ri, Si, t60, _⟩ := sg_ok J.sng t10 (A _ ht mt)
                    obtain ⟨aj, rj, Sj, s60, _⟩ := sg_ok J.sng s10 (A _ hs ms)
                    rw [VV_eq t60 s60]
                    refine x_cF F o Ik hF (by omega) (by omega) ?_ ?_ (Si.st I s2 (OwX.refl _ _) (by decide) rfl) (Sj.st I s2 (OwX.refl _ _) (by decide) rfl) t60 s60
                    · rw [ck.R, (G5 _ ht mt).2, f2.R, so_st I o sg (by decide)]; exact ri
                    · rw [ck.R, (G5 _ hs ms).2, f2.R, so_st I o sg (by decide)]; exact rj
                  · obtain ⟨z1, k3⟩ := u
                    obtain ⟨y1, y2⟩ := w
                    dsimp only at y1 y2 ⊢
                    have I3 := y2.fx I1
                    have s3 : St [121, 123, 124, 125, 3] ow h (sI k3 5 15 z1) := ((sk.trans (y2.st (fs := [125]) I1 o (fun a i e => by rw [e]; exact ⟨by decide, List.mem_cons_self⟩))).sub (by decide)).wI o 3 (by decide) rfl (by decide)
                    refine Wp.ifT (fT5 I3) (Wp.ltH (Wp.ret ?_))
                    dsimp only
                    refine (m_jud F J hF hq h2 h3 d1 d2 hD pc pq n1.2 A hsl esl (by omega) f48 s3).mono (fun u m => ?_)
                    obtain ⟨m1, m2, m3, m4, m5⟩ := m
                    rcases m1 with ⟨m1, _⟩ | ⟨_, ⟨t, t1, t2, t3, _⟩ | ⟨_, m6, m7⟩⟩
                    · exact absurd f m1
                    · exact absurd (b1 t t1 t2) t3
                    · refine ⟨by rw [m6, b2], ⟨ow, J.fin o m2 (OwX.refl _ _) (by decide) (c3 := fun _ => ?_)⟩, ?_, ?_⟩
                      · show hI u.2 5 15 = hI u.2 46 2
                        rw [m3, m7, hI_sI, if_pos ⟨rfl, rfl⟩, y1]
                        have := sm_sel (fun t => D.testBit t) (fun j => ctb (VV h) (hI h 49 (40 * r + j)) (mem D q j)) q
                        refine congrArg nI (this.symm.trans (fb_sm_cong (fun s hs => ?_)))
                        by_cases cm : D.testBit s = true
                        · rw [if_pos cm, if_pos cm]
                          show ctb (VV h) (hI h 49 (40 * r + pcn D s)) (mem D q (pcn D s)) = _
                          rw [mem_at hs cm]
                        · rw [if_neg cm, if_neg cm]
                      · rw [m4]; show hZ k3 ≤ _; rw [y2.Z.1, G1.2.2.2.2.1, f2.Z.1]; omega
                      · rw [m5]; show hS k3 ≤ _; rw [y2.Z.2, G1.2.2.2.2.2, f2.Z.2]; omega
              · rw [if_neg f] at f1
                rw [f1]
                refine Wp.ifT rfl (Wp.ret ?_)
                dsimp only
                refine (m_jud F J hF hq h2 h3 d1 d2 hD pc pq n1.2 A hsl esl (by omega) f48 (sg.sub (by decide))).mono (fun u m => ?_)
                obtain ⟨m1, m2, m3, m4, m5⟩ := m
                rcases m1 with ⟨_, m1, m6⟩ | ⟨m1, _⟩
                · refine ⟨m1, ⟨ow, J.fin o m2 (OwX.refl _ _) (by decide) (c3 := fun _ => ?_)⟩, ?_, ?_⟩
                  · show hI u.2 5 15 = hI u.2 46 2
                    rw [m3, m6, (sg.fam I o (c := 3) (by decide) 5 15 (by omega) rfl).1]; exact J.2.2.2.2.1
                  · rw [m4, f2.Z.1]; omega
                  · rw [m5, f2.Z.2]; omega
                · exact absurd m1 f
            · refine fnd 5 (by decide) (eq_wp ?_) (Or.inr (Or.inr ⟨by rw [e48]; exact pnI (by omega), A, by rw [e48]; exact fun y => en ((nI_eq (by omega) (by omega)).mp y), rfl⟩))
              unfold c_X9_judge
              rw [ix_n (show r < 2147483648 by omega)]
              refine Wp.ifT (fT5 I) (Wp.cIe (x_set F I hq h1 _) (Wp.ifF (by rw [if_pos c]; exact one0) (Wp.cIe (x_isRow F _ _) (Wp.ifF (by rw [if_pos c2]; exact one0) (Wp.cIe (bitc F hD) (Wp.ifT (nI_le (b := 10) pc (by decide)) (Wp.ifT (fT5 I) (Wp.ltO (Wp.rf (fR5_0 I) (Wp.ifT o6 (Wp.ltO (Wp.lj (fun jA hjA => Wp.rs e6 ?_)))))))))))))
              refine Wp.ifT (fT5 I) (Wp.cIe eS (Wp.ifF one0 (Wp.ifT ol (Wp.ifF (by rw [na]; exact fun y => en ((nI_eq (by omega) (by omega)).mp y)) (Wp.ifT (fT5 I) ?_)))))
              rw [bI_id]
              exact ⟨_, xf 5 (by decide), (xf 5 (by decide)).symm⟩
          · have v4 : v = 0 := by
              rcases v3 with ⟨y, _⟩ | ⟨_, y⟩
              · exact absurd y A
              · exact y
            rw [v4] at eS
            refine fnd 1 (by decide) (eq_wp ?_) (Or.inr (Or.inl ⟨by rw [e48]; exact pnI (by omega), A, rfl⟩))
            unfold c_X9_judge
            rw [ix_n (show r < 2147483648 by omega)]
            refine Wp.ifT (fT5 I) (Wp.cIe (x_set F I hq h1 _) (Wp.ifF (by rw [if_pos c]; exact one0) (Wp.cIe (x_isRow F _ _) (Wp.ifF (by rw [if_pos c2]; exact one0) (Wp.cIe (bitc F hD) (Wp.ifT (nI_le (b := 10) pc (by decide)) (Wp.ifT (fT5 I) (Wp.ltO (Wp.rf (fR5_0 I) (Wp.ifT o6 (Wp.ltO (Wp.lj (fun jA hjA => Wp.rs e6 ?_)))))))))))))
            refine Wp.ifT (fT5 I) (Wp.cIe eS (Wp.ifT rfl ?_))
            rw [hjA]
            refine Wp.ifT (fT5 I) ?_
            rw [bI_id]
            exact ⟨_, xf 1 (by decide), (xf 1 (by decide)).symm⟩
      · refine OkI.same (-6) ⟨ow, J⟩ ?_ ?_
        · unfold c_X9_judge
          rw [fT5 I, if_pos rfl, x_set F I hq h1, bI_some, if_pos c, ite10, x_isRow, bI_some, if_pos c2, ite10, bitc F hD, bI_some, if_neg (show ¬ nI (pcn D 20) ≤ 10 from nI_ge (a := 10) (by omega) (by omega))]
        · unfold c_X10_judge
          rw [m_isRow, bI_some, if_pos c2, ite10, fT46 I, if_pos rfl, m_set F I hF hq h2 hD d1 d2, bI_some, if_neg pc, if_neg (show ¬ (0 : Int32) ≤ -6 by decide)]
    · refine OkI.same (-1) ⟨ow, J⟩ ?_ ?_
      · unfold c_X9_judge
        rw [fT5 I, if_pos rfl, x_set F I hq h1, bI_some, if_pos c, ite10, x_isRow, bI_some, if_neg c2, ite00]
      · unfold c_X10_judge
        rw [m_isRow, bI_some, if_neg c2, ite00]
  · refine OkI.same (-1) ⟨ow, J⟩ ?_ ?_
    · unfold c_X9_judge
      rw [fT5 I, if_pos rfl, x_set F I hq h1, bI_some, if_neg c, ite00]
    · unfold c_X10_judge
      rw [m_isRow, bI_some]
      by_cases c2 : 0 ≤ x2.toInt ∧ x2.toInt ≤ 5
      · rw [if_pos c2, ite10, fT46 I, if_pos rfl, m_set_no F I hq h2 c, bI_some, if_neg (show ¬ (0 : Int32) ≤ -1 by decide)]
      · rw [if_neg c2, ite00]
end Jdp
