section Famo
variable {h : z_Hp} (F : Nat) (x1 x2 x3 x4 x5 : Int32)
def sn (h : z_Hp) (i : Nat) : Nat := ix (hI h 53 i)
def sf (h : z_Hp) (i : Nat) : Nat → Int32 := fun k => hI h 54 (60 * i + k)
/-- the changes from sheet t to sheet s -/
def VV (h : z_Hp) (t s : Nat) : Nat := min 120 (dist (sf h (so h t)) (sn h (so h t)) (sf h (so h s)) (sn h (so h s)))
theorem VV_le (t s : Nat) : VV h t s ≤ 120 := Nat.min_le_left _ _
theorem VV_eq {t s : Nat} (ht : sn h (so h t) ≤ 60) (hs : sn h (so h s) ≤ 60) : VV h t s = dist (sf h (so h t)) (sn h (so h t)) (sf h (so h s)) (sn h (so h s)) := Nat.min_eq_right (by have := dist_le (sf h (so h t)) (sn h (so h t)) (sf h (so h s)) (sn h (so h s)); omega)
theorem sg_ok {ow : Ow} (R : Rsng ow h) {i : Nat} (hi : i < 10) (c : ¬ hI h 53 i = -9) : ∃ a, hR h 8 i = some a ∧ sgAt ow h i a (sn h i) (sf h i) ∧ sn h i ≤ 60 ∧ SgM h i (sn h i) (sf h i) := by
  rcases R i hi with ⟨y, _⟩ | ⟨n, a, n60, e1, e2, S⟩
  · exact absurd y c
  · have e : sn h i = n := by unfold sn; rw [e1]; exact ix_n (by omega)
    rw [e]
    exact ⟨a, e2, S, n60, hi, n60, e1, fun k _ => rfl, S.2.2.2.1⟩
theorem so_st {fs : List Nat} {ow : Ow} {g : z_Hp} (I : Ifx h) (o : OwOK ow) (s : St fs ow h g) (n66 : 66 ∉ fs) (t : Nat) : so g t = so h t := by
  unfold so; rw [(s.fam I o n66 67 t (by omega) rfl).1]
theorem SgM.st {fs : List Nat} {ow : Ow} {g : z_Hp} {i n : Nat} {f : Nat → Int32} (M : SgM h i n f) (I : Ifx h) (o : OwOK ow) (s : St fs ow h g) (n62 : 62 ∉ fs) : SgM g i n f := ⟨M.1, M.2.1, (s.fam I o n62 53 i (by omega) rfl).1.trans M.2.2.1, fun k hk => (s.fam I o n62 54 _ (by omega) rfl).1.trans (M.2.2.2.1 k hk), M.2.2.2.2⟩
theorem RefS.st {fs : List Nat} {ow : Ow} {g : z_Hp} {q : Nat} (R : RefS h q) (I : Ifx h) (o : OwOK ow) (s : St fs ow h g) (n62 : 62 ∉ fs) (n66 : 66 ∉ fs) : RefS g q := fun t ht => by
  obtain ⟨a1, a2, a3⟩ := R t ht
  rw [so_st I o s n66]
  refine ⟨(s.fam I o n66 67 t (by omega) rfl).1.trans a1, a2, ?_⟩
  rcases a3 with y | ⟨n, f, M⟩
  · exact Or.inl ((s.fam I o n62 53 _ (by omega) rfl).1.trans y)
  · exact Or.inr ⟨n, f, M.st I o s n62⟩
theorem AllS.st {fs : List Nat} {ow : Ow} {g : z_Hp} {q D : Nat} (I : Ifx h) (o : OwOK ow) (s : St fs ow h g) (n62 : 62 ∉ fs) (n66 : 66 ∉ fs) : AllS g q D ↔ AllS h q D := by
  unfold AllS
  constructor
  · intro A t ht hm
    have := A t ht hm
    rw [so_st I o s n66, (s.fam I o n62 53 _ (by omega) rfl).1] at this
    exact this
  · intro A t ht hm
    rw [so_st I o s n66, (s.fam I o n62 53 _ (by omega) rfl).1]
    exact A t ht hm
theorem m_fam {ow : Ow} {e0 : z_Hp} (J : InvO ow h) (hF : 5000 ≤ F) {q D sl : Nat} (hq : q ≤ 20) (h2 : hI h 46 26 = nI q) (h3 : Sh ow h q) (d1 : 1 ≤ D) (d2 : D < 2 ^ q) (hD : D < 1048576) (pc : pcn D 20 ≤ 10) (A : AllS h q D) (hsl : sl ≤ 999) (esl : now (mm h) 3 = nI sl) (s0 : St [121, 123, 124, 125, 4] ow h e0) : Wp (c_X10_family F 46 (nI D) e0) (fun r => ((fea (mm h) q sl (fun _ => false) = true ∧ r.1 = nI (gs (· + ·) 0 (fS (VV h) D (yl (mm h) q (fun _ => false)) q) q) ∧ hJ r.2 46 3 = Int64.ofNat (gs (· * ·) 1 (fP (VV h) D (yl (mm h) q (fun _ => false)) q) q)) ∨ (¬ fea (mm h) q sl (fun _ => false) = true ∧ r.1 = -4 ∧ hJ r.2 46 3 = hJ h 46 3)) ∧ St [121, 123, 124, 125, 4, 106, 54, 102, 107, 108] ow h r.2 ∧ hJ r.2 5 14 = hJ e0 5 14 ∧ hZ r.2 = hZ e0 ∧ hS r.2 = hS e0) := by
  have o := J.1
  have I := J.2.1
  have I0 := I.st o s0 (by decide)
  have m0 : mm e0 = mm h := mm_st I o s0 (by decide)
  have e26 : hI e0 46 26 = nI q := (s0.fam I o (c := 66) (by decide) 46 26 (by omega) rfl).1.trans h2
  have R0 := (Sh.refS h3 J.sng).st I o s0 (by decide) (by decide)
  unfold c_X10_family
  refine Wp.ifT (fT46 I0) (Wp.cIe (m_set F I0 hF hq e26 hD d1 d2) ?_)
  rw [if_pos pc]
  refine Wp.ifT (by decide) (Wp.ifT (fT46 I0) (Wp.cI ((m_haveS F I0 hF hq e26 R0 hD).mono (fun r d => ?_))))
  obtain ⟨r1, k0⟩ := r
  obtain ⟨w1, w2⟩ := d
  dsimp only at w1 w2 ⊢
  subst w1
  have w3 : r1 = 1 := by
    rcases w2 with ⟨_, y⟩ | ⟨y, _⟩
    · exact y
    · exact absurd ((AllS.st I o s0 (by decide) (by decide)).mpr A) y
  subst w3
  refine Wp.ifF one0 (Wp.ifT (fT46 I0) (Wp.cI ((m_setYears F I0 (J.rul.st I o s0 (by decide) (by decide)) hF (W := 0) hq e26 ((Sh.ref h3 J.prn).st hq I o s0 (by decide) (by decide)) hsl (by rw [m0]; exact esl) (by decide)).mono (fun r k => ?_))))
  obtain ⟨x', g'⟩ := r
  obtain ⟨k1, k2, k3⟩ := k
  rw [m0] at k1 k3
  have z : (fun s : Nat => (0 : Nat).testBit s) = fun _ => false := by funext i; exact Nat.zero_testBit i
  rw [z] at k1 k3
  dsimp only at k1 k2 k3 ⊢
  have I' := k2.fx I0
  have s' : St [121, 123, 124, 125, 4, 106] ow h g' := (s0.trans (k2.st (fs := [106]) I0 o (fun a i e => e.ow))).sub (by decide)
  by_cases f : fea (mm h) q sl (fun _ => false) = true
  · rw [if_pos f] at k1
    subst k1
    refine Wp.ifF one0 (Wp.ifT (fT46 I') (Wp.ltH ?_))
    have s1 : St [121, 123, 124, 125, 4, 106, 54] ow h (sJ g' 46 3 1) := (s'.sub (by decide)).wJ o 54 (by decide) rfl (by decide)
    have I1 := I.st o s1 (by decide)
    have R1 := (Sh.refS h3 J.sng).st I o s1 (by decide) (by decide)
    refine (m_fL47 F I1 hF (V := VV h) (y := yl (mm h) q (fun _ => false)) (sg := so h) hq ((s1.fam I o (c := 66) (by decide) 46 26 (by omega) rfl).1.trans h2) hD (fun v hv => ⟨(k3 v hv).1, (k3 v hv).2.2.1⟩) (fun v hv => by rw [(R1 v hv).1, so_st I o s1 (by decide)]) VV_le (fun k ck t s ht hs mt ms => ?_) (by rw [hJ_sJ, if_pos ⟨rfl, rfl⟩])).mono (fun r w => ?_)
    · have s2 := s1.trans (ck.st I1 o)
      have Ik := ck.fx I1
      obtain ⟨_, t10, _⟩ := (Sh.refS h3 J.sng) t ht
      obtain ⟨_, s10, _⟩ := (Sh.refS h3 J.sng) s hs
      obtain ⟨_, _, _, t60, tM⟩ := sg_ok J.sng t10 (A t ht mt)
      obtain ⟨_, _, _, s60, sM⟩ := sg_ok J.sng s10 (A s hs ms)
      rw [VV_eq t60 s60]
      exact m_chg F Ik hF (tM.st I o s2 (by decide)) (sM.st I o s2 (by decide))
    · obtain ⟨w1, w2, w3⟩ := w
      refine ⟨Or.inl ⟨f, w1, w3⟩, (s1.trans (w2.st I1 o)).sub (by decide), ?_, ?_, ?_⟩
      · rw [w2.2.1 5 14 (by omega), hJ_sJ, if_neg (by omega), k2.J]
      · rw [w2.2.2.2.2.1]; exact k2.Z.1
      · rw [w2.2.2.2.2.2]; exact k2.Z.2
  · rw [if_neg f] at k1
    subst k1
    exact Wp.ifT rfl (Wp.ret ⟨Or.inr ⟨f, rfl, (s'.fam I o (c := 54) (by decide) 46 3 (by omega) rfl).2.1⟩, s'.sub (by decide), k2.J 5 14, k2.Z.1, k2.Z.2⟩)
theorem op_family (hF : 5000 ≤ F) (J : Inv h) : OkI h (c_X9_family F 5 x1 h) (c_X10_family F 46 x1) := by
  obtain ⟨ow, J⟩ := J
  have o := J.1
  have I := J.2.1
  obtain ⟨q, hq, h1, h2, h3, h4, h5⟩ := J.she
  have p2 : 2 ^ q ≤ 2 ^ 20 := Nat.pow_le_pow_right (by decide) hq
  have e20 : (2 : Nat) ^ 20 = 1048576 := by decide
  by_cases c : 1 ≤ x1.toInt ∧ x1.toInt ≤ (2 ^ q : Nat) - 1
  · obtain ⟨D, hD', rfl⟩ := rng (x := x1) (n := 1048575) ⟨by omega, by omega⟩
    have hD : D < 1048576 := by omega
    have c' := c
    rw [toI_n (by omega)] at c'
    have d1 : 1 ≤ D := by omega
    have d2 : D < 2 ^ q := by omega
    have pl : pcn D 20 ≤ 20 := fb_ct_le _ _
    by_cases pc : pcn D 20 ≤ 10
    · obtain ⟨⟨v, k0⟩, eS, v2, v3⟩ := x_haveS F I J.sng hF hq h1 h3 hD
      dsimp only at v2 v3
      rw [v2] at eS
      by_cases A : AllS h q D
      · have v4 : v = 1 := by
          rcases v3 with ⟨_, y⟩ | ⟨y, _⟩
          · exact y
          · exact absurd A y
        rw [v4] at eS
        obtain ⟨sl, hsl, esl⟩ := now_r J.rul (w := 3) (by decide)
        unfold c_X9_family
        refine OkI.wp (Wp.ifT (fT5 I) (Wp.cIe (x_set F I hq h1 _) ?_))
        refine Wp.ifF (by rw [if_pos c]; exact one0) (Wp.cIe (bitc F hD) (Wp.ifT (nI_le (b := 10) pc (by decide)) (Wp.ifT (fT5 I) (Wp.cIe eS (Wp.ifF one0 (Wp.ifT (fT5 I) (Wp.ltO (Wp.ifT (fT5 I) (Wp.ltO (Wp.ifT (fT5 I) (Wp.cIe (x_now F I J.sta J.rul J.tod hF 3 3 rfl (by decide)) (Wp.rf (fR5_8 I) (Wp.ifT (fT20 I) ?_)))))))))))))
        rw [esl, fR5_6 I]
        refine Wp.cI ((x_work F o I J.prn hF hq h1 h3 hsl).mono (fun r d => ?_))
        obtain ⟨x, g⟩ := r
        obtain ⟨f1, f2, f3, f4⟩ := d
        dsimp only at f1 f2 f3 f4 ⊢
        have Ig := f2.fx I
        have sg : St [121, 123] ow h g := f2.st I o (fun a i e => e.ow)
        by_cases f : fea (mm h) q sl (fun _ => false) = true
        · rw [if_pos f] at f1
          subst f1
          refine Wp.ifF one0 (Wp.ifT (fT5 Ig) (Wp.ltO (Wp.ifT (fT5 Ig) (Wp.ltO (Wp.ifT (fT5 Ig) (Wp.ltO (Wp.ifT (fT5 Ig) (Wp.ltO (Wp.rf (fR5_8 Ig) (Wp.ifT (fT20 Ig) (Wp.ltO (Wp.rf (fR5_9 Ig) (Wp.ifT (fT28 Ig) ?_)))))))))))))
          rw [fR5_6 Ig, fR5_2 Ig, fR20_5 Ig]
          have gS : Rsng ow g := J.sng.st I o sg (OwX.refl _ _) (by decide) (by decide)
          have gH : Sh ow g q := Sh.st h3 I o sg (by decide) (by decide) (by decide)
          refine Wp.cV ((x_gath F Ig gS hF (y := yl (mm h) q (fun _ => false)) hq ((f2.1 14 1 (by unfold A3; omega)).trans h1) gH hD pc (fun s hs => ⟨(f4 s hs).1, (f4 s hs).2.2.1⟩)).mono (fun k1 G => ?_))
          obtain ⟨G1, G2, b, G3, G4, G5, G6⟩ := G
          have I1 := G1.fx Ig
          have sk : St [121, 123, 124] ow h k1 := (sg.trans (G1.st Ig o)).sub (by decide)
          have pm := pcn_mono D hq
          have n1 : 1 ≤ pcn D q := by
            obtain ⟨i, hi⟩ := Nat.exists_testBit_of_ne_zero (show D ≠ 0 by omega)
            have iq : i < q := by
              by_cases y : i < q
              · exact y
              · have := Nat.testBit_lt_two_pow (show D < 2 ^ i from Nat.lt_of_lt_of_le d2 (Nat.pow_le_pow_right (by decide) (by omega)))
                rw [this] at hi; cases hi
            have a1 := pcn_mono D (show i + 1 ≤ q by omega)
            have a2 := pcn_s D i
            rw [if_pos hi] at a2
            omega
          have hb : ∀ j, j < pcn D q → b j < 20 ∧ hI k1 31 j = nI (b j) := fun j hj => ⟨by have := (G3.1 j hj).1; omega, (G4 j hj).1⟩
          refine Wp.ifT (fT5 I1) (Wp.ltO (Wp.rf (fR5_9 I1) (Wp.ifT (fT28 I1) (Wp.cI ((x_least F I1 hF (V := VV h) n1 (by omega) G2 hb VV_le (fun k ck i j hi hj => ?_)).mono (fun r w => ?_))))))
          · have s2 : St [121, 123, 124, 124, 125] ow h k := (sk.trans (ck.st (fs := [124, 125]) I1 o (fun a i e => e.ow))).sub (by decide)
            have Ik := ck.fx I1
            obtain ⟨bi, mi⟩ := G3.1 i hi
            obtain ⟨bj, mj⟩ := G3.1 j hj
            obtain ⟨_, t10, _⟩ := (Sh.refS h3 J.sng) (b i) bi
            obtain ⟨_, s10, _⟩ := (Sh.refS h3 J.sng) (b j) bj
            obtain ⟨ai, ri, Si, t60, _⟩ := sg_ok J.sng t10 (A _ bi mi)
            obtain ⟨aj, rj, Sj, s60, _⟩ := sg_ok J.sng s10 (A _ bj mj)
            rw [VV_eq t60 s60]
            refine x_cF F o Ik hF (by omega) (by omega) ?_ ?_ (Si.st I s2 (OwX.refl _ _) (by decide) rfl) (Sj.st I s2 (OwX.refl _ _) (by decide) rfl) t60 s60
            · rw [ck.R, (G5 _ bi mi).2, f2.R, so_st I o sg (by decide)]; exact ri
            · rw [ck.R, (G5 _ bj mj).2, f2.R, so_st I o sg (by decide)]; exact rj
          · obtain ⟨r1, k2⟩ := r
            obtain ⟨w1, w2, w3⟩ := w
            dsimp only at w1 w2 w3 ⊢
            have I2 := w2.fx I1
            have s2 : St [121, 123, 124, 125] ow h k2 := (sk.trans (w2.st (fs := [124, 125]) I1 o (fun a i e => e.ow))).sub (by decide)
            obtain ⟨Q1, Q2⟩ := fam_eq (r := fun t => ix (hI k1 32 t)) G3 (fun j hj => by
              rw [(G4 j hj).2]; exact ix_n (by omega)) (VV h)
            have bd : gs (· * ·) 1 (fun i => cf (lc (fun j => VV h (b j) (b i)) (fun _ => true) i).2) (pcn D q) < 2147483648 := by
              have := fam_bd (f := fun i => cf (lc (fun j => VV h (b j) (b i)) (fun _ => true) i).2) rfl (pcn D q - 1) (by omega) (fun k hk => by
                have := (lc_bd (v := fun j => VV h (b j) (b k)) (p := fun _ => true) (n := k) (B := 120) (fun j _ => VV_le _ _)).2
                unfold cf
                split <;> omega)
              rw [show pcn D q - 1 + 1 = pcn D q by omega] at this
              have p9 : 9 ^ (pcn D q - 1) ≤ 9 ^ 9 := Nat.pow_le_pow_right (by decide) (by omega)
              have e9 : (9 : Nat) ^ 9 = 387420489 := by decide
              omega
            refine Wp.ifT (fT5 I2) (Wp.ltO (Wp.rf (fR5_9 I2) (Wp.ifT (fT28 I2) (Wp.ifT (fT5 I2) (Wp.ltH (Wp.ret ?_))))))
            dsimp only
            rw [w3, t64 bd]
            rw [Q2]
            have s3 : St [121, 123, 124, 125, 4] ow h (sJ k2 5 14 (Int64.ofNat (gs (· * ·) 1 (fP (VV h) D (yl (mm h) q (fun _ => false)) q) q))) := (s2.sub (by decide)).wJ o 4 (by decide) rfl (by decide)
            refine (m_fam F J hF hq h2 h3 d1 d2 hD pc A hsl esl s3).mono (fun r m => ?_)
            obtain ⟨m1, m2, m3, m4, m5⟩ := m
            rcases m1 with ⟨_, m1, m6⟩ | ⟨m1, _⟩
            · refine ⟨by rw [m1, w1, Q1], ⟨ow, J.fin o m2 (OwX.refl _ _) (by decide) (c4 := fun _ => ?_)⟩, ?_, ?_⟩
              · show hJ r.2 5 14 = hJ r.2 46 3
                rw [m3, m6, hJ_sJ, if_pos ⟨rfl, rfl⟩]
              · rw [m4]; show hZ k2 ≤ _; rw [w2.Z.1, G1.2.2.2.2.1, f2.Z.1]; omega
              · rw [m5]; show hS k2 ≤ _; rw [w2.Z.2, G1.2.2.2.2.2, f2.Z.2]; omega
            · exact absurd f m1
        · rw [if_neg f] at f1
          subst f1
          refine Wp.ifT rfl (Wp.ret ?_)
          dsimp only
          refine (m_fam F J hF hq h2 h3 d1 d2 hD pc A hsl esl (sg.sub (by decide))).mono (fun r m => ?_)
          obtain ⟨m1, m2, m3, m4, m5⟩ := m
          rcases m1 with ⟨m1, _⟩ | ⟨_, m1, m6⟩
          · exact absurd m1 f
          · refine ⟨m1, ⟨ow, J.fin o m2 (OwX.refl _ _) (by decide) (c4 := fun _ => ?_)⟩, ?_, ?_⟩
            · show hJ r.2 5 14 = hJ r.2 46 3
              rw [m3, m6, f2.J]; exact J.2.2.2.2.2.1
            · rw [m4, f2.Z.1]; omega
            · rw [m5, f2.Z.2]; omega
      · have v4 : v = 0 := by
          rcases v3 with ⟨y, _⟩ | ⟨_, y⟩
          · exact absurd y A
          · exact y
        rw [v4] at eS
        refine OkI.found0 (F := F) 1 (by decide) J ?_ (fun h' w => ?_)
        · unfold c_X9_family
          show _ = c_X9_found F 5 1 h
          rw [fT5 I, if_pos rfl, x_set F I hq h1, bI_some, if_pos c, ite10, bitc F hD, bI_some, if_pos (show nI (pcn D 20) ≤ 10 from nI_le (b := 10) pc (by decide)), fT5 I, if_pos rfl, eS, bI_some, ite00, fT5 I, if_pos rfl, bI_id]
        · have I' := I.st o w (by decide)
          have e26 : hI h' 46 26 = nI q := (w.fam I o (c := 66) (by decide) 46 26 (by omega) rfl).1.trans h2
          obtain ⟨⟨z, k1⟩, eM, z2, z3⟩ := m_haveS F I' hF hq e26 ((Sh.refS h3 J.sng).st I o w (by decide) (by decide)) hD
          dsimp only at z2 z3
          rw [z2] at eM
          have z4 : z = 0 := by
            rcases z3 with ⟨y, _⟩ | ⟨_, y⟩
            · exact absurd ((AllS.st I o w (by decide) (by decide)).mp y) A
            · exact y
          rw [z4] at eM
          unfold c_X10_family
          show _ = c_X10_meets F 46 1 h'
          rw [fT46 I', if_pos rfl, m_set F I' hF hq e26 hD d1 d2, bI_some, if_pos pc, if_pos (show (0 : Int32) ≤ 0 by decide), fT46 I', if_pos rfl, eM, bI_some, ite00, fT46 I', if_pos rfl, bI_id]
    · refine OkI.same (-6) ⟨ow, J⟩ ?_ ?_
      · unfold c_X9_family
        rw [fT5 I, if_pos rfl, x_set F I hq h1, bI_some, if_pos c, ite10, bitc F hD, bI_some, if_neg (show ¬ nI (pcn D 20) ≤ 10 from nI_ge (a := 10) (by omega) (by omega))]
      · unfold c_X10_family
        rw [fT46 I, if_pos rfl, m_set F I hF hq h2 hD d1 d2, bI_some, if_neg pc, if_neg (show ¬ (0 : Int32) ≤ -6 by decide)]
  · refine OkI.same (-1) ⟨ow, J⟩ ?_ ?_
    · unfold c_X9_family
      rw [fT5 I, if_pos rfl, x_set F I hq h1, bI_some, if_neg c, ite00]
    · unfold c_X10_family
      rw [fT46 I, if_pos rfl, m_set_no F I hq h2 c, bI_some, if_neg (show ¬ (0 : Int32) ≤ -1 by decide)]
end Famo
