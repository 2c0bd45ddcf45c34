section Stand
variable {h : z_Hp} (F : Nat) (x1 x2 x3 x4 x5 : Int32)
theorem m_saL85 (I : Ifx h) (hF : 5000 ≤ F) {n s t js jt : Nat} (hn : n ≤ 12) (hs : s < 20) (ht : t < 20) (hjs : js < n) (hjt : jt < n) (h3 : hI h 46 39 = nI n) (obf : Nat → Nat) (ho : ∀ j, j < n → obf j < 20 ∧ hI h 77 j = nI (obf j)) (has : ∀ j, j < n → (obf j = s ↔ j = js)) (hat : ∀ j, j < n → (obf j = t ↔ j = jt)) (K : Int32 → Int32 → z_Hp → Option (Int32 × z_Hp)) : c_X10_standsAhead_L85 F 46 (nI s) (nI t) K F 0 0 0 h = K (nI js) (nI jt) h := by
  have key := lpS (L := fun m (u : Int32 × Int32 × Int32) => c_X10_standsAhead_L85 F 46 (nI s) (nI t) K m u.1 u.2.1 u.2.2 h) (R := K (nI js) (nI jt) h) (fun k => (nI (if js < k then js else 0), nI (if jt < k then jt else 0), nI k)) n (fun m k hk => ?_) (fun m => ?_) F (by omega)
  · exact key
  · show c_X10_standsAhead_L85 F 46 (nI s) (nI t) K (m + 1) (nI (if js < k then js else 0)) (nI (if jt < k then jt else 0)) (nI k) h = c_X10_standsAhead_L85 F 46 (nI s) (nI t) K m (nI (if js < k + 1 then js else 0)) (nI (if jt < k + 1 then jt else 0)) (nI (k + 1)) h
    obtain ⟨o1, o2⟩ := ho k hk
    have b2 : okA h 77 20 (nI k) = true := okA_n (fT77 I) (fN77 I) (by omega) (by decide)
    have st : ∀ r jr, (∀ j, j < n → (obf j = r ↔ j = jr)) → r < 20 → (if nI (obf k) = nI r then nI k else nI (if jr < k then jr else 0)) = nI (if jr < k + 1 then jr else 0) := fun r jr hr h20 => by
      by_cases c : obf k = r
      · have ek := (hr k hk).mp c
        rw [if_pos (by rw [c])]
        subst ek
        rw [if_pos (by omega)]
      · have ek : ¬ k = jr := fun e => c ((hr k hk).mpr e)
        rw [if_neg (fun e => c ((nI_eq (by omega) (by omega)).mp e))]
        by_cases e : jr < k
        · rw [if_pos e, if_pos (by omega)]
        · rw [if_neg e, if_neg (by omega)]
    rw [c_X10_standsAhead_L85]
    simp only [fT46 I, fR46_40 I, if_true, h3, if_neg (nI_ge hk (show n < 2 ^ 31 by omega)), ltq, nnq, b2, ix_n (show k < 2147483648 by omega), o2, nI_1]
    rw [← st s js has hs, ← st t jt hat ht]
    by_cases c : nI (obf k) = nI s
    · rw [if_pos c, if_pos c]
      by_cases c2 : nI (obf k) = nI t
      · rw [if_pos c2, if_pos c2]
      · rw [if_neg c2, if_neg c2]
    · rw [if_neg c, if_neg c]
      by_cases c2 : nI (obf k) = nI t
      · rw [if_pos c2, if_pos c2]
      · rw [if_neg c2, if_neg c2]
  · show c_X10_standsAhead_L85 F 46 (nI s) (nI t) K (m + 1) (nI (if js < n then js else 0)) (nI (if jt < n then jt else 0)) (nI n) h = _
    rw [c_X10_standsAhead_L85, fT46 I, if_pos rfl, h3, if_pos (nI_le (Nat.le_refl n) (by omega)), if_pos hjs, if_pos hjt]
theorem op_standsAhead (hF : 5000 ≤ F) (J : Inv h) : OkI h (c_X9_standsAhead F 5 x1 x2 h) (c_X10_standsAhead F 46 x1 x2) := by
  obtain ⟨ow, J⟩ := J
  have o := J.1
  have I := J.2.1
  obtain ⟨q, hq, h1, h2, h3, h4, h5⟩ := J.she
  unfold c_X9_standsAhead c_X10_standsAhead
  by_cases c : (0 ≤ x1.toInt ∧ x1.toInt ≤ (q : Int) - 1) ∧ (0 ≤ x2.toInt ∧ x2.toInt ≤ (q : Int) - 1) ∧ ¬ x1 = x2
  · obtain ⟨s, hs, rfl⟩ := rng (x := x1) (n := 19) ⟨c.1.1, by omega⟩
    obtain ⟨t, ht, rfl⟩ := rng (x := x2) (n := 19) ⟨c.2.1.1, by omega⟩
    have hsq : s < q := by have := c.1; rw [toI_n (by omega)] at this; omega
    have htq : t < q := by have := c.2.1; rw [toI_n (by omega)] at this; omega
    obtain ⟨a, ha, g⟩ := h3 s hsq
    obtain ⟨b, hb, g'⟩ := h3 t htq
    have b1 : okA h 15 26 (nI s) = true := okA_n (fT15 I) (fN15 I) (by omega) (by decide)
    have b2 : okA h 15 26 (nI t) = true := okA_n (fT15 I) (fN15 I) (by omega) (by decide)
    have ea : hI h a 5 = hI h 68 s := g.2.2.2.2.2.2.2.1
    have eb : hI h b 5 = hI h 68 t := g'.2.2.2.2.2.2.2.1
    by_cases e1 : ¬ hI h 68 s = -9 ∧ hI h 68 s = hI h 68 t
    · -- the same block
      obtain ⟨e9, est⟩ := e1
      generalize hbl : hI h 68 s = B at e9 est
      have bs : bk (mm h) B s = true := decide_eq_true hbl
      have bt_ : bk (mm h) B t = true := decide_eq_true est.symm
      have X : c_X9_standsAhead F 5 (nI s) (nI t) h = (bI (c_X6_withBlock F 14 B h) (fun x25 h24 => (if x25 ≤ 12 then (if hT h24 5 = 9 then (lt_ (hR h24 5 7) (fun o26 => (if hT h24 5 = 9 then (lt_ (hR h24 5 6) (fun o27 => (nn o26 (fun a28 => (if hT h24 a28 = 1 then (bV (c_X1_gather F a28 o27 B h24) (fun h29 => (if hT h29 5 = 9 then (lt_ (hR h29 5 7) (fun o30 => (nn o30 (fun a31 => (if hT h29 a31 = 1 then (bV (c_X1_demand F a31 (nI s) (nI t) h29) (fun h32 => (if hT h32 5 = 9 then (lt_ (hR h32 5 7) (fun o33 => (nn o33 (fun a34 => (if hT h32 a34 = 1 then (bI (c_X1_ways F a34 h32) (fun x36 h35 => (if hT h35 5 = 9 then (lt_ (sJ h35 5 14 ((x36 : Int32).toInt64)) (fun h37 => (some (1, h37)))) else none))) else none))))) else none))) else none))))) else none))) else none))))) else none))) else none) else (some ((-6), h24))))) := by
        unfold c_X9_standsAhead
        rw [fT5 I, if_pos rfl, x_two F _ _ I hq h1, bI_some, if_pos c, ite10]
        simp only [fT5 I, fT14 I, fR5_6 I, fR14_0 I, if_true, if_false, ltq, nnq, b1, b2, ix_n (show s < 2147483648 by omega), ix_n (show t < 2147483648 by omega), ha, hb, g.1, g'.1, ea, eb, hbl, e9, est.symm]
      have M : ∀ k, Ifx k → hI k 46 26 = nI q → hI k 68 s = B → hI k 68 t = B → c_X10_standsAhead F 46 (nI s) (nI t) k = (bV (c_X10_setOrder F 46 B k) (fun h19 => (if hT h19 46 = 10 then (if (hI h19 46 39) ≤ 12 then (c_X10_standsAhead_L85 F 46 (nI s) (nI t) (fun x41 x42 h43 => (if hT h43 46 = 10 then (lt_ (hR h43 46 41) (fun o44 => (nn o44 (fun a45 => (if okA h43 a45 20 x42 = true then (if okA h43 a45 20 x42 = true then (lt_ (sI h43 a45 (ix x42) ((hI h43 a45 (ix x42)) ||| (1 <<< (x41 &&& 31)))) (fun h46 => (if hT h46 46 = 10 then (bL (c_X10_ordersOf F 46 h46) (fun y48 h47 => (if hT h47 46 = 10 then (lt_ (sJ h47 46 3 y48) (fun h49 => (some (1, h49)))) else none))) else none))) else none) else none))))) else none)) F 0 0 0 h19) else (some ((-6), h19))) else none))) := by
        intro k Ik k26 ks kt
        have d1 : okA k 68 20 (nI s) = true := okA_n (fT68 Ik) (fN68 Ik) (by omega) (by decide)
        have d2 : okA k 68 20 (nI t) = true := okA_n (fT68 Ik) (fN68 Ik) (by omega) (by decide)
        unfold c_X10_standsAhead
        rw [fT46 Ik, if_pos rfl, m_isSheet Ik hq k26, bI_some, if_pos c.1, ite10, fT46 Ik, if_pos rfl, m_isSheet Ik hq k26, bI_some, if_pos c.2.1, ite10, if_neg c.2.2]
        rw [fT46 Ik, if_pos rfl, fR46_30 Ik]
        dsimp only [lt_, nn]
        rw [if_pos d1, ix_n (show s < 2147483648 by omega), ix_n (show t < 2147483648 by omega), ks, kt, if_neg e9, if_pos rfl, if_pos d1, if_pos rfl, if_pos d2, if_pos rfl, if_pos rfl, if_pos d1, if_pos rfl]
      by_cases c12 : fb_ct (bk (mm h) B) q ≤ 12
      · generalize hnd : fb_ct (bk (mm h) B) q = n at c12
        have ljs := ob_lt hsq bs
        have ljt := ob_lt htq bt_
        have has : ∀ j, j < n → (ob (mm h) B q j = s ↔ j = fb_ct (bk (mm h) B) s) := fun j hj => ob_at hsq bs (by omega)
        have hat : ∀ j, j < n → (ob (mm h) B q j = t ↔ j = fb_ct (bk (mm h) B) t) := fun j hj => ob_at htq bt_ (by omega)
        have ob20 : ∀ j, j < n → ob (mm h) B q j < 20 := fun j hj => by
          have := (nth_ok (p := bk (mm h) B) (n := q) (j := j) (by omega)).1
          show nth (bk (mm h) B) q j < 20
          omega
        generalize hjs : fb_ct (bk (mm h) B) s = js at ljs has
        generalize hjt : fb_ct (bk (mm h) B) t = jt at ljt hat
        obtain ⟨g1, d1, d2, d3, d4, d5⟩ := x_gather F o I hF hq h1 h3 B (by omega)
        rw [hnd] at d3 d4 d5 ljs ljt
        have Ig1 := d2.fx I
        have sg1 : St [120] ow h g1 := d2.st I o (fun a i e => e.ow)
        have ml := fun k => mus_lt (mm h) B q n k c12
        generalize hmu : mus (mm h) B q n = mu at d5 ml
        obtain ⟨g0, k1, k2, k3⟩ := x_demand F Ig1 hF c12 (show s < 20 by omega) (show t < 20 by omega) ljs ljt d3 (ob (mm h) B q) (fun j hj => ⟨ob20 j hj, d4 j hj⟩) has hat mu d5
        generalize hmv : (fun j => if j = jt then mu j ||| 2 ^ js else mu j) = mv
        have mvl : ∀ k, mv k < 4096 := fun k => by
          rw [← hmv]
          dsimp only
          split
          · exact Nat.or_lt_two_pow (n := 12) (ml k) (Nat.pow_lt_pow_right (by decide) (by omega))
          · exact ml k
        have mve : ∀ k, mv k = if k = jt then mu k ||| 2 ^ js else mu k := fun k => by rw [← hmv]
        have Ig := k2.fx Ig1
        have sg : St [120] ow h g0 := (sg1.trans (k2.st (fs := [120]) Ig1 o (fun a i e => by rw [e]; exact ⟨by decide, List.mem_cons_self⟩))).sub (by decide)
        have sz0 : hI g0 16 3 = nI n := (k2.1 16 3 (by omega)).trans d3
        obtain ⟨g2, ow2, f1, f2, f3, f4, f5, f6, f7, f8⟩ := x_ways F o Ig (J.way.st I o sg (OwX.refl _ _) ((k2.R 16 2).trans (d2.R 16 2))) (mu := mv) c12 sz0 (fun k hk => ⟨by rw [k3 k hk, mve], by have := mvl k; omega⟩) hF
        have I2 : Ifx g2 := Ig.st o f4 (by decide)
        have s2 : St [120] ow h g2 := (sg.trans f4).sub (by decide)
        generalize hW : wy mv n (2 ^ n - 1) = W at f1
        have hWl : W < 1000000000 := by rw [← hW]; exact wy_lt _ c12 _
        have s3 : St [4, 120] ow h (sJ g2 5 14 (lN W)) := (s2.sub (by decide)).wJ o 4 (by decide) rfl (by decide)
        have I3 : Ifx (sJ g2 5 14 (lN W)) := I.st o s3 (by decide)
        have m3 : mm (sJ g2 5 14 (lN W)) = mm h := mm_st I o s3 (by decide)
        have e26 : hI (sJ g2 5 14 (lN W)) 46 26 = nI q := (s3.fam I o (c := 66) (by decide) 46 26 (by decide) rfl).1.trans h2
        have es : hI (sJ g2 5 14 (lN W)) 68 s = B := (s3.fam I o (c := 66) (by decide) 68 s (by decide) rfl).1.trans hbl
        have et : hI (sJ g2 5 14 (lN W)) 68 t = B := (s3.fam I o (c := 66) (by decide) 68 t (by decide) rfl).1.trans est.symm
        obtain ⟨r1, a1, a2, a3, a4, a5⟩ := m_setO F I3 hF hq e26 B
        rw [m3, hnd] at a3 a4 a5
        rw [hmu] at a5
        have Ik := a2.fx I3
        have c0 : ChI (fun a i => (a = 46 ∧ i = 39) ∨ a = 77 ∨ a = 78) (sJ g2 5 14 (lN W)) (sI r1 78 jt (nI (mu jt ||| 2 ^ js))) := a2.set (Or.inr (Or.inr rfl))
        have I5 := c0.fx I3
        have sk : ∀ {ow : Ow}, OwOK ow → St [104] ow (sJ g2 5 14 (lN W)) (sI r1 78 jt (nI (mu jt ||| 2 ^ js))) := fun o => c0.st I3 o (fun a i e => by
          rcases e with ⟨rfl, rfl⟩ | rfl | rfl
          · exact ⟨by decide, by decide⟩
          · exact ⟨by decide, List.mem_cons_self⟩
          · exact ⟨by decide, List.mem_cons_self⟩)
        obtain ⟨k2', b1', b2'⟩ := m_ordersOf F (h := sI r1 78 jt (nI (mu jt ||| 2 ^ js))) (mu := mv) (n := n) ⟨c12, I5, by rw [hI_sI, if_neg (by omega)]; exact a3, fun k hk => ⟨by
          rw [hI_sI, mve]
          by_cases e : k = jt
          · rw [if_pos ⟨rfl, e⟩, if_pos e, e]
          · rw [if_neg (fun x => e x.2), if_neg e]; exact a5 k hk, by have := mvl k; omega⟩⟩ hF
        rw [hW] at b1'
        have I4 := b2'.fx I5
        have s4 : St [4, 54, 104, 105, 120] ow h (sJ k2' 46 3 (lN W)) := ((s3.trans ((sk o).trans (b2'.st I5 o))).sub (by decide)).wJ o 54 (by decide) rfl (by decide)
        refine ⟨1, sJ g2 5 14 (lN W), sJ k2' 46 3 (lN W), X.trans ?_, (M _ I3 e26 es et).trans ?_, ⟨ow2, J.fin f2 s4 (fun a i ha => f3 a i (by rw [k2.Z.1, d2.Z.1]; exact ha)) (by decide) (c4 := fun _ => ?_) (c120 := fun _ => ?_)⟩, ?_, ?_⟩
        · rw [x_withBlock F I hF hq h1 h3, bI_some, hnd, if_pos (show nI n ≤ (12 : Int32) from nI_le (b := 12) c12 (by omega)), fT5 I, if_pos rfl, fR5_7 I]
          dsimp only [lt_, nn]
          rw [if_pos rfl, fR5_6 I, fT16 I, if_pos rfl, d1, bV_some, fT5 Ig1, if_pos rfl, fR5_7 Ig1]
          dsimp only
          rw [fT16 Ig1, if_pos rfl, k1, bV_some, fT5 Ig, if_pos rfl, fR5_7 Ig]
          dsimp only
          rw [fT16 Ig, if_pos rfl, f1, bI_some, fT5 I2, if_pos rfl, nI_l (by omega)]
        · have b78 : okA r1 78 20 (nI jt) = true := okA_n (fT78 Ik) (fN78 Ik) (by omega) (by decide)
          rw [a1, bV_some, fT46 Ik, if_pos rfl, a3, if_pos (show nI n ≤ (12 : Int32) from nI_le (b := 12) c12 (by omega)), m_saL85 F Ik hF c12 (show s < 20 by omega) (show t < 20 by omega) ljs ljt a3 (ob (mm h) B q) (fun j hj => ⟨ob20 j hj, a4 j hj⟩) has hat, fT46 Ik, if_pos rfl, fR46_41 Ik]
          dsimp only [lt_, nn]
          rw [if_pos b78, if_pos b78, ix_n (by omega), a5 jt ljt, shl_1 js (by omega), fa_or, fT46 I5, if_pos rfl, b1', bL_some, fT46 I4, if_pos rfl]
        · show hJ (sJ k2' 46 3 (lN W)) 5 14 = hJ (sJ k2' 46 3 (lN W)) 46 3
          rw [hJ_sJ, if_neg (by omega), hJ_sJ, if_pos ⟨rfl, rfl⟩, b2'.2.2 5 14 (by decide), c0.J, hJ_sJ, if_pos ⟨rfl, rfl⟩]
        · have o2 : OwOK ow2 := f2
          have sx : St [4, 104, 105, 54] ow2 g2 (sJ k2' 46 3 (lN W)) := ((((St.r I2).wJ (fs := [4]) o2 4 (by decide) rfl (by decide)).trans ((sk o2).trans (b2'.st I5 o2))).sub (by decide)).wJ o2 54 (by decide) rfl (by decide)
          exact f5.st I2 o2 sx (OwX.refl _ _) (sx.fam I2 o2 (c := 120) (by decide) 16 2 (by decide) rfl).2.2
        · show hZ k2' ≤ _
          rw [b2'.Z.1, c0.Z.1]; show hZ g2 ≤ _; rw [k2.Z.1, d2.Z.1] at f6; omega
        · show hS k2' ≤ _
          rw [b2'.Z.2, c0.Z.2]; show hS g2 ≤ _; rw [k2.Z.2, d2.Z.2] at f7; omega
      · obtain ⟨k1, a1, a2, a3, a4, a5⟩ := m_setO F I hF hq h2 B
        have Ik := a2.fx I
        have sk : St [104] ow h k1 := a2.st I o (fun a i e => by
          rcases e with ⟨rfl, rfl⟩ | rfl | rfl
          · exact ⟨by decide, by decide⟩
          · exact ⟨by decide, List.mem_cons_self⟩
          · exact ⟨by decide, List.mem_cons_self⟩)
        have le := fb_ct_le (bk (mm h) B) q
        have n12 : ¬ nI (fb_ct (bk (mm h) B) q) ≤ 12 := nI_ge (a := 12) (by omega) (by omega)
        refine ⟨-6, h, k1, X.trans ?_, (M _ I h2 hbl est.symm).trans ?_, ⟨ow, J.fin o sk (OwX.refl _ _) (by decide)⟩, by rw [a2.Z.1]; omega, by rw [a2.Z.2]; omega⟩
        · rw [x_withBlock F I hF hq h1 h3, bI_some, if_neg n12]
        · rw [a1, bV_some, fT46 Ik, if_pos rfl, a3, if_neg n12]
    · refine OkI.found0 (F := F) 3 (by decide) J ?_ (fun h' w => ?_)
      · show _ = c_X9_found F 5 3 h
        rw [fT5 I, if_pos rfl, x_two F _ _ I hq h1, bI_some, if_pos c, ite10]
        simp only [fT5 I, fT14 I, fR5_6 I, fR14_0 I, if_true, ltq, nnq, b1, b2, ix_n (show s < 2147483648 by omega), ix_n (show t < 2147483648 by omega), ha, hb, g.1, g'.1, ea, eb]
        by_cases e2 : hI h 68 s = -9
        · rw [if_pos e2, bI_id]
        · rw [if_neg e2, if_neg (fun e => e1 ⟨e2, e⟩), bI_id]
      · have I' := I.st o w (by decide)
        have h2' : hI h' 46 26 = nI q := (w.fam I o (c := 66) (by decide) 46 26 (by omega) rfl).1.trans h2
        have p1 : hI h' 68 s = hI h 68 s := (w.fam I o (c := 66) (by decide) 68 s (by omega) rfl).1
        have p2 : hI h' 68 t = hI h 68 t := (w.fam I o (c := 66) (by decide) 68 t (by omega) rfl).1
        have d1' : okA h' 68 20 (nI s) = true := okA_n (fT68 I') (fN68 I') (by omega) (by decide)
        have d2' : okA h' 68 20 (nI t) = true := okA_n (fT68 I') (fN68 I') (by omega) (by decide)
        show _ = c_X10_meets F 46 3 h'
        rw [fT46 I', if_pos rfl, m_isSheet I' hq h2', bI_some, if_pos c.1, ite10, fT46 I', if_pos rfl, m_isSheet I' hq h2', bI_some, if_pos c.2.1, ite10, if_neg c.2.2]
        rw [fT46 I', if_pos rfl, fR46_30 I']
        dsimp only [lt_, nn]
        rw [if_pos d1', ix_n (show s < 2147483648 by omega), ix_n (show t < 2147483648 by omega), p1, p2]
        by_cases e2 : hI h 68 s = -9
        · rw [if_pos e2, fT46 I', if_pos rfl, bI_id]
        · rw [if_neg e2, fT46 I', if_pos rfl, if_pos d1', if_pos rfl, if_pos d2', if_neg (fun e => e1 ⟨e2, e⟩), if_pos rfl, bI_id]
  · refine OkI.same (-1) ⟨ow, J⟩ ?_ ?_
    · rw [fT5 I, if_pos rfl, x_two F _ _ I hq h1, bI_some, if_neg c, ite00]
    · rw [fT46 I, if_pos rfl, m_isSheet I hq h2, bI_some]
      by_cases c1 : 0 ≤ x1.toInt ∧ x1.toInt ≤ (q : Int) - 1
      · rw [if_pos c1, ite10, fT46 I, if_pos rfl, m_isSheet I hq h2, bI_some]
        by_cases c2 : 0 ≤ x2.toInt ∧ x2.toInt ≤ (q : Int) - 1
        · rw [if_pos c2, ite10, if_pos (Classical.byContradiction (fun e => c ⟨c1, c2, e⟩))]
        · rw [if_neg c2, ite00]
      · rw [if_neg c1, ite00]
end Stand
