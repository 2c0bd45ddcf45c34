section Ord
variable {h : z_Hp} (F : Nat) (x1 x2 x3 x4 x5 : Int32)
/-! the reference's way: longs at 79 alone change -/
def ChW (h g : z_Hp) : Prop := g.1 = h.1 ∧ g.2.2 = h.2.2 ∧ ∀ a i, a ≠ 79 → hJ g a i = hJ h a i
theorem ChW.refl (h : z_Hp) : ChW h h := ⟨rfl, rfl, fun _ _ _ => rfl⟩
theorem ChW.trans {h g k : z_Hp} (c : ChW h g) (d : ChW g k) : ChW h k := ⟨d.1.trans c.1, d.2.1.trans c.2.1, fun a i e => (d.2.2 a i e).trans (c.2.2 a i e)⟩
theorem ChW.set {h g : z_Hp} (c : ChW h g) {i : Nat} {x : Int64} : ChW h (sJ g 79 i x) := ⟨c.1, c.2.1, fun a j e => by rw [hJ_sJ, if_neg (fun y => e y.1)]; exact c.2.2 a j e⟩
theorem ChW.I {h g : z_Hp} (c : ChW h g) (a i : Nat) : hI g a i = hI h a i := by unfold hI; rw [c.1]
theorem ChW.R {h g : z_Hp} (c : ChW h g) (a i : Nat) : hR g a i = hR h a i := by unfold hR; rw [c.2.1]
theorem ChW.T {h g : z_Hp} (c : ChW h g) (a : Nat) : hT g a = hT h a := by unfold hT; rw [c.2.1]
theorem ChW.N {h g : z_Hp} (c : ChW h g) (a : Nat) : hN g a = hN h a := by unfold hN; rw [c.2.1]
theorem ChW.Z {h g : z_Hp} (c : ChW h g) : hZ g = hZ h ∧ hS g = hS h := by unfold hZ hS; rw [c.2.1]; exact ⟨rfl, rfl⟩
theorem ChW.fx {h g : z_Hp} (c : ChW h g) (I : Ifx h) : Ifx g := by
  refine ⟨fun e he => ?_, fun e he => ?_, ?_, fun a ha => ?_⟩
  · rw [c.T, c.N]; exact I.1 e he
  · rw [c.R]; exact I.2.1 e he
  · rw [c.Z.1]; exact I.2.2.1
  · rw [c.T]; exact I.2.2.2 a (by rw [← c.Z.1]; exact ha)
theorem ChW.st {h g : z_Hp} (c : ChW h g) (I : Ifx h) {ow : Ow} (o : OwOK ow) : St [105] ow h g := by
  refine ⟨by rw [c.Z.1]; exact Nat.le_refl _, fun a _ => ⟨c.T a, c.N a⟩, fun a i _ hn => ⟨c.I a i, c.2.2 a i (fun e => hn ?_), c.R a i⟩, (c.fx I).2.2.2⟩
  subst e
  rw [o 79 i (by decide)]
  exact List.mem_cons_self
def MW (h : z_Hp) (mu : Nat → Nat) (n : Nat) : Prop := n ≤ 12 ∧ Ifx h ∧ hI h 46 39 = nI n ∧ ∀ k, k < n → hI h 78 k = nI (mu k) ∧ mu k < 2147483648
theorem MW.ch {mu : Nat → Nat} {n : Nat} (w : MW h mu n) {g : z_Hp} (c : ChW h g) : MW g mu n := ⟨w.1, c.fx w.2.1, (c.I 46 39).trans w.2.2.1, fun k hk => by rw [c.I]; exact w.2.2.2 k hk⟩
theorem m_ooL29 {mu : Nat → Nat} {n S : Nat} (w : MW h mu n) (hF : 5000 ≤ F) (hS : S < 2 ^ n) (hl : ∀ T, T < S → hJ h 79 T = lN (wy mu n T)) (h0 : hJ h 79 S = lN (if S = 0 then 1 else 0)) (K : z_Hp → Option (Int64 × z_Hp)) : ∃ h', c_X10_ordersOf_L29 F 46 (nI S) K F 0 h = K h' ∧ ChW h h' ∧ (∀ T, T ≠ S → hJ h' 79 T = hJ h 79 T) ∧ hJ h' 79 S = lN (wy mu n S) := by
  have hn := w.1
  have p2 := p2_le hn
  have key := lp (L := fun m (u : Int32 × z_Hp) => c_X10_ordersOf_L29 F 46 (nI S) K m u.1 u.2) (K := fun u => K u.2) (N := n) (fun k u => u.1 = nI k ∧ ChW h u.2 ∧ (∀ T, T ≠ S → hJ u.2 79 T = hJ h 79 T) ∧ hJ u.2 79 S = lN ((if S = 0 then 1 else 0) + fb_sm (wyT mu n S) k)) (fun m k u hk hP => ?_) (fun m u hP => ?_) n 0 F (nI 0, h) (by omega) (by omega) ⟨rfl, ChW.refl _, fun _ _ => rfl, h0⟩
  · obtain ⟨⟨u1, g⟩, ⟨e1, e2, e3, e4⟩, e6⟩ := key
    refine ⟨g, e6, e2, e3, ?_⟩
    rw [wy_eq mu hn (by omega)]
    exact e4
  · obtain ⟨u1, g⟩ := u
    obtain ⟨e1, e2, e3, e4⟩ := hP
    dsimp only at e1 e2 e3 e4 ⊢
    subst e1
    have wg := w.ch e2
    have Ig := wg.2.1
    obtain ⟨m1, m2⟩ := wg.2.2.2 k hk
    have b78 : okA g 78 20 (nI k) = true := okA_n (fT78 Ig) (fN78 Ig) (by omega) (by decide)
    have b79 : okA g 79 22 (nI S) = true := okA_n (fT79 Ig) (fN79 Ig) (by omega) (by decide)
    rw [c_X10_ordersOf_L29, fT46 Ig, if_pos rfl, wg.2.2.1, if_neg (nI_ge hk (by omega))]
    dsimp only [lt_]
    rw [if_pos rfl, fR46_42 Ig]
    dsimp only [nn]
    rw [if_pos b79, m_has F (by omega) (by omega), bI_some, ix_n (show S < 2147483648 by omega), e4]
    have nx : ∀ v : Nat, hJ (sJ g 79 S (lN v)) 79 S = lN v := fun v => by rw [hJ_sJ, if_pos ⟨rfl, rfl⟩]
    have no : ∀ (v : Nat) (T : Nat), T ≠ S → hJ (sJ g 79 S (lN v)) 79 T = hJ h 79 T := fun v T hT => by rw [hJ_sJ, if_neg (fun y => hT y.2)]; exact e3 T hT
    have none_ : wyT mu n S k = 0 → ∃ s', (fun k (u : Int32 × z_Hp) => u.1 = nI k ∧ ChW h u.2 ∧ (∀ T, T ≠ S → hJ u.2 79 T = hJ h 79 T) ∧ hJ u.2 79 S = lN ((if S = 0 then 1 else 0) + fb_sm (wyT mu n S) k)) (k + 1) s' ∧ c_X10_ordersOf_L29 F 46 (nI S) K m (nI k + 1) (sJ g 79 S (lN ((if S = 0 then 1 else 0) + fb_sm (wyT mu n S) k) + 0)) = c_X10_ordersOf_L29 F 46 (nI S) K m s'.1 s'.2 := fun z => by
      refine ⟨(nI (k + 1), sJ g 79 S (lN ((if S = 0 then 1 else 0) + fb_sm (wyT mu n S) k))), ⟨rfl, e2.set, no _, ?_⟩, ?_⟩
      · dsimp only
        rw [nx, fb_sm_succ, z, Nat.add_zero]
      · rw [nI_1, show (0 : Int64) = lN 0 from rfl, lN_add]; rfl
    by_cases c : S.testBit k = true
    · rw [if_pos c, ite10, fT46 Ig, if_pos rfl, fR46_41 Ig]
      dsimp only [lt_, nn]
      rw [if_pos b78, ix_n (show k < 2147483648 by omega), m1, clrq (by omega) c]
      have lt := clr_lt S (by omega) k (by omega) c
      by_cases c2 : sub_ (mu k) (S ^^^ 2 ^ k) = true
      · have b79' : okA g 79 22 (nI (S ^^^ 2 ^ k)) = true := okA_n (fT79 Ig) (fN79 Ig) (by omega) (by decide)
        have z : wyT mu n S k = wy mu n (S ^^^ 2 ^ k) := by unfold wyT; rw [c, c2]; rfl
        rw [if_pos ((subq m2 (by omega)).mpr c2), if_pos rfl, fR46_42 Ig]
        dsimp only
        rw [if_pos b79', ix_n (show S ^^^ 2 ^ k < 2147483648 by omega), e3 _ (by omega), hl _ lt, lN_add, if_pos b79]
        refine ⟨(nI (k + 1), sJ g 79 S (lN (((if S = 0 then 1 else 0) + fb_sm (wyT mu n S) k) + wy mu n (S ^^^ 2 ^ k)))), ⟨rfl, e2.set, no _, ?_⟩, by rw [nI_1]⟩
        dsimp only
        rw [nx, fb_sm_succ, z, Nat.add_assoc]
      · have z : wyT mu n S k = 0 := by unfold wyT; rw [if_neg (fun y => c2 (by rw [Bool.and_eq_true] at y; exact y.2))]
        rw [if_neg (fun y => c2 ((subq m2 (by omega)).mp y)), if_pos b79]
        exact none_ z
    · have z : wyT mu n S k = 0 := by unfold wyT; rw [if_neg (fun y => c (by rw [Bool.and_eq_true] at y; exact y.1))]
      rw [if_neg c, ite00, if_pos b79]
      exact none_ z
  · obtain ⟨u1, g⟩ := u
    obtain ⟨e1, e2, e3, e4⟩ := hP
    dsimp only at e1 e2 e3 e4 ⊢
    subst e1
    have wg := w.ch e2
    rw [c_X10_ordersOf_L29, fT46 wg.2.1, if_pos rfl, wg.2.2.1, if_pos (nI_le (Nat.le_refl n) (by omega))]
theorem m_ordersOf {mu : Nat → Nat} {n : Nat} (w : MW h mu n) (hF : 5000 ≤ F) : ∃ h', c_X10_ordersOf F 46 h = some (lN (wy mu n (2 ^ n - 1)), h') ∧ ChW h h' := by
  have hn := w.1
  have p2 := p2_le hn
  have p0 : 0 < 2 ^ n := Nat.pow_pos (by decide)
  have full : ((1 : Int32) <<< (nI n &&& 31)) - 1 = nI (2 ^ n - 1) := by rw [shl_1 n (by omega), show (1 : Int32) = nI 1 from rfl, nI_sub (by omega)]
  have key := lp (L := fun m (u : Int32 × z_Hp) => c_X10_ordersOf_L2 F 46 (fun h34 => (if hT h34 46 = 10 then (lt_ (hR h34 46 42) (fun o35 => (if hT h34 46 = 10 then (nn o35 (fun a36 => (if okA h34 a36 22 ((1 <<< ((hI h34 46 39) &&& 31)) - 1) = true then (some (hJ h34 a36 (ix ((1 <<< ((hI h34 46 39) &&& 31)) - 1)), h34)) else none))) else none))) else none)) m u.1 u.2) (K := fun u => some (hJ u.2 79 (2 ^ n - 1), u.2)) (N := 2 ^ n) (fun S u => u.1 = nI S ∧ ChW h u.2 ∧ ∀ T, T < S → hJ u.2 79 T = lN (wy mu n T)) (fun m S u hS hP => ?_) (fun m u hP => ?_) (2 ^ n) 0 F (nI 0, h) (by omega) (by omega) ⟨rfl, ChW.refl _, fun T hT => by omega⟩
  · obtain ⟨⟨u1, g⟩, ⟨e1, e2, e3⟩, e6⟩ := key
    refine ⟨g, ?_, e2⟩
    unfold c_X10_ordersOf
    rw [← e3 (2 ^ n - 1) (by omega)]
    exact e6
  · obtain ⟨u1, g⟩ := u
    obtain ⟨e1, e2, e3⟩ := hP
    dsimp only at e1 e2 e3 ⊢
    subst e1
    have wg := w.ch e2
    have Ig := wg.2.1
    have b79 : okA g 79 22 (nI S) = true := okA_n (fT79 Ig) (fN79 Ig) (by omega) (by decide)
    rw [c_X10_ordersOf_L2, fT46 Ig, if_pos rfl, wg.2.2.1, shl_1 n (by omega), if_neg (nI_ge hS (by omega)), if_pos rfl, fR46_42 Ig]
    dsimp only [lt_, nn]
    rw [ix_n (show S < 2147483648 by omega)]
    have fin : ∀ y : Nat, y = (if S = 0 then 1 else 0) → ∃ s' : Int32 × z_Hp, (s'.1 = nI (S + 1) ∧ ChW h s'.2 ∧ ∀ T, T < S + 1 → hJ s'.2 79 T = lN (wy mu n T)) ∧ ∀ K0 : z_Hp → Option (Int64 × z_Hp), c_X10_ordersOf_L29 F 46 (nI S) K0 F 0 (sJ g 79 S (lN y)) = K0 s'.2 := fun y hy => by
      have w1 : MW (sJ g 79 S (lN y)) mu n := w.ch e2.set
      obtain ⟨g', d1, d2, d3, d4⟩ := m_ooL29 F w1 hF hS (fun T hT => by rw [hJ_sJ, if_neg (by omega)]; exact e3 T hT) (by rw [hJ_sJ, if_pos ⟨rfl, rfl⟩, hy]) (fun h32 => some (0, h32))
      refine ⟨(nI (S + 1), g'), ⟨rfl, e2.set.trans d2, fun T hT => ?_⟩, fun K0 => ?_⟩
      · by_cases e : T = S
        · subst e; exact d4
        · rw [d3 T e, hJ_sJ, if_neg (fun x => e x.2)]; exact e3 T (by omega)
      · obtain ⟨g2, f1, f2, f3, f4⟩ := m_ooL29 F w1 hF hS (fun T hT => by rw [hJ_sJ, if_neg (by omega)]; exact e3 T hT) (by rw [hJ_sJ, if_pos ⟨rfl, rfl⟩, hy]) K0
        rw [f1]
        have : g2 = g' := by
          have q1 : g2.1 = g'.1 := f2.1.trans d2.1.symm
          have q2 : g2.2.2 = g'.2.2 := f2.2.1.trans d2.2.1.symm
          have q3 : g2.2.1 = g'.2.1 := by
            funext a i
            show hJ g2 a i = hJ g' a i
            by_cases e : a = 79
            · subst e
              by_cases e2 : i = S
              · subst e2; rw [f4, d4]
              · rw [f3 i e2, d3 i e2]
            · rw [f2.2.2 a i e, d2.2.2 a i e]
          exact Prod.ext q1 (Prod.ext q3 q2)
        rw [this]
    by_cases z : S = 0
    · obtain ⟨s', d1, d2⟩ := fin 1 (by rw [if_pos z])
      refine ⟨s', d1, ?_⟩
      rw [if_pos (by rw [z]; rfl), if_pos b79]
      refine (d2 _).trans ?_
      rw [nI_1, d1.1]
    · obtain ⟨s', d1, d2⟩ := fin 0 (by rw [if_neg z])
      refine ⟨s', d1, ?_⟩
      rw [if_neg (nI_ne0 (by omega) (by omega)), if_pos b79]
      refine (d2 _).trans ?_
      rw [nI_1, d1.1]
  · obtain ⟨u1, g⟩ := u
    obtain ⟨e1, e2, e3⟩ := hP
    dsimp only at e1 e2 e3 ⊢
    subst e1
    have wg := w.ch e2
    have Ig := wg.2.1
    have b79 : okA g 79 22 (nI (2 ^ n - 1)) = true := okA_n (fT79 Ig) (fN79 Ig) (by omega) (by decide)
    rw [c_X10_ordersOf_L2, fT46 Ig, if_pos rfl, wg.2.2.1, shl_1 n (by omega), if_pos (nI_le (Nat.le_refl _) (by omega))]
    have full2 : nI (2 ^ n) - 1 = nI (2 ^ n - 1) := by rw [show (1 : Int32) = nI 1 from rfl, nI_sub (by omega)]
    simp only [fT46 Ig, if_true, fR46_42 Ig, ltq, nnq, wg.2.2.1, full2, b79, ix_n (show 2 ^ n - 1 < 2147483648 by omega)]
/-! ===== orders ===== -/
theorem mus_lt (M : Nat → Nat → Int32) (b : Int32) (q n k : Nat) (hn : n ≤ 12) : mus M b q n k < 4096 := Nat.lt_of_lt_of_le (bset_lt _ n) (p2_le hn)
theorem op_orders (hF : 5000 ≤ F) (J : Inv h) : OkI h (c_X9_orders F 5 x1 h) (c_X10_orders F 46 x1) := by
  obtain ⟨ow, J⟩ := J
  have o := J.1
  have I := J.2.1
  obtain ⟨q, hq, h1, h2, h3, h4, h5⟩ := J.she
  unfold c_X9_orders c_X10_orders
  by_cases c1 : 0 ≤ x1.toInt ∧ x1.toInt ≤ 5
  · by_cases c12 : fb_ct (bk (mm h) x1) q ≤ 12
    · obtain ⟨g, d1, d2, d3, d4, d5⟩ := x_gather F o I hF hq h1 h3 x1 c12
      have Ig := d2.fx I
      have sg : St [120] ow h g := d2.st I o (fun a i e => e.ow)
      have ml := fun k => mus_lt (mm h) x1 q (fb_ct (bk (mm h) x1) q) k c12
      obtain ⟨g2, ow2, f1, f2, f3, f4, f5, f6, f7, f8⟩ := x_ways F o Ig (J.way.st I o sg (OwX.refl _ _) (d2.R 16 2)) (mu := mus (mm h) x1 q (fb_ct (bk (mm h) x1) q)) c12 d3 (fun k hk => ⟨d5 k hk, by have := ml k; omega⟩) hF
      have I2 : Ifx g2 := Ig.st o f4 (by decide)
      have s2 : St [120] ow h g2 := (sg.trans f4).sub (by decide)
      generalize hW : wy (mus (mm h) x1 q (fb_ct (bk (mm h) x1) q)) (fb_ct (bk (mm h) x1) q) (2 ^ fb_ct (bk (mm h) x1) q - 1) = W at f1
      have hWl : W < 1000000000 := by rw [← hW]; exact wy_lt _ c12 _
      have s3 : St [4, 120] ow h (sJ g2 5 14 (lN W)) := (s2.sub (by decide)).wJ o 4 (by decide) rfl (by decide)
      have I3 : Ifx (sJ g2 5 14 (lN W)) := I.st o s3 (by decide)
      have m3 : mm (sJ g2 5 14 (lN W)) = mm h := mm_st I o s3 (by decide)
      have e26 : hI (sJ g2 5 14 (lN W)) 46 26 = nI q := (s3.fam I o (c := 66) (by decide) 46 26 (by decide) rfl).1.trans h2
      obtain ⟨k1, a1, a2, a3, a4, a5⟩ := m_setO F I3 hF hq e26 x1
      rw [m3] at a3 a4 a5
      have Ik := a2.fx I3
      have sk : St [104] ow (sJ g2 5 14 (lN W)) k1 := a2.st I3 o (fun a i e => by
        rcases e with ⟨rfl, rfl⟩ | rfl | rfl
        · exact ⟨by decide, by decide⟩
        · exact ⟨by decide, List.mem_cons_self⟩
        · exact ⟨by decide, List.mem_cons_self⟩)
      obtain ⟨k2, b1, b2⟩ := m_ordersOf F (h := k1) (mu := mus (mm h) x1 q (fb_ct (bk (mm h) x1) q)) (n := fb_ct (bk (mm h) x1) q) ⟨c12, Ik, a3, fun k hk => ⟨a5 k hk, by have := ml k; omega⟩⟩ hF
      rw [hW] at b1
      have I4 := b2.fx Ik
      have s4 : St [4, 54, 104, 105, 120] ow h (sJ k2 46 3 (lN W)) := ((s3.trans (sk.trans (b2.st Ik o))).sub (by decide)).wJ o 54 (by decide) rfl (by decide)
      refine ⟨nI (fb_ct (bk (mm h) x1) q), sJ g2 5 14 (lN W), sJ k2 46 3 (lN W), ?_, ?_, ⟨ow2, J.fin f2 s4 (fun a i ha => f3 a i (by rw [d2.Z.1]; exact ha)) (by decide) (c4 := fun _ => ?_) (c120 := fun _ => ?_)⟩, ?_, ?_⟩
      · have w1 : hT (sJ g2 5 14 (lN W)) 5 = 9 := fT5 I3
        rw [x_isBlock, bI_some, if_pos c1, ite10, fT5 I, if_pos rfl, fR5_6 I]
        dsimp only [lt_, nn]
        rw [fT14 I, if_pos rfl, x_withBlock F I hF hq h1 h3, bI_some, if_pos (show nI (fb_ct (bk (mm h) x1) q) ≤ (12 : Int32) from nI_le (b := 12) c12 (by omega)), fT5 I, if_pos rfl, fR5_7 I]
        dsimp only
        rw [if_pos rfl, fR5_6 I, fT16 I, if_pos rfl, d1, bV_some, fT5 Ig, if_pos rfl, fR5_7 Ig]
        dsimp only
        rw [fT16 Ig, if_pos rfl, f1, bI_some, fT5 I2, if_pos rfl, nI_l (by omega), w1, if_pos rfl, fR5_7 I3]
        dsimp only
        rw [fT16 I3, if_pos rfl, hI_sJ, f8]
      · dsimp only
        rw [m_in, bI_some, ti_0, ti_5, if_pos c1, ite10, fT46 I3, if_pos rfl, a1, bV_some, fT46 Ik, if_pos rfl, a3, if_pos (show nI (fb_ct (bk (mm h) x1) q) ≤ (12 : Int32) from nI_le (b := 12) c12 (by omega)), if_pos rfl, b1, bL_some, fT46 I4, if_pos rfl]
        dsimp only [lt_]
        rw [hT_sJ, fT46 I4, if_pos rfl, hI_sJ, b2.I, a3]
      · show hJ (sJ k2 46 3 (lN W)) 5 14 = hJ (sJ k2 46 3 (lN W)) 46 3
        rw [hJ_sJ, if_neg (by omega), hJ_sJ, if_pos ⟨rfl, rfl⟩, b2.2.2 5 14 (by decide), a2.J, hJ_sJ, if_pos ⟨rfl, rfl⟩]
      · have o2 : OwOK ow2 := f2
        have sx : St [4, 104, 105, 54] ow2 g2 (sJ k2 46 3 (lN W)) := ((((St.r I2).wJ (fs := [4]) o2 4 (by decide) rfl (by decide)).trans ((a2.st (fs := [104]) I3 o2 (fun a i e => by
          rcases e with ⟨rfl, rfl⟩ | rfl | rfl
          · exact ⟨by decide, by decide⟩
          · exact ⟨by decide, List.mem_cons_self⟩
          · exact ⟨by decide, List.mem_cons_self⟩)).trans (b2.st Ik o2))).sub (by decide)).wJ o2 54 (by decide) rfl (by decide)
        exact f5.st I2 o2 sx (OwX.refl _ _) (sx.fam I2 o2 (c := 120) (by decide) 16 2 (by decide) rfl).2.2
      · show hZ k2 ≤ _
        rw [b2.Z.1, a2.Z.1]; show hZ g2 ≤ _; rw [d2.Z.1] at f6; omega
      · show hS k2 ≤ _
        rw [b2.Z.2, a2.Z.2]; show hS g2 ≤ _; rw [d2.Z.2] at f7; omega
    · obtain ⟨k1, a1, a2, a3, a4, a5⟩ := m_setO F I hF hq h2 x1
      have Ik := a2.fx I
      have sk : St [104] ow h k1 := a2.st I o (fun a i e => by
        rcases e with ⟨rfl, rfl⟩ | rfl | rfl
        · exact ⟨by decide, by decide⟩
        · exact ⟨by decide, List.mem_cons_self⟩
        · exact ⟨by decide, List.mem_cons_self⟩)
      have le := fb_ct_le (bk (mm h) x1) q
      have n12 : ¬ nI (fb_ct (bk (mm h) x1) q) ≤ 12 := nI_ge (a := 12) (by omega) (by omega)
      refine ⟨-6, h, k1, ?_, ?_, ⟨ow, J.fin o sk (OwX.refl _ _) (by decide)⟩, by rw [a2.Z.1]; omega, by rw [a2.Z.2]; omega⟩
      · rw [x_isBlock, bI_some, if_pos c1, ite10, fT5 I, if_pos rfl, fR5_6 I]
        dsimp only [lt_, nn]
        rw [fT14 I, if_pos rfl, x_withBlock F I hF hq h1 h3, bI_some, if_neg n12]
      · dsimp only
        rw [m_in, bI_some, ti_0, ti_5, if_pos c1, ite10, fT46 I, if_pos rfl, a1, bV_some, fT46 Ik, if_pos rfl, a3, if_neg n12]
  · exact OkI.same (-1) ⟨ow, J⟩ (by rw [x_isBlock, bI_some, if_neg c1, ite00]) (by rw [m_in, bI_some, ti_0, ti_5, if_neg c1, ite00])
end Ord
