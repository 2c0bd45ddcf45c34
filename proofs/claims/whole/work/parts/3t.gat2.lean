section Gat2
variable {h : z_Hp} (F : Nat) (x1 x2 x3 x4 x5 : Int32)
theorem ChG.ch {g k : z_Hp} {A : Nat → Nat → Prop} (c : ChG h g) (d : ChI A g k) (hA : ∀ a i, A a i → Agh a i) : ChG h k := ⟨fun a i e => (d.1 a i (fun x => e (hA a i x))).trans (c.1 a i e), fun a i e => (d.R a i).trans (c.2.1 a i e), fun a i => (d.J a i).trans (c.2.2.1 a i), fun a => ⟨(d.T a).trans (c.2.2.2.1 a).1, (d.N a).trans (c.2.2.2.1 a).2⟩, d.Z.1.trans c.2.2.2.2.1, d.Z.2.trans c.2.2.2.2.2⟩
theorem Fo.inj {y : Nat → Nat} {m : Nat → Bool} {k n : Nat} {b : Nat → Nat} (O : Fo y m k n b) {i j : Nat} (hi : i < n) (hj : j < n) (e : b i = b j) : i = j := by
  rcases Nat.lt_trichotomy i j with c | c | c
  · have := O.2.1 i j c hj
    rw [e] at this
    unfold aq at this
    omega
  · exact c
  · have := O.2.1 j i c hi
    rw [e] at this
    unfold aq at this
    omega
def Gd (h g : z_Hp) (q D : Nat) (y : Nat → Nat) : Prop := ChG h g ∧ hI g 28 5 = nI (pcn D q) ∧ ∃ b, Fo y (fun t => D.testBit t) q (pcn D q) b ∧ (∀ j, j < pcn D q → hI g 31 j = nI (b j) ∧ hI g 32 (b j) = nI j) ∧ (∀ s, s < q → D.testBit s = true → hI g 30 (pcn D s) = nI s ∧ hR g 33 s = hR h 8 (so h s)) ∧ ∀ t, t < 20 → (∀ j, j < pcn D q → ¬ b j = t) → hI g 32 t = -9
theorem pcn_s (D k : Nat) : pcn D (k + 1) = pcn D k + (if D.testBit k = true then 1 else 0) := rfl
theorem pcn_mono (D : Nat) {a b : Nat} (hab : a ≤ b) : pcn D a ≤ pcn D b := fb_ct_mono _ hab
theorem x_gL171 (I : Ifx h) (hF : 5000 ≤ F) {n : Nat} {b : Nat → Nat} (n10 : n ≤ 10) (e5 : hI h 28 5 = nI n) (hb : ∀ j, j < n → b j < 20 ∧ hI h 31 j = nI (b j)) (inj : ∀ i j, i < n → j < n → b i = b j → i = j) (z : ∀ t, t < 20 → hI h 32 t = -9) : Wp (c_X0_gather_L171 F 28 F 0 h) (fun g => ChI (fun a _ => a = 32) h g ∧ (∀ j, j < n → hI g 32 (b j) = nI j) ∧ ∀ t, t < 20 → (∀ j, j < n → ¬ b j = t) → hI g 32 t = -9) := by
  refine Wp.loop (L := fun m (u : Int32 × z_Hp) => c_X0_gather_L171 F 28 m u.1 u.2) (N := n) (fun k u => u.1 = nI k ∧ ChI (fun a _ => a = 32) h u.2 ∧ (∀ j, j < k → hI u.2 32 (b j) = nI j) ∧ ∀ t, t < 20 → (∀ j, j < k → ¬ b j = t) → hI u.2 32 t = -9) (fun m k u hk hP ih => ?_) (fun m u hP => ?_) F (0, h) (by omega) ⟨rfl, ChI.refl _ _, fun j hj => by omega, fun t ht _ => z t ht⟩
  · obtain ⟨u1, g⟩ := u
    obtain ⟨e1, e2, e3, e4⟩ := hP
    dsimp only at e1 e2 e3 e4 ⊢
    subst e1
    have Ig := e2.fx I
    obtain ⟨b1, b2⟩ := hb k hk
    have o31 : okA g 31 20 (nI k) = true := okA_n (fT31 Ig) (fN31 Ig) (by omega) (by decide)
    have o32 : okA g 32 20 (nI (b k)) = true := okA_n (fT32 Ig) (fN32 Ig) (by omega) (by decide)
    rw [c_X0_gather_L171, nI_1 k, ix_n (show k < 2147483648 by omega)]
    refine Wp.ifT (fT28 Ig) (Wp.ifF (by rw [e2.1 28 5 (by omega), e5]; exact nI_ge hk (by omega)) (Wp.ifT (fT28 Ig) (Wp.ltO (Wp.ifT (fT28 Ig) (Wp.ltO (Wp.rf (fR28_2 Ig) (Wp.ifT o31 (Wp.rf (fR28_3 Ig) ?_))))))))
    rw [e2.1 31 k (by omega), b2, ix_n (show b k < 2147483648 by omega)]
    refine Wp.ifT o32 (Wp.ltH (Wp.ltI (ih (nI (k + 1), sI g 32 (b k) (nI k)) ⟨rfl, e2.set rfl, fun j hj => ?_, fun t ht hn => ?_⟩)))
    · dsimp only
      rw [hI_sI]
      by_cases c : j = k
      · rw [if_pos ⟨rfl, by rw [c]⟩, c]
      · rw [if_neg (fun y => c (inj j k (by omega) hk y.2))]; exact e3 j (by omega)
    · dsimp only
      rw [hI_sI, if_neg (fun y => hn k (by omega) y.2.symm)]
      exact e4 t ht (fun j hj => hn j (by omega))
  · obtain ⟨u1, g⟩ := u
    obtain ⟨e1, e2, e3, e4⟩ := hP
    dsimp only at e1 e2 e3 e4 ⊢
    subst e1
    have Ig := e2.fx I
    rw [c_X0_gather_L171]
    exact Wp.ifT (fT28 Ig) (Wp.ifT (by rw [e2.1 28 5 (by omega), e5]; exact nI_le (Nat.le_refl _) (by omega)) (Wp.ret ⟨e2, e3, e4⟩))
theorem x_gath {ow : Ow} (I : Ifx h) (R : Rsng ow h) (hF : 5000 ≤ F) {q D : Nat} (hq : q ≤ 20) (h1 : hI h 14 1 = nI q) (h3 : Sh ow h q) (hD : D < 1048576) (pc : pcn D 20 ≤ 10) {y : Nat → Nat} (hy : ∀ s, s < q → hI h 26 s = nI (y s) ∧ y s ≤ 1999) : Wp (c_X0_gather F 28 (nI D) (some 14) (some 8) (some 26) h) (fun g => Gd h g q D y) := by
  unfold c_X0_gather
  refine Wp.ifT (fT28 I) (Wp.ltH ?_)
  have g0 : ChG h (sI h 28 5 0) := (ChG.refl h).set (Or.inl ⟨rfl, rfl⟩)
  refine Wp.loop (L := fun m (u : Int32 × z_Hp) => c_X0_gather_L8 F 28 (nI D) (some 14) (some 8) (some 26) _ m u.1 u.2) (N := 20) (fun k u => u.1 = nI k ∧ ChG h u.2 ∧ hI u.2 28 5 = 0 ∧ ∀ t, t < k → hI u.2 32 t = -9) (fun m k u hk hP ih => ?_) (fun m u hP => ?_) F (0, sI h 28 5 0) (by omega) ⟨rfl, g0, by rw [hI_sI, if_pos ⟨rfl, rfl⟩], fun t ht => by omega⟩
  · obtain ⟨u1, g⟩ := u
    obtain ⟨e1, e2, e3, e4⟩ := hP
    dsimp only at e1 e2 e3 e4 ⊢
    subst e1
    have Ig := e2.fx I
    have o32 : okA g 32 20 (nI k) = true := okA_n (fT32 Ig) (fN32 Ig) (by omega) (by decide)
    rw [c_X0_gather_L8, nI_1 k, ix_n (show k < 2147483648 by omega)]
    refine Wp.ifF (nI_ge (b := 20) hk (by decide)) (Wp.ifT (fT28 Ig) (Wp.ltO (Wp.rf (fR28_3 Ig) (Wp.ifT o32 (Wp.ltH (Wp.ltI (ih (nI (k + 1), sI g 32 k (-9)) ⟨rfl, e2.set (Or.inr (Or.inr (Or.inr rfl))), by dsimp only; rw [hI_sI, if_neg (by omega)]; exact e3, fun t ht => ?_⟩)))))))
    dsimp only
    rw [hI_sI]
    by_cases c : t = k
    · rw [if_pos ⟨rfl, c⟩]
    · rw [if_neg (fun y => c y.2)]; exact e4 t (by omega)
  · obtain ⟨u1, g1⟩ := u
    obtain ⟨e1, e2, e3, e4⟩ := hP
    dsimp only at e1 e2 e3 e4 ⊢
    subst e1
    rw [c_X0_gather_L8]
    refine Wp.ifT (by decide) ?_
    refine Wp.loop (L := fun m (u : Int32 × z_Hp) => c_X0_gather_L33 F 28 (nI D) (some 14) (some 8) (some 26) _ m u.1 u.2) (N := q) (fun k u => u.1 = nI k ∧ ChG h u.2 ∧ hI u.2 28 5 = nI (pcn D k) ∧ (∃ b, Fo y (fun t => D.testBit t) k (pcn D k) b ∧ ∀ j, j < pcn D k → hI u.2 31 j = nI (b j)) ∧ (∀ s, s < k → D.testBit s = true → hI u.2 30 (pcn D s) = nI s ∧ hR u.2 33 s = hR h 8 (so h s)) ∧ ∀ t, t < 20 → hI u.2 32 t = -9) (fun m k u hk hP ih => ?_) (fun m u hP => ?_) F (0, g1) (by omega) ⟨rfl, e2, e3, ⟨fun _ => 0, ⟨fun j hj => absurd hj (Nat.not_lt_zero _), fun i j _ hj => absurd hj (Nat.not_lt_zero _), fun s hs => by omega⟩, fun j hj => absurd hj (Nat.not_lt_zero _)⟩, fun s hs => by omega, e4⟩
    · obtain ⟨u1, g⟩ := u
      obtain ⟨p1, p2, p3, ⟨b, pO, p4⟩, p5, p6⟩ := hP
      dsimp only at p1 p2 p3 p4 p5 p6 ⊢
      subst p1
      have Ig := p2.fx I
      obtain ⟨a, a1, w⟩ := h3 k hk
      obtain ⟨s1, s2, s3⟩ := so_ok w
      have a94 := w.2.2.1
      have E := pcn_s D k
      rw [c_X0_gather_L33, nI_1 k, ix_n (show k < 2147483648 by omega)]
      refine Wp.rf rfl (Wp.ifT (fT14 Ig) (Wp.ifF (by rw [p2.1 14 1 (by unfold Agh; omega), h1]; exact nI_ge hk (by omega)) (Wp.cIe (x_has F (by omega) (by omega)) (Wp.lj (fun j hj => ?_)))))
      by_cases c : D.testBit k = true
      · rw [if_pos c] at E
        have pm := pcn_mono D (show k + 1 ≤ 20 by omega)
        have o15 : okA g 15 26 (nI k) = true := okA_n (fT15 Ig) (fN15 Ig) (by omega) (by decide)
        have o8 : okA g 8 25 (nI (so h k)) = true := okA_n (fT8 Ig) (fN8 Ig) (by omega) (by decide)
        have o33 : okA g 33 25 (nI k) = true := okA_n (fT33 Ig) (fN33 Ig) (by omega) (by decide)
        have r15 : hR g 15 k = some a := (p2.2.1 15 k (by omega)).trans a1
        have ta : hT g a = 5 := (p2.2.2.2.1 a).1.trans w.1
        have ea : hI g a 2 = nI (so h k) := (p2.1 a 2 (by unfold Agh; omega)).trans s3
        have r8 : hR g 8 (so h k) = hR h 8 (so h k) := p2.2.1 8 _ (by omega)
        have oS : okS g 25 (hR h 8 (so h k)) = true := by
          rcases R.x s2 with ⟨_, y2⟩ | ⟨_, a', _, _, _, y2, X, _, _⟩
          · rw [y2]; rfl
          · rw [y2]
            unfold okS
            simp [z_ct, (p2.2.2.2.1 a').1, X.1]
        refine Wp.ifF (by rw [if_pos c]; exact one0) (Wp.ifT (fT28 Ig) (Wp.ifT (by rw [p3]; exact nI_lt (b := 10) (by omega) (by decide)) (Wp.ifT (fT28 Ig) (Wp.ltO (Wp.ifT (fT14 Ig) (Wp.ltO (Wp.rf (fR14_0 Ig) (Wp.ifT o15 (Wp.ltO (Wp.rf r15 (Wp.ifT ta (Wp.rf rfl ?_))))))))))))
        rw [ea, ix_n (show so h k < 2147483648 by omega), r8]
        refine Wp.ifT o8 (Wp.ltO (Wp.rf (fR28_4 Ig) (Wp.ifT ⟨o33, oS⟩ (Wp.ltH ?_))))
        have q2 : ChG h (sR g 33 k (hR h 8 (so h k))) := p2.setR
        have c1 : hI (sR g 33 k (hR h 8 (so h k))) 28 5 = nI (pcn D k) := p3
        have c31 : ∀ j, j < pcn D k → hI (sR g 33 k (hR h 8 (so h k))) 31 j = nI (b j) := p4
        have c30 : ∀ s, s < k → D.testBit s = true → hI (sR g 33 k (hR h 8 (so h k))) 30 (pcn D s) = nI s := fun s hs hm => (p5 s hs hm).1
        have c33 : ∀ s, s < k + 1 → D.testBit s = true → hR (sR g 33 k (hR h 8 (so h k))) 33 s = hR h 8 (so h s) := fun s hs hm => by
          rw [hR_sR]
          by_cases e : s = k
          · rw [if_pos ⟨rfl, e⟩, e]
          · rw [if_neg (fun y => e y.2)]; exact (p5 s (by omega) hm).2
        have c32 : ∀ t, t < 20 → hI (sR g 33 k (hR h 8 (so h k))) 32 t = -9 := p6
        generalize sR g 33 k (hR h 8 (so h k)) = g2 at q2 c1 c31 c30 c33 c32 ⊢
        have I2 := q2.fx I
        have o30 : okA g2 30 20 (nI (pcn D k)) = true := okA_n (fT30 I2) (fN30 I2) (by omega) (by decide)
        refine Wp.ifT (fT28 I2) (Wp.ltO (Wp.ifT (fT28 I2) (Wp.rf (fR28_1 I2) ?_)))
        rw [c1, ix_n (show pcn D k < 2147483648 by omega)]
        refine Wp.ifT o30 (Wp.ltH ?_)
        have q3 : ChG h (sI g2 30 (pcn D k) (nI k)) := q2.set (Or.inr (Or.inl rfl))
        have d1 : hI (sI g2 30 (pcn D k) (nI k)) 28 5 = nI (pcn D k) := by rw [hI_sI, if_neg (by omega)]; exact c1
        have d31 : ∀ j, j < pcn D k → hI (sI g2 30 (pcn D k) (nI k)) 31 j = nI (b j) := fun j hj => by rw [hI_sI, if_neg (by omega)]; exact c31 j hj
        have d30 : ∀ s, s < k + 1 → D.testBit s = true → hI (sI g2 30 (pcn D k) (nI k)) 30 (pcn D s) = nI s := fun s hs hm => by
          rw [hI_sI]
          by_cases e : s = k
          · rw [if_pos ⟨rfl, by rw [e]⟩, e]
          · have l1 := pcn_mono D (show s + 1 ≤ k by omega)
            have l2 := pcn_s D s
            rw [if_pos hm] at l2
            rw [if_neg (by omega)]; exact c30 s (by omega) hm
        have d33 : ∀ s, s < k + 1 → D.testBit s = true → hR (sI g2 30 (pcn D k) (nI k)) 33 s = hR h 8 (so h s) := c33
        have d32 : ∀ t, t < 20 → hI (sI g2 30 (pcn D k) (nI k)) 32 t = -9 := fun t ht => by rw [hI_sI, if_neg (by omega)]; exact c32 t ht
        generalize sI g2 30 (pcn D k) (nI k) = g3 at q3 d1 d31 d30 d33 d32 ⊢
        have I3 := q3.fx I
        refine Wp.ifT (fT28 I3) (Wp.ifT (fT28 I3) (Wp.ltH (Wp.ltI ?_)))
        rw [d1, nI_1 (pcn D k)]
        have q4 : ChG h (sI g3 28 5 (nI (pcn D k + 1))) := q3.set (Or.inl ⟨rfl, rfl⟩)
        have f1 : hI (sI g3 28 5 (nI (pcn D k + 1))) 28 5 = nI (pcn D k + 1) := by rw [hI_sI, if_pos ⟨rfl, rfl⟩]
        have f31 : ∀ j, j < pcn D k → hI (sI g3 28 5 (nI (pcn D k + 1))) 31 j = nI (b j) := fun j hj => by rw [hI_sI, if_neg (by omega)]; exact d31 j hj
        have f30 : ∀ s, s < k + 1 → D.testBit s = true → hI (sI g3 28 5 (nI (pcn D k + 1))) 30 (pcn D s) = nI s := fun s hs hm => by rw [hI_sI, if_neg (by omega)]; exact d30 s hs hm
        have f33 : ∀ s, s < k + 1 → D.testBit s = true → hR (sI g3 28 5 (nI (pcn D k + 1))) 33 s = hR h 8 (so h s) := d33
        have f32 : ∀ t, t < 20 → hI (sI g3 28 5 (nI (pcn D k + 1))) 32 t = -9 := fun t ht => by rw [hI_sI, if_neg (by omega)]; exact d32 t ht
        generalize sI g3 28 5 (nI (pcn D k + 1)) = g4 at q4 f1 f31 f30 f33 f32 ⊢
        have I4 := q4.fx I
        refine x_gL106 F I4 hF (b := b) (y := y) (by omega) (by omega) (fun i hi => ⟨by have := (pO.1 i hi).1; omega, f31 i hi⟩) (fun t ht ho => ?_) 14 8 _ _ (fun p g5 pn r1 r2 r3 r4 r5 => ?_)
        · have tq : t < q := by
            rcases ho with e | ⟨i, i1, i2⟩
            · omega
            · have := (pO.1 i i1).1; omega
          rw [q4.1 26 t (by unfold Agh; omega)]
          exact hy t tq
        · have q5 : ChG h g5 := q4.ch r1 (fun a i e => Or.inr (Or.inr (Or.inl e)))
          have I5 := q5.fx I
          have o31 : okA g5 31 20 (nI p) = true := okA_n (fT31 I5) (fN31 I5) (by omega) (by decide)
          rw [ix_n (show p < 2147483648 by omega)]
          refine Wp.ifT (fT28 I5) (Wp.ltO (Wp.rf (fR28_2 I5) (Wp.ifT o31 (Wp.ltH ?_))))
          rw [hj]
          refine ih (nI (k + 1), sI g5 31 p (nI k)) ⟨rfl, q5.set (Or.inr (Or.inr (Or.inl rfl))), ?_, ⟨_, by rw [E]; exact pO.ins c pn r4 r5, fun i hi => ?_⟩, fun s hs hm => ⟨?_, ?_⟩, fun t ht => ?_⟩
          · dsimp only
            rw [hI_sI, if_neg (by omega), r1.1 28 5 (by omega), f1, E]
          · dsimp only
            rw [E] at hi
            rw [hI_sI]
            by_cases i1 : i < p
            · rw [if_neg (by omega), if_pos i1]; exact r2 i i1
            · rw [if_neg i1]
              by_cases i2 : i = p
              · rw [if_pos ⟨rfl, i2⟩, if_pos i2]
              · rw [if_neg (fun y => i2 y.2), if_neg i2]; exact r3 i (by omega) (by omega)
          · dsimp only
            rw [hI_sI, if_neg (by omega), r1.1 30 _ (by omega)]; exact f30 s hs hm
          · exact (r1.R 33 s).trans (f33 s hs hm)
          · dsimp only
            rw [hI_sI, if_neg (by omega), r1.1 32 _ (by omega)]; exact f32 t ht
      · rw [if_neg c] at E
        refine Wp.ifT (by rw [if_neg c]) ?_
        rw [hj]
        have ne : ∀ s, s < k + 1 → D.testBit s = true → s < k := fun s hs hm => by
          by_cases e : s = k
          · rw [e] at hm; exact absurd hm c
          · omega
        refine ih (nI (k + 1), g) ⟨rfl, p2, by rw [E]; exact p3, ⟨b, ?_, by rw [E]; exact p4⟩, fun s hs hm => p5 s (ne s hs hm) hm, p6⟩
        rw [E]
        exact ⟨fun i hi => ⟨by have := (pO.1 i hi).1; omega, (pO.1 i hi).2⟩, pO.2.1, fun s hs hm => pO.2.2 s (ne s hs hm) hm⟩
    · obtain ⟨u1, g⟩ := u
      obtain ⟨p1, p2, p3, ⟨b, pO, p4⟩, p5, p6⟩ := hP
      dsimp only at p1 p2 p3 p4 p5 p6 ⊢
      subst p1
      have Ig := p2.fx I
      have pm := pcn_mono D hq
      rw [c_X0_gather_L33]
      refine Wp.rf rfl (Wp.ifT (fT14 Ig) (Wp.ifT (by rw [p2.1 14 1 (by unfold Agh; omega), h1]; exact nI_le (Nat.le_refl _) (by omega)) ?_))
      refine (x_gL171 F Ig hF (by omega) p3 (fun j hj => ⟨by have := (pO.1 j hj).1; omega, p4 j hj⟩) (fun i j hi hj e => pO.inj hi hj e) p6).mono (fun g' w => ?_)
      obtain ⟨w1, w2, w3⟩ := w
      refine ⟨p2.ch w1 (fun a i e => Or.inr (Or.inr (Or.inr e))), (w1.1 28 5 (by omega)).trans p3, b, pO, fun j hj => ⟨(w1.1 31 j (by omega)).trans (p4 j hj), w2 j hj⟩, fun s hs hm => ⟨(w1.1 30 _ (by omega)).trans (p5 s hs hm).1, (w1.R 33 s).trans (p5 s hs hm).2⟩, w3⟩
end Gat2
