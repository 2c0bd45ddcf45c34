section Jdm
variable {h : z_Hp} (F : Nat) (x1 x2 x3 x4 x5 : Int32)
theorem m_jL81 (I : Ifx h) (hF : 5000 ≤ F) {q D : Nat} {y : Nat → Nat} (hq : q ≤ 20) (h2 : hI h 46 26 = nI q) (hD : D < 1048576) (hy : ∀ v, v < q → hI h 80 v = nI (y v) ∧ y v ≤ 1999) (ex : ∃ t, t < q ∧ D.testBit t = true) (x : Int32) (K : Int32 → z_Hp → Option (Int32 × z_Hp)) {P : Int32 × z_Hp → Prop} (k : ∀ s0, s0 < q → D.testBit s0 = true → (∀ t, t < q → D.testBit t = true → ¬ aq y t s0) → Wp (K (nI s0) h) P) : Wp (c_X10_judge_L81 F 46 (nI D) x K F (-9) 0 h) P := by
  refine Wp.loop (L := fun m (u : Int32 × Int32) => c_X10_judge_L81 F 46 (nI D) x K m u.1 u.2 h) (N := q) (fun j u => u.2 = nI j ∧ ((u.1 = -9 ∧ ∀ t, t < j → ¬ D.testBit t = true) ∨ ∃ s0, s0 < j ∧ D.testBit s0 = true ∧ u.1 = nI s0 ∧ ∀ t, t < j → D.testBit t = true → ¬ aq y t s0)) (fun m j u hj hP ih => ?_) (fun m u hP => ?_) F (-9, 0) (by omega) ⟨rfl, Or.inl ⟨rfl, fun t ht => by omega⟩⟩
  · obtain ⟨u1, u2⟩ := u
    obtain ⟨p1, p2⟩ := hP
    dsimp only at p1 p2 ⊢
    subst p1
    rw [c_X10_judge_L81, nI_1 j]
    refine Wp.ifT (fT46 I) (Wp.ifF (by rw [h2]; exact nI_ge hj (by omega)) (Wp.cIe (m_has F (by omega) (by omega)) (Wp.lj (fun jA hjA => Wp.lj (fun jB hjB => ?_)))))
    by_cases c : D.testBit j = true
    · refine Wp.ifF (by rw [if_pos c]; exact one0) (Wp.lj (fun jC hjC => ?_))
      have new : (∀ t, t < j → D.testBit t = true → ¬ aq y t j) → Wp (jC h) P := fun a => by
        rw [hjC, hjA]
        refine ih (nI j, nI (j + 1)) ⟨rfl, Or.inr ⟨j, by omega, c, rfl, fun t ht mt => ?_⟩⟩
        by_cases e : t = j
        · rw [e]; exact aq_irr
        · exact a t (by omega) mt
      rcases p2 with ⟨p2, p3⟩ | ⟨s0, p2, p3, p4, p5⟩
      · exact Wp.ifT (by rw [p2]; exact neg9) (new (fun t ht mt => absurd mt (p3 t ht)))
      · subst p4
        refine Wp.ifF (pnI (by omega)) (Wp.ifT (fT46 I) (Wp.cIe (m_cma F I hq hy hj (show s0 < q by omega)) ?_))
        by_cases a : ab y j s0 = true
        · refine Wp.ifF (by rw [if_pos a]; exact one0) (new (fun t ht mt z => ?_))
          have a' := ab_t.mp a
          have := p5 t ht mt
          unfold aq at *
          omega
        · refine Wp.ifT (by rw [if_neg a]) ?_
          rw [hjB, hjA]
          refine ih (nI s0, nI (j + 1)) ⟨rfl, Or.inr ⟨s0, by omega, p3, rfl, fun t ht mt => ?_⟩⟩
          by_cases e : t = j
          · rw [e]; exact fun z => a (ab_t.mpr z)
          · exact p5 t (by omega) mt
    · refine Wp.ifT (by rw [if_neg c]) ?_
      rw [hjB, hjA]
      refine ih (u1, nI (j + 1)) ⟨rfl, ?_⟩
      rcases p2 with ⟨p2, p3⟩ | ⟨s0, p2, p3, p4, p5⟩
      · refine Or.inl ⟨p2, fun t ht => ?_⟩
        by_cases e : t = j
        · rw [e]; exact c
        · exact p3 t (by omega)
      · refine Or.inr ⟨s0, by omega, p3, p4, fun t ht mt => ?_⟩
        by_cases e : t = j
        · rw [e] at mt; exact absurd mt c
        · exact p5 t (by omega) mt
  · obtain ⟨u1, u2⟩ := u
    obtain ⟨p1, p2⟩ := hP
    dsimp only at p1 p2 ⊢
    subst p1
    rw [c_X10_judge_L81]
    refine Wp.ifT (fT46 I) (Wp.ifT (by rw [h2]; exact nI_le (Nat.le_refl _) (by omega)) ?_)
    rcases p2 with ⟨p2, p3⟩ | ⟨s0, p2, p3, p4, p5⟩
    · obtain ⟨t, t1, t2⟩ := ex
      exact absurd t2 (p3 t t1)
    · rw [p4]
      exact k s0 p2 p3 p5
theorem m_jL139 (I : Ifx h) (hF : 5000 ≤ F) {q D r s0 : Nat} {y : Nat → Nat} {V : Nat → Nat → Nat} {w : Nat → Int32} (hq : q ≤ 20) (h2 : hI h 46 26 = nI q) (hD : D < 1048576) (n10 : pcn D q ≤ 10) (hy : ∀ v, v < q → hI h 80 v = nI (y v) ∧ y v ≤ 1999) {sg : Nat → Nat} (h67 : ∀ v, v < q → hI h 67 v = nI (sg v)) (hr : r < 6) (e49 : ∀ j, j < pcn D q → hI h 49 (40 * r + j) = w j) (o1 : s0 < q) (o2 : D.testBit s0 = true) (o3 : ∀ t, t < q → D.testBit t = true → ¬ aq y t s0) (hc : ∀ k, ChI Am h k → ∀ t s, t < q → s < q → D.testBit t = true → D.testBit s = true → Wp (c_X10_changesOf F 46 (nI (sg t)) (nI (sg s)) k) (fun r => r.1 = nI (V t s) ∧ ChI Am k r.2)) (K : Int32 → z_Hp → Option (Int32 × z_Hp)) {P : Int32 × z_Hp → Prop} (bad : ∀ s g, s < q → D.testBit s = true → ¬ gd y D q (w (pcn D s)) s → (∀ t, t < s → D.testBit t = true → gd y D q (w (pcn D t)) t) → ChI Am h g → P (nI s, g)) (k : (∀ s, s < q → D.testBit s = true → gd y D q (w (pcn D s)) s) → ∀ g, ChI Am h g → Wp (K (nI (fb_sm (fun s => if D.testBit s = true then ctb V (w (pcn D s)) s else 0) q)) g) P) : Wp (c_X10_judge_L139 F 46 (nI D) (nI r) (nI s0) K F 0 0 0 h) P := by
  refine Wp.loop (L := fun m (u : Int32 × Int32 × Int32 × z_Hp) => c_X10_judge_L139 F 46 (nI D) (nI r) (nI s0) K m u.1 u.2.1 u.2.2.1 u.2.2.2) (N := q) (fun s u => u.1 = nI (fb_sm (fun s => if D.testBit s = true then ctb V (w (pcn D s)) s else 0) s) ∧ u.2.1 = nI (pcn D s) ∧ u.2.2.1 = nI s ∧ ChI Am h u.2.2.2 ∧ ∀ t, t < s → D.testBit t = true → gd y D q (w (pcn D t)) t) (fun m s u hs hP ih => ?_) (fun m u hP => ?_) F (0, 0, 0, h) (by omega) ⟨rfl, rfl, rfl, ChI.refl _ _, fun t ht => by omega⟩
  · obtain ⟨u1, u2, u3, g⟩ := u
    obtain ⟨p1, p2, p3, p4, p5⟩ := hP
    dsimp only at p1 p2 p3 p4 ⊢
    subst p1 p2 p3
    have Ig := p4.fx I
    have n80 : ∀ i, ¬ Am 67 i ∧ ¬ Am 80 i ∧ ¬ Am 49 i := fun i => ⟨by unfold Am; omega, by unfold Am; omega, by unfold Am; omega⟩
    have g26 : hI g 46 26 = nI q := (p4.1 46 26 (by unfold Am; omega)).trans h2
    have gy : ∀ v, v < q → hI g 80 v = nI (y v) ∧ y v ≤ 1999 := fun v hv => by rw [p4.1 80 v (n80 v).2.1]; exact hy v hv
    have E := pcn_s D s
    have ES := fb_sm_succ (fun s => if D.testBit s = true then ctb V (w (pcn D s)) s else 0) s
    rw [c_X10_judge_L139, nI_1 s, nI_1 (pcn D s)]
    refine Wp.ifT (fT46 Ig) (Wp.ifF (by rw [g26]; exact nI_ge hs (by omega)) (Wp.cIe (m_has F (by omega) (by omega)) (Wp.lj (fun jA hjA => ?_))))
    by_cases c : D.testBit s = true
    · rw [if_pos c] at E
      rw [if_pos c] at ES
      have l1 := pcn_mono D (show s + 1 ≤ q by omega)
      have o49 : okA g 49 20 (nI (40 * r + pcn D s)) = true := okA_n (fT49 Ig) (fN49 Ig) (by omega) (by decide)
      have e40 : (40 : Int32) * nI r + nI (pcn D s) = nI (40 * r + pcn D s) := by rw [show (40 : Int32) = nI 40 from rfl, nI_mul, nI_add]
      refine Wp.ifF (by rw [if_pos c]; exact one0) (Wp.ifT (fT46 Ig) (Wp.ltO (Wp.rf (fR46_8 Ig) ?_)))
      rw [e40, ix_n (show 40 * r + pcn D s < 2147483648 by omega)]
      refine Wp.ifT o49 (Wp.ltI (Wp.ltI ?_))
      rw [p4.1 49 _ (n80 _).2.2, e49 _ (by omega)]
      have oS : okA g 67 20 (nI s) = true := okA_n (fT67 Ig) (fN67 Ig) (by omega) (by decide)
      refine Wp.lj (fun jB hjB => ?_)
      have no : ¬ gd y D q (w (pcn D s)) s → Wp (jB 0 g) P := fun z => by
        rw [hjB]
        exact Wp.ifT rfl (Wp.ret (bad s g hs c z p5 p4))
      have yes : gd y D q (w (pcn D s)) s → Wp (jB 1 g) P := fun z => by
        rw [hjB]
        refine Wp.ifF one0 (Wp.lj (fun jC hjC => ?_))
        have go : ∀ (x : Nat) g', ChI Am h g' → x = ctb V (w (pcn D s)) s → Wp (jC (nI x) g') P := fun x g' hg hx => by
          rw [hjC]
          refine Wp.ltI ?_
          rw [hjA, nI_add]
          refine ih (nI (fb_sm (fun s => if D.testBit s = true then ctb V (w (pcn D s)) s else 0) s + x), nI (pcn D s + 1), nI (s + 1), g') ⟨by rw [ES, hx], by rw [E], rfl, hg, fun t ht mt => ?_⟩
          by_cases e : t = s
          · rw [e]; exact z
          · exact p5 t (by omega) mt
        by_cases c9 : w (pcn D s) = -9
        · exact Wp.ifT c9 (go 0 g p4 (by unfold ctb; rw [if_pos c9]))
        · rcases z with ⟨z, _⟩ | ⟨t, t1, t2, t3, t4⟩
          · exact absurd z c9
          · have oT : okA g 67 20 (nI t) = true := okA_n (fT67 Ig) (fN67 Ig) (by omega) (by decide)
            refine Wp.ifF c9 (Wp.ifT (fT46 Ig) (Wp.ltO (Wp.rf (fR46_29 Ig) ?_)))
            rw [t3]
            refine Wp.ifT oT (Wp.ifT (fT46 Ig) (Wp.ltO (Wp.rf (fR46_29 Ig) (Wp.ifT oS (Wp.ifT (fT46 Ig) ?_)))))
            rw [ix_n (show t < 2147483648 by omega), ix_n (show s < 2147483648 by omega), p4.1 67 t (n80 t).1, p4.1 67 s (n80 s).1, h67 t t1, h67 s hs]
            refine Wp.cI ((hc g p4 t s t1 hs t2 c).mono (fun r d => ?_))
            obtain ⟨v, g'⟩ := r
            obtain ⟨d1, d2⟩ := d
            dsimp only at d1 d2 ⊢
            subst d1
            refine go _ g' ((p4.trans d2).mono (fun a i e => by rcases e with e | e <;> exact e)) ?_
            unfold ctb
            rw [if_neg c9, t3, ix_n (show t < 2147483648 by omega)]
      by_cases c9 : w (pcn D s) = -9
      · refine Wp.ifT c9 ?_
        by_cases e : s = s0
        · exact Wp.ifT (by rw [e]) (yes (Or.inl ⟨c9, by rw [e]; exact o3⟩))
        · refine Wp.ifF (fun z => e ((nI_eq (by omega) (by omega)).mp z)) (no (fun z => ?_))
          rcases z with ⟨_, z⟩ | ⟨t, t1, _, t3, _⟩
          · have a1 := z s0 o1 o2
            have a2 := o3 s hs c
            unfold aq at a1 a2
            omega
          · rw [c9] at t3
            exact enc9 (show t < 2147483648 by omega) t3.symm
      · refine Wp.ifF c9 (Wp.ifT (fT46 Ig) (Wp.cIe (m_isSheet Ig hq g26 F _) (Wp.lj (fun jD hjD => ?_))))
        have nD : ¬ gd y D q (w (pcn D s)) s → Wp (jD g) P := fun z => by rw [hjD]; exact no z
        have only : ∀ t, t < 2147483648 → w (pcn D s) = nI t → gd y D q (w (pcn D s)) s → t < q ∧ D.testBit t = true ∧ aq y t s := fun t ht e z => by
          rcases z with ⟨z, _⟩ | ⟨t', t1, t2, t3, t4⟩
          · exact absurd z c9
          · have et : t' = t := (nI_eq (by omega) ht).mp (t3.symm.trans e)
            rw [et] at t1 t2 t4
            exact ⟨t1, t2, t4⟩
        by_cases ci : 0 ≤ (w (pcn D s)).toInt ∧ (w (pcn D s)).toInt ≤ (q : Int) - 1
        · obtain ⟨t, ht, et⟩ := rng (x := w (pcn D s)) (n := 19) ⟨ci.1, by omega⟩
          have tq : t < q := by have := ci; rw [et, toI_n (by omega)] at this; omega
          refine Wp.ifF (by rw [if_pos ci]; exact one0) ?_
          rw [et] at only nD yes ⊢
          refine Wp.cIe (m_has F (by omega) (by omega)) ?_
          by_cases cm : D.testBit t = true
          · refine Wp.ifF (by rw [if_pos cm]; exact one0) ?_
            by_cases ts : t = s
            · exact Wp.ifT (by rw [ts]) (nD (fun z => by have := (only t (by omega) rfl z).2.2; rw [ts] at this; exact aq_irr this))
            · refine Wp.ifF (fun z => ts ((nI_eq (by omega) (by omega)).mp z)) (Wp.ifT (fT46 Ig) (Wp.cIe (m_cma F Ig hq gy tq hs) ?_))
              by_cases a : ab y t s = true
              · exact Wp.ifF (by rw [if_pos a]; exact one0) (yes (Or.inr ⟨t, tq, cm, rfl, ab_t.mp a⟩))
              · exact Wp.ifT (by rw [if_neg a]) (nD (fun z => a (ab_t.mpr (only t (by omega) rfl z).2.2)))
          · exact Wp.ifT (by rw [if_neg cm]) (nD (fun z => cm (only t (by omega) rfl z).2.1))
        · refine Wp.ifT (by rw [if_neg ci]) (nD (fun z => ?_))
          rcases z with ⟨z, _⟩ | ⟨t', t1, t2, t3, t4⟩
          · exact c9 z
          · rw [t3, toI_n (by omega)] at ci
            omega
    · rw [if_neg c] at E
      rw [if_neg c] at ES
      refine Wp.ifT (by rw [if_neg c]) ?_
      rw [hjA]
      refine ih (_, _, nI (s + 1), g) ⟨by rw [ES]; rfl, by rw [E]; rfl, rfl, p4, fun t ht mt => ?_⟩
      by_cases e : t = s
      · rw [e] at mt; exact absurd mt c
      · exact p5 t (by omega) mt
  · obtain ⟨u1, u2, u3, g⟩ := u
    obtain ⟨p1, p2, p3, p4, p5⟩ := hP
    dsimp only at p1 p2 p3 p4 ⊢
    subst p1 p2 p3
    have Ig := p4.fx I
    have g26 : hI g 46 26 = nI q := (p4.1 46 26 (by unfold Am; omega)).trans h2
    rw [c_X10_judge_L139]
    exact Wp.ifT (fT46 Ig) (Wp.ifT (by rw [g26]; exact nI_le (Nat.le_refl _) (by omega)) (k p5 g p4))
end Jdm
