section Jdx
variable {h : z_Hp} (F : Nat) (x1 x2 x3 x4 x5 : Int32)
/-- w is a right parent of s -/
def gd (y : Nat → Nat) (D q : Nat) (w : Int32) (s : Nat) : Prop := (w = -9 ∧ ∀ t, t < q → D.testBit t = true → ¬ aq y t s) ∨ ∃ t, t < q ∧ D.testBit t = true ∧ w = nI t ∧ aq y t s
theorem aq_irr {y : Nat → Nat} {s : Nat} : ¬ aq y s s := by unfold aq; omega
theorem aq_asy {y : Nat → Nat} {s t : Nat} (a : aq y s t) : ¬ aq y t s := by unfold aq at *; omega
theorem x_cD (I : Ifx h) {y : Nat → Nat} {q n D : Nat} {b : Nat → Nat} (hq : q ≤ 20) (n10 : n ≤ 10) (O : Fo y (fun t => D.testBit t) q n b) (r1 : ∀ j, j < n → hI h 32 (b j) = nI j) (r2 : ∀ t, t < 20 → (∀ j, j < n → ¬ b j = t) → hI h 32 t = -9) {s : Nat} (hs : s < q) (hm : D.testBit s = true) (w : Int32) : Wp (c_X0_canDescend F 28 (nI s) w h) (fun r => r.2 = h ∧ ((gd y D q w s ∧ r.1 = 1) ∨ (¬ gd y D q w s ∧ r.1 = 0))) := by
  obtain ⟨i, hi, ei⟩ := O.2.2 s hs hm
  have rs : hI h 32 s = nI i := by rw [← ei]; exact r1 i hi
  have oS : okA h 32 20 (nI s) = true := okA_n (fT32 I) (fN32 I) (by omega) (by decide)
  unfold c_X0_canDescend
  rw [ix_n (show s < 2147483648 by omega)]
  by_cases c9 : w = -9
  · refine Wp.ifT c9 (Wp.ifT (fT28 I) (Wp.ltO (Wp.rf (fR28_3 I) (Wp.ifT oS ?_))))
    rw [rs]
    by_cases c0 : i = 0
    · refine Wp.ifT (by rw [c0]; rfl) (Wp.ret ⟨rfl, Or.inl ⟨Or.inl ⟨c9, fun t ht mt a => ?_⟩, rfl⟩⟩)
      obtain ⟨j, hj, ej⟩ := O.2.2 t ht mt
      by_cases e : j = i
      · rw [← ej, ← ei, e] at a; exact aq_irr a
      · have := O.2.1 i j (by omega) hj
        rw [ei, ej] at this
        exact aq_asy this a
    · refine Wp.ifF (nI_ne0 (by omega) (by omega)) (Wp.ret ⟨rfl, Or.inr ⟨fun g => ?_, rfl⟩⟩)
      rcases g with ⟨_, g⟩ | ⟨t, t1, _, t3, _⟩
      · have a := O.2.1 0 i (by omega) hi
        rw [ei] at a
        obtain ⟨b1, b2⟩ := O.1 0 (by omega)
        exact g (b 0) b1 b2 a
      · rw [c9] at t3
        exact enc9 (show t < 2147483648 by omega) t3.symm
  · refine Wp.ifF c9 ?_
    by_cases cn : w < 0
    · refine Wp.ifT cn (Wp.ret ⟨rfl, Or.inr ⟨fun g => ?_, rfl⟩⟩)
      rcases g with ⟨g, _⟩ | ⟨t, t1, _, t3, _⟩
      · exact c9 g
      · rw [t3] at cn; exact pnI (by omega) cn
    · refine Wp.ifF cn ?_
      by_cases c20 : (20 : Int32) ≤ w
      · refine Wp.ifT c20 (Wp.ret ⟨rfl, Or.inr ⟨fun g => ?_, rfl⟩⟩)
        rcases g with ⟨g, _⟩ | ⟨t, t1, _, t3, _⟩
        · exact c9 g
        · rw [t3] at c20
          exact nI_ge (b := 20) (show t < 20 by omega) (by decide) c20
      · refine Wp.ifF c20 ?_
        obtain ⟨t, ht, rfl⟩ := rng (x := w) (n := 19) ⟨by rw [fa_lt, ti_0] at cn; omega, by rw [fa_le, ti_20] at c20; omega⟩
        have oT : okA h 32 20 (nI t) = true := okA_n (fT32 I) (fN32 I) (by omega) (by decide)
        refine Wp.ifT (fT28 I) (Wp.ltO (Wp.rf (fR28_3 I) (Wp.ifT oT ?_)))
        rw [ix_n (show t < 2147483648 by omega)]
        by_cases mt : ∃ j, j < n ∧ b j = t
        · obtain ⟨j, hj, ej⟩ := mt
          obtain ⟨b1, b2⟩ := O.1 j hj
          rw [ej] at b1 b2
          have rt : hI h 32 t = nI j := by rw [← ej]; exact r1 j hj
          rw [rt]
          refine Wp.ifF (enc9 (by omega)) (Wp.ifT (fT28 I) (Wp.ltO (Wp.rf (fR28_3 I) (Wp.ifT oT (Wp.ifT (fT28 I) (Wp.ltO (Wp.rf (fR28_3 I) (Wp.ifT oS ?_))))))))
          rw [rs, rt]
          by_cases l : i ≤ j
          · refine Wp.ifT (nI_le l (by omega)) (Wp.ret ⟨rfl, Or.inr ⟨fun g => ?_, rfl⟩⟩)
            rcases g with ⟨g, _⟩ | ⟨t', t1, _, t3, t4⟩
            · exact c9 g
            · have et : t' = t := ((nI_eq (by omega) (by omega)).mp t3).symm
              rw [et] at t4
              by_cases e : i = j
              · rw [← ej, ← ei, e] at t4; exact aq_irr t4
              · have := O.2.1 i j (by omega) hj
                rw [ei, ej] at this
                exact aq_asy this t4
          · refine Wp.ifF (nI_ge (by omega) (by omega)) (Wp.ret ⟨rfl, Or.inl ⟨Or.inr ⟨t, b1, b2, rfl, ?_⟩, rfl⟩⟩)
            have := O.2.1 j i (by omega) hi
            rw [ei, ej] at this
            exact this
        · rw [r2 t (by omega) (fun j hj e => mt ⟨j, hj, e⟩)]
          refine Wp.ifT rfl (Wp.ret ⟨rfl, Or.inr ⟨fun g => ?_, rfl⟩⟩)
          rcases g with ⟨g, _⟩ | ⟨t', t1, t2, t3, t4⟩
          · exact c9 g
          · have et : t' = t := ((nI_eq (by omega) (by omega)).mp t3).symm
            rw [et] at t1 t2
            exact mt (O.2.2 t t1 t2)
/-- the j-th member, by number -/
def mem (D q j : Nat) : Nat := nth (fun t => D.testBit t) q j
theorem mem_ok {D q j : Nat} (hj : j < pcn D q) : mem D q j < q ∧ D.testBit (mem D q j) = true ∧ pcn D (mem D q j) = j := nth_ok hj
theorem mem_at {D q s : Nat} (hs : s < q) (hm : D.testBit s = true) : mem D q (pcn D s) = s := nth_at (p := fun t => D.testBit t) hm rfl q hs
theorem x_fwp (I : Ifx h) (hF : 5000 ≤ F) {y : Nat → Nat} {q D a : Nat} {b : Nat → Nat} {w : Nat → Int32} (hq : q ≤ 20) (n10 : pcn D q ≤ 10) (e5 : hI h 28 5 = nI (pcn D q)) (O : Fo y (fun t => D.testBit t) q (pcn D q) b) (r1 : ∀ j, j < pcn D q → hI h 32 (b j) = nI j) (r2 : ∀ t, t < 20 → (∀ j, j < pcn D q → ¬ b j = t) → hI h 32 t = -9) (r3 : ∀ s, s < q → D.testBit s = true → hI h 30 (pcn D s) = nI s) (ta : hT h a = 20) (na : hN h a = pcn D q) (ea : ∀ j, j < pcn D q → hI h a j = w j) : Wp (c_X0_firstWrongParent F 28 (some a) h) (fun r => r.2 = h ∧ ((∃ s, s < q ∧ D.testBit s = true ∧ ¬ gd y D q (w (pcn D s)) s ∧ (∀ t, t < s → D.testBit t = true → gd y D q (w (pcn D t)) t) ∧ r.1 = nI s) ∨ ((∀ s, s < q → D.testBit s = true → gd y D q (w (pcn D s)) s) ∧ r.1 = -9))) := by
  have ol : okL h a = true := okL_n ta (by decide) (by decide)
  unfold c_X0_firstWrongParent
  refine Wp.loop (L := fun m (u : Int32) => c_X0_firstWrongParent_L2 F 28 (some a) m u h) (N := pcn D q) (fun j u => u = nI j ∧ ∀ i, i < j → gd y D q (w i) (mem D q i)) (fun m j u hj hP ih => ?_) (fun m u hP => ?_) F 0 (by omega) ⟨rfl, fun i hi => by omega⟩
  · obtain ⟨p1, p2⟩ := hP
    subst p1
    obtain ⟨m1, m2, m3⟩ := mem_ok hj
    have e30 : hI h 30 j = nI (mem D q j) := by have := r3 _ m1 m2; rw [m3] at this; exact this
    have o30 : okA h 30 20 (nI j) = true := okA_n (fT30 I) (fN30 I) (by omega) (by decide)
    have oa : okA h a 20 (nI j) = true := okA_n ta na hj (by omega)
    rw [c_X0_firstWrongParent_L2, nI_1 j, ix_n (show j < 2147483648 by omega)]
    refine Wp.ifT (fT28 I) (Wp.ifF (by rw [e5]; exact nI_ge hj (by omega)) (Wp.rf rfl (Wp.ifT ol (Wp.ifF (by rw [na]; exact nI_ge hj (by omega)) (Wp.ifT (fT28 I) (Wp.ltO (Wp.rf (fR28_1 I) (Wp.ifT o30 (Wp.ifT oa (Wp.ifT (fT28 I) ?_))))))))))
    rw [e30, ea j hj]
    refine Wp.cI ((x_cD F I hq n10 O r1 r2 m1 m2 (w j)).mono (fun r d => ?_))
    obtain ⟨v, k⟩ := r
    obtain ⟨d1, d2⟩ := d
    dsimp only at d1 d2 ⊢
    rw [d1]
    rcases d2 with ⟨d2, d3⟩ | ⟨d2, d3⟩
    · refine Wp.ifF (by rw [d3]; exact one0) (Wp.ltI (ih (nI (j + 1)) ⟨rfl, fun i hi => ?_⟩))
      by_cases e : i = j
      · rw [e]; exact d2
      · exact p2 i (by omega)
    · refine Wp.ifT d3 (Wp.ifT (fT28 I) (Wp.ltO (Wp.rf (fR28_1 I) (Wp.ifT o30 (Wp.ret ⟨rfl, Or.inl ⟨mem D q j, m1, m2, by rw [m3]; exact d2, fun t ht mt => ?_, e30⟩⟩)))))
      have l1 := pcn_mono D (show t + 1 ≤ mem D q j by omega)
      have l2 := pcn_s D t
      rw [if_pos mt] at l2
      have := p2 (pcn D t) (by omega)
      rw [mem_at (by omega) mt] at this
      exact this
  · obtain ⟨p1, p2⟩ := hP
    subst p1
    rw [c_X0_firstWrongParent_L2]
    refine Wp.ifT (fT28 I) (Wp.ifT (by rw [e5]; exact nI_le (Nat.le_refl _) (by omega)) (Wp.ret ⟨rfl, Or.inr ⟨fun s hs ms => ?_, rfl⟩⟩))
    have l1 := pcn_mono D (show s + 1 ≤ q by omega)
    have l2 := pcn_s D s
    rw [if_pos ms] at l2
    have := p2 (pcn D s) (by omega)
    rw [mem_at hs ms] at this
    exact this
/-- what a parent adds -/
def ctb (V : Nat → Nat → Nat) (w : Int32) (s : Nat) : Nat := if w = -9 then 0 else V (ix w) s
theorem x_sO (I : Ifx h) (hF : 5000 ≤ F) {y : Nat → Nat} {V : Nat → Nat → Nat} {q D a : Nat} {w : Nat → Int32} (hq : q ≤ 20) (n10 : pcn D q ≤ 10) (e5 : hI h 28 5 = nI (pcn D q)) (r3 : ∀ s, s < q → D.testBit s = true → hI h 30 (pcn D s) = nI s) (a94 : 94 ≤ a) (ta : hT h a = 20) (na : hN h a = pcn D q) (ea : ∀ j, j < pcn D q → hI h a j = w j) (G : ∀ s, s < q → D.testBit s = true → gd y D q (w (pcn D s)) s) (hc : ∀ k, ChI (fun a _ => a = 29) h k → ∀ t s, t < q → s < q → D.testBit t = true → D.testBit s = true → Wp (c_X0_changesFrom F 28 (nI t) (nI s) k) (fun r => r.1 = nI (V t s) ∧ ChI (fun a _ => a = 29) k r.2)) : Wp (c_X0_sumOf F 28 (some a) h) (fun r => r.1 = nI (fb_sm (fun j => ctb V (w j) (mem D q j)) (pcn D q)) ∧ ChI (fun a _ => a = 29) h r.2) := by
  unfold c_X0_sumOf
  refine Wp.loop (L := fun m (u : Int32 × Int32 × z_Hp) => c_X0_sumOf_L4 F 28 (some a) m u.1 u.2.1 u.2.2) (N := pcn D q) (fun j u => u.1 = nI (fb_sm (fun j => ctb V (w j) (mem D q j)) j) ∧ u.2.1 = nI j ∧ ChI (fun a _ => a = 29) h u.2.2) (fun m j u hj hP ih => ?_) (fun m u hP => ?_) F (0, 0, h) (by omega) ⟨rfl, rfl, ChI.refl _ _⟩
  · obtain ⟨u1, u2, g⟩ := u
    obtain ⟨p1, p2, p3⟩ := hP
    dsimp only at p1 p2 p3 ⊢
    subst p1 p2
    have Ig := p3.fx I
    obtain ⟨m1, m2, m3⟩ := mem_ok hj
    have e30 : hI g 30 j = nI (mem D q j) := by have := r3 _ m1 m2; rw [m3] at this; exact (p3.1 30 j (by omega)).trans this
    have o30 : okA g 30 20 (nI j) = true := okA_n (fT30 Ig) (fN30 Ig) (by omega) (by decide)
    have ol : okL g a = true := okL_n ((p3.T a).trans ta) (by decide) (by decide)
    have oa : okA g a 20 (nI j) = true := okA_n ((p3.T a).trans ta) ((p3.N a).trans na) hj (by omega)
    have eg : hI g a j = w j := (p3.1 a j (by omega)).trans (ea j hj)
    have gj := G _ m1 m2
    rw [m3] at gj
    rw [c_X0_sumOf_L4, nI_1 j, ix_n (show j < 2147483648 by omega)]
    refine Wp.ifT (fT28 Ig) (Wp.ifF (by rw [p3.1 28 5 (by omega), e5]; exact nI_ge hj (by omega)) (Wp.rf rfl (Wp.ifT ol (Wp.ifF (by rw [p3.N, na]; exact nI_ge hj (by omega)) (Wp.ifT oa (Wp.lj (fun jA hjA => ?_)))))))
    rw [eg]
    have go : ∀ x g', ChI (fun a _ => a = 29) h g' → x = nI (fb_sm (fun j => ctb V (w j) (mem D q j)) (j + 1)) → Wp (jA x g') (fun r => r.1 = nI (fb_sm (fun j => ctb V (w j) (mem D q j)) (pcn D q)) ∧ ChI (fun a _ => a = 29) h r.2) := fun x g' hg hx => by
      rw [hjA]
      exact ih (x, nI (j + 1), g') ⟨hx, rfl, hg⟩
    by_cases c9 : w j = -9
    · refine Wp.ifT c9 (go _ g p3 ?_)
      rw [fb_sm_succ]
      unfold ctb
      rw [if_pos c9]; rfl
    · rcases gj with ⟨gj, _⟩ | ⟨t, t1, t2, t3, _⟩
      · exact absurd gj c9
      · refine Wp.ifF c9 (Wp.ifT oa (Wp.ifT (fT28 Ig) (Wp.ltO (Wp.rf (fR28_1 Ig) (Wp.ifT o30 (Wp.ifT (fT28 Ig) ?_))))))
        rw [e30, t3]
        refine Wp.cI ((hc g p3 t (mem D q j) t1 m1 t2 m2).mono (fun r d => ?_))
        obtain ⟨v, g'⟩ := r
        obtain ⟨d1, d2⟩ := d
        dsimp only at d1 d2 ⊢
        subst d1
        refine Wp.ltI (go _ g' ((p3.trans d2).mono (fun a i e => by rcases e with e | e <;> exact e)) ?_)
        rw [nI_add, fb_sm_succ]
        unfold ctb
        rw [if_neg c9, t3, ix_n (show t < 2147483648 by omega)]
  · obtain ⟨u1, u2, g⟩ := u
    obtain ⟨p1, p2, p3⟩ := hP
    dsimp only at p1 p2 p3 ⊢
    subst p1 p2
    have Ig := p3.fx I
    rw [c_X0_sumOf_L4]
    exact Wp.ifT (fT28 Ig) (Wp.ifT (by rw [p3.1 28 5 (by omega), e5]; exact nI_le (Nat.le_refl _) (by omega)) (Wp.ret ⟨rfl, p3⟩))
end Jdx
