section Fmm
variable {h : z_Hp} (F : Nat) (x1 x2 x3 x4 x5 : Int32)
def ChJ (h g : z_Hp) : Prop := (∀ a i, ¬ Am a i → hI g a i = hI h a i) ∧ (∀ a i, ¬ (a = 46 ∧ i = 3) → hJ g a i = hJ h a i) ∧ (∀ a i, hR g a i = hR h a i) ∧ (∀ a, hT g a = hT h a ∧ hN g a = hN h a) ∧ hZ g = hZ h ∧ hS g = hS h
theorem ChJ.refl (h : z_Hp) : ChJ h h := ⟨fun _ _ _ => rfl, fun _ _ _ => rfl, fun _ _ => rfl, fun _ => ⟨rfl, rfl⟩, rfl, rfl⟩
theorem ChJ.set {g : z_Hp} (c : ChJ h g) {x : Int64} : ChJ h (sJ g 46 3 x) := ⟨c.1, fun b j e => by rw [hJ_sJ, if_neg e]; exact c.2.1 b j e, c.2.2⟩
theorem ChJ.ch {g k : z_Hp} (c : ChJ h g) (d : ChI Am g k) : ChJ h k := ⟨fun a i e => (d.1 a i e).trans (c.1 a i e), fun a i e => (d.J a i).trans (c.2.1 a i e), fun a i => (d.R a i).trans (c.2.2.1 a i), fun a => ⟨(d.T a).trans (c.2.2.2.1 a).1, (d.N a).trans (c.2.2.2.1 a).2⟩, d.Z.1.trans c.2.2.2.2.1, d.Z.2.trans c.2.2.2.2.2⟩
theorem ChJ.st {g : z_Hp} (c : ChJ h g) (I : Ifx h) {ow : Ow} (o : OwOK ow) : St [54, 102, 107, 108] ow h g := by
  obtain ⟨c1, c2, c3, c4, c5, c6⟩ := c
  refine ⟨by omega, fun a ha => c4 a, fun a i ha hn => ⟨c1 a i (fun e => hn ?_), c2 a i (fun e => hn ?_), c3 a i⟩, fun a ha => by rw [(c4 a).1]; exact I.2.2.2 a (by omega)⟩
  · obtain ⟨w1, w2⟩ := e.ow
    rw [o a i w1]; exact List.mem_cons_of_mem _ w2
  · obtain ⟨rfl, rfl⟩ := e
    rw [o 46 3 (by decide)]; exact List.mem_cons_self
theorem ChJ.fx {g : z_Hp} (c : ChJ h g) (I : Ifx h) : Ifx g := I.st (ow := ow0) (fun _ _ _ => rfl) (c.st I (fun _ _ _ => rfl)) (by decide)
def ab (y : Nat → Nat) (t s : Nat) : Bool := decide (y t < y s ∨ (y t = y s ∧ t < s))
theorem ab_t {y : Nat → Nat} {t s : Nat} : ab y t s = true ↔ aq y t s := by unfold ab aq; rw [decide_eq_true_iff]
theorem m_cma (I : Ifx h) {q t s : Nat} {y : Nat → Nat} (hq : q ≤ 20) (hy : ∀ v, v < q → hI h 80 v = nI (y v) ∧ y v ≤ 1999) (ht : t < q) (hs : s < q) : c_X10_comesAhead F 46 (nI t) (nI s) h = some (if ab y t s = true then 1 else 0, h) := by
  have oT : okA h 80 20 (nI t) = true := okA_n (fT80 I) (fN80 I) (by omega) (by decide)
  have oS : okA h 80 20 (nI s) = true := okA_n (fT80 I) (fN80 I) (by omega) (by decide)
  obtain ⟨t1, t2⟩ := hy t ht
  obtain ⟨s1, s2⟩ := hy s hs
  have key : Wp (c_X10_comesAhead F 46 (nI t) (nI s) h) (fun r => r = (if ab y t s = true then 1 else 0, h)) := by
    unfold c_X10_comesAhead
    rw [ix_n (show t < 2147483648 by omega), ix_n (show s < 2147483648 by omega)]
    refine Wp.ifT (fT46 I) (Wp.ltO (Wp.rf (fR46_43 I) (Wp.ifT oT (Wp.ifT (fT46 I) (Wp.ltO (Wp.rf (fR46_43 I) (Wp.ifT oS ?_)))))))
    rw [t1, s1]
    by_cases c : y t < y s
    · exact Wp.ifT (nI_lt c (by omega)) (Wp.ret (by rw [ab_t.mpr (Or.inl c)]; rfl))
    · refine Wp.ifF (by rw [fa_lt, toI_n (by omega), toI_n (by omega)]; omega) (Wp.ifT (fT46 I) (Wp.ltO (Wp.rf (fR46_43 I) (Wp.ifT oT (Wp.ifT (fT46 I) (Wp.ltO (Wp.rf (fR46_43 I) (Wp.ifT oS ?_))))))))
      rw [t1, s1]
      by_cases e : y t = y s
      · refine Wp.ifT (by rw [e]) ?_
        by_cases l : t < s
        · exact Wp.ifF (nI_ge l (by omega)) (Wp.ret (by rw [ab_t.mpr (Or.inr ⟨e, l⟩)]; rfl))
        · exact Wp.ifT (nI_le (by omega) (by omega)) (Wp.ret (by rw [if_neg (fun z => by have := ab_t.mp z; unfold aq at this; omega)]))
      · exact Wp.ifF (fun z => e ((nI_eq (by omega) (by omega)).mp z)) (Wp.ret (by rw [if_neg (fun z => by have := ab_t.mp z; unfold aq at this; omega)]))
  obtain ⟨r, e1, e2⟩ := key
  rw [e1, e2]
/-- the least as the reference keeps it -/
def lr (l : Nat × Nat) : Int32 := if l.2 = 0 then -9 else nI l.1
theorem m_fL66 (I : Ifx h) (hF : 5000 ≤ F) {q s D : Nat} {y : Nat → Nat} {V : Nat → Nat → Nat} (hq : q ≤ 20) (h2 : hI h 46 26 = nI q) (hs : s < q) (hD : D < 1048576) (hm : D.testBit s = true) (hy : ∀ v, v < q → hI h 80 v = nI (y v) ∧ y v ≤ 1999) {sg : Nat → Nat} (h67 : ∀ v, v < q → hI h 67 v = nI (sg v)) (hV : ∀ t s, V t s ≤ 120) (hc : ∀ k, ChI Am h k → ∀ t, t < q → D.testBit t = true → Wp (c_X10_changesOf F 46 (nI (sg t)) (nI (sg s)) k) (fun r => r.1 = nI (V t s) ∧ ChI Am k r.2)) (x : Int32) (K : Int32 → Int32 → z_Hp → Option (Int32 × z_Hp)) {P : Int32 × z_Hp → Prop} (k : ∀ g, ChI Am h g → Wp (K (lr (lc (fun t => V t s) (fun t => D.testBit t && ab y t s) q)) (nI (lc (fun t => V t s) (fun t => D.testBit t && ab y t s) q).2) g) P) : Wp (c_X10_family_L66 F 46 (nI D) x (nI s) K F (-9) 0 0 h) P := by
  refine Wp.loop (L := fun m (u : Int32 × Int32 × Int32 × z_Hp) => c_X10_family_L66 F 46 (nI D) x (nI s) K m u.1 u.2.1 u.2.2.1 u.2.2.2) (N := q) (fun t u => u.1 = lr (lc (fun t => V t s) (fun t => D.testBit t && ab y t s) t) ∧ u.2.1 = nI (lc (fun t => V t s) (fun t => D.testBit t && ab y t s) t).2 ∧ u.2.2.1 = nI t ∧ ChI Am h u.2.2.2) (fun m t u ht hP ih => ?_) (fun m u hP => ?_) F (-9, 0, 0, h) (by omega) ⟨rfl, rfl, rfl, ChI.refl _ _⟩
  · obtain ⟨u1, u2, u3, g⟩ := u
    obtain ⟨e1, e2, e3, e4⟩ := hP
    dsimp only at e1 e2 e3 e4 ⊢
    subst e1 e2 e3
    have Ig := e4.fx I
    have n26 : ∀ i, ¬ Am 67 i ∧ ¬ Am 80 i := fun i => ⟨by unfold Am; omega, by unfold Am; omega⟩
    have oT : okA g 67 20 (nI t) = true := okA_n (fT67 Ig) (fN67 Ig) (by omega) (by decide)
    have oS : okA g 67 20 (nI s) = true := okA_n (fT67 Ig) (fN67 Ig) (by omega) (by decide)
    have E : lc (fun t => V t s) (fun t => D.testBit t && ab y t s) (t + 1) = if (D.testBit t && ab y t s) = true then (if (lc (fun t => V t s) (fun t => D.testBit t && ab y t s) t).2 = 0 ∨ V t s < (lc (fun t => V t s) (fun t => D.testBit t && ab y t s) t).1 then (V t s, 1) else if V t s = (lc (fun t => V t s) (fun t => D.testBit t && ab y t s) t).1 then ((lc (fun t => V t s) (fun t => D.testBit t && ab y t s) t).1, (lc (fun t => V t s) (fun t => D.testBit t && ab y t s) t).2 + 1) else lc (fun t => V t s) (fun t => D.testBit t && ab y t s) t) else lc (fun t => V t s) (fun t => D.testBit t && ab y t s) t := rfl
    obtain ⟨l1, l2⟩ := lc_bd (v := fun t => V t s) (p := fun t => D.testBit t && ab y t s) (n := t) (B := 120) (fun k _ => hV _ _)
    have vj := hV t s
    rw [c_X10_family_L66, nI_1 t, nI_1 (lc (fun t => V t s) (fun t => D.testBit t && ab y t s) t).2, ix_n (show t < 2147483648 by omega), ix_n (show s < 2147483648 by omega)]
    refine Wp.ifT (fT46 Ig) (Wp.ifF (by rw [e4.1 46 26 (by unfold Am; omega), h2]; exact nI_ge ht (by omega)) (Wp.cIe (m_has F (by omega) (by omega)) (Wp.ifF (by rw [if_pos hm]; exact one0) (Wp.cIe (m_has F (by omega) (by omega)) (Wp.lj (fun jA hjA => ?_))))))
    have go : ∀ x y' g', ChI Am h g' → x = lr (lc (fun t => V t s) (fun t => D.testBit t && ab y t s) (t + 1)) → y' = nI (lc (fun t => V t s) (fun t => D.testBit t && ab y t s) (t + 1)).2 → Wp (jA x y' g') P := fun x y' g' hg hx hy' => by
      rw [hjA]
      exact ih (x, y', nI (t + 1), g') ⟨hx, hy', rfl, hg⟩
    generalize hl : lc (fun t => V t s) (fun t => D.testBit t && ab y t s) t = l at *
    have no : ¬ (D.testBit t && ab y t s) = true → Wp (jA (lr l) (nI l.2) g) P := fun c => by
      rw [if_neg c] at E
      exact go _ _ g e4 (by rw [E]) (by rw [E])
    by_cases cm : D.testBit t = true
    · refine Wp.ifF (by rw [if_pos cm]; exact one0) ?_
      by_cases ts : t = s
      · exact Wp.ifT (by rw [ts]) (no (fun z => by rw [Bool.and_eq_true, ab_t, ts] at z; have := z.2; unfold aq at this; omega))
      · refine Wp.ifF (fun z => ts ((nI_eq (by omega) (by omega)).mp z)) (Wp.ifT (fT46 Ig) (Wp.cIe (m_cma F Ig hq (fun v hv => by rw [e4.1 80 v (n26 v).2]; exact hy v hv) ht hs) ?_))
        by_cases ca : ab y t s = true
        · rw [if_pos (by rw [cm, ca]; rfl)] at E
          refine Wp.ifF (by rw [if_pos ca]; exact one0) (Wp.ifT (fT46 Ig) (Wp.ltO (Wp.rf (fR46_29 Ig) (Wp.ifT oT (Wp.ifT (fT46 Ig) (Wp.ltO (Wp.rf (fR46_29 Ig) (Wp.ifT oS (Wp.ifT (fT46 Ig) ?_)))))))))
          rw [e4.1 67 t (n26 t).1, e4.1 67 s (n26 s).1, h67 t ht, h67 s hs]
          refine Wp.cI ((hc g e4 t ht cm).mono (fun r d => ?_))
          obtain ⟨r1, g'⟩ := r
          obtain ⟨d1, d2⟩ := d
          dsimp only at d1 d2 ⊢
          subst d1
          have e5 : ChI Am h g' := (e4.trans d2).mono (fun a i e => by rcases e with e | e <;> exact e)
          refine Wp.lj (fun jB hjB => Wp.lj (fun jC hjC => ?_))
          have put : ∀ c, (c = nI (lc (fun t => V t s) (fun t => D.testBit t && ab y t s) (t + 1)).2) → Wp (jB c g') P := fun c hc' => by
            rw [hjB]
            refine Wp.lj (fun jD hjD => Wp.lj (fun jE hjE => ?_))
            have gD : ∀ x, x = lr (lc (fun t => V t s) (fun t => D.testBit t && ab y t s) (t + 1)) → Wp (jD x g') P := fun x hx => by
              rw [hjD]; exact go x c g' e5 hx hc'
            by_cases c0 : l.2 = 0
            · refine Wp.ifT (by unfold lr; rw [if_pos c0]; exact neg9) ?_
              rw [hjE]
              exact gD _ (by rw [E, if_pos (Or.inl c0)]; rfl)
            · have el : lr l = nI l.1 := if_neg c0
              refine Wp.ifF (by rw [el]; exact pnI (by omega)) ?_
              by_cases c1 : V t s < l.1
              · refine Wp.ifF (by rw [el]; exact nI_ge c1 (by omega)) ?_
                rw [hjE]
                exact gD _ (by rw [E, if_pos (Or.inr c1)]; rfl)
              · refine Wp.ifT (by rw [el]; exact nI_le (by omega) (by omega)) (gD _ ?_)
                rw [E, if_neg (by omega)]
                by_cases c2 : V t s = l.1
                · rw [if_pos c2, el]; rfl
                · rw [if_neg c2]
          by_cases c0 : l.2 = 0
          · refine Wp.ifT (by unfold lr; rw [if_pos c0]; exact neg9) ?_
            rw [hjC]
            exact put 1 (by rw [E, if_pos (Or.inl c0)]; rfl)
          · have el : lr l = nI l.1 := if_neg c0
            refine Wp.ifF (by rw [el]; exact pnI (by omega)) ?_
            by_cases c1 : V t s < l.1
            · refine Wp.ifF (by rw [el]; exact nI_ge c1 (by omega)) ?_
              rw [hjC]
              exact put 1 (by rw [E, if_pos (Or.inr c1)]; rfl)
            · refine Wp.ifT (by rw [el]; exact nI_le (by omega) (by omega)) ?_
              by_cases c2 : V t s = l.1
              · exact Wp.ifT (by rw [el, c2]) (put _ (by rw [E, if_neg (by omega), if_pos c2]))
              · exact Wp.ifF (by rw [el]; exact fun z => c2 ((nI_eq (by omega) (by omega)).mp z)) (put _ (by rw [E, if_neg (by omega), if_neg c2]))
        · exact Wp.ifT (by rw [if_neg ca]) (no (fun z => ca (by rw [Bool.and_eq_true] at z; exact z.2)))
    · exact Wp.ifT (by rw [if_neg cm]) (no (fun z => cm (by rw [Bool.and_eq_true] at z; exact z.1)))
  · obtain ⟨u1, u2, u3, g⟩ := u
    obtain ⟨e1, e2, e3, e4⟩ := hP
    dsimp only at e1 e2 e3 e4 ⊢
    subst e1 e2 e3
    have Ig := e4.fx I
    rw [c_X10_family_L66]
    exact Wp.ifT (fT46 Ig) (Wp.ifT (by rw [e4.1 46 26 (by unfold Am; omega), h2]; exact nI_le (Nat.le_refl _) (by omega)) (k g e4))
end Fmm
