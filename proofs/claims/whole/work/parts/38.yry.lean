section Yry
variable {h : z_Hp} (F : Nat) (x1 x2 x3 x4 x5 : Int32)
def A8 (a _i : Nat) : Prop := a = 80 ∨ a = 81
theorem A8.ow {a i : Nat} (e : A8 a i) : a < 94 ∧ ow0 a i ∈ [106] := by
  rcases e with rfl | rfl
  · exact ⟨by decide, List.mem_cons_self⟩
  · exact ⟨by decide, List.mem_cons_self⟩
theorem A8.sc {a i : Nat} (e : A8 a i) : ¬ (50 ≤ ow0 a i ∧ ow0 a i < 100) := by
  have := e.ow.2
  rw [List.mem_singleton] at this
  omega
/-- what the reference knows of a sheet's printer and span -/
def Ref (h : z_Hp) (q : Nat) : Prop := ∀ s, s < q → ((mm h 66 s = -9 ∨ ∃ p, p < 8 ∧ hI h 66 s = nI p ∧ hI h 63 p = -9) ∨ ∃ p fa tb, p < 8 ∧ hI h 66 s = nI p ∧ 1500 ≤ fa ∧ fa ≤ tb ∧ tb ≤ 1899 ∧ hI h 63 p = nI fa ∧ hI h 64 p = nI tb) ∧ yrs (hI h 72 s) (hI h 73 s)
theorem Sh.ref {ow : Ow} {q : Nat} (S : Sh ow h q) (R : Rprn h) : Ref h q := fun s hs => by
  obtain ⟨a, _, w⟩ := S s hs
  obtain ⟨a1, a2, a3, b0, b1, b2, b3, b5, b6, b7, b8, b9, b10, _, r1, r2, r3, r4, r5, r6, r7, r8, r9⟩ := w
  refine ⟨?_, r8⟩
  rcases r2 with e | ⟨p, hp, e⟩
  · exact Or.inl (Or.inl e)
  · rcases (R p hp).2.2 with ⟨e1, e2⟩ | ⟨fa, tb, l1, l2, l3, e1, e2⟩
    · exact Or.inl (Or.inr ⟨p, hp, e, e1⟩)
    · exact Or.inr ⟨p, fa, tb, hp, e, l1, l2, l3, e1, e2⟩
theorem Ref.st {fs : List Nat} {ow : Ow} {g : z_Hp} {q : Nat} (R : Ref h q) (hq : q ≤ 20) (I : Ifx h) (o : OwOK ow) (s : St fs ow h g) (n65 : 65 ∉ fs) (n66 : 66 ∉ fs) : Ref g q := fun v hv => by
  have e66 : hI g 66 v = hI h 66 v := (s.fam I o n66 66 v (by omega) rfl).1
  have m66 : mm g 66 v = mm h 66 v := e66
  have e63 : ∀ p, hI g 63 p = hI h 63 p := fun p => (s.fam I o n65 63 p (by omega) rfl).1
  have e64 : ∀ p, hI g 64 p = hI h 64 p := fun p => (s.fam I o n65 64 p (by omega) rfl).1
  have e72 : hI g 72 v = hI h 72 v := (s.fam I o n66 72 v (by omega) rfl).1
  have e73 : hI g 73 v = hI h 73 v := (s.fam I o n66 73 v (by omega) rfl).1
  have := R v hv
  rw [← m66, ← e72, ← e73, ← e66] at this
  simp only [← e63, ← e64] at this
  exact this
theorem y0_no {M : Nat → Nat → Int32} {w : Nat → Bool} {s : Nat} (c : ¬ (sp M s && !w s) = true) : y0 M w s = yL M s := if_neg c
theorem y0_yes {M : Nat → Nat → Int32} {w : Nat → Bool} {s : Nat} (c : (sp M s && !w s) = true) : y0 M w s = max (yL M s) (ix (M 72 s)) := if_pos c
theorem y1_no {M : Nat → Nat → Int32} {sl : Nat} {w : Nat → Bool} {s : Nat} (c : ¬ (sp M s && !w s) = true) : y1 M sl w s = yU M sl s := if_neg c
theorem y1_yes {M : Nat → Nat → Int32} {sl : Nat} {w : Nat → Bool} {s : Nat} (c : (sp M s && !w s) = true) : y1 M sl w s = max (yU M sl s) (1999 - ix (M 73 s)) := if_pos c
theorem neg9 : (-9 : Int32) < 0 := by decide
theorem m_yL8 (I : Ifx h) (hF : 5000 ≤ F) {q sl W : Nat} (hq : q ≤ 20) (h2 : hI h 46 26 = nI q) (R : Ref h q) (hsl : sl ≤ 999) (hW : W < 1048576) (K : z_Hp → Option (Int32 × z_Hp)) {P : Int32 × z_Hp → Prop} (k : ∀ h', ChI A8 h h' → Yv 80 81 h' q (y0 (mm h) (fun s => W.testBit s)) (y1 (mm h) sl (fun s => W.testBit s)) → Wp (K h') P) : Wp (c_X10_setYears_L8 F 46 (nI W) (nI sl) K F 0 h) P := by
  refine Wp.loop (L := fun m (u : Int32 × z_Hp) => c_X10_setYears_L8 F 46 (nI W) (nI sl) K m u.1 u.2) (N := q) (fun t u => u.1 = nI t ∧ ChI A8 h u.2 ∧ Yv 80 81 u.2 t (y0 (mm h) (fun s => W.testBit s)) (y1 (mm h) sl (fun s => W.testBit s))) (fun m t u ht hP ih => ?_) (fun m u hP => ?_) F (nI 0, h) (by omega) ⟨rfl, ChI.refl _ _, fun v hv => by omega⟩
  · obtain ⟨u1, g⟩ := u
    obtain ⟨e1, e2, e3⟩ := hP
    dsimp only at e1 e2 e3 ⊢
    subst e1
    have Ig := e2.fx I
    have fx : ∀ g', ChI A8 h g' → ∀ a i, a ≠ 80 → a ≠ 81 → hI g' a i = hI h a i := fun g' d a i n1 n2 => d.1 a i (by unfold A8; omega)
    have f1 : hI g 46 26 = nI q := (fx g e2 46 26 (by decide) (by decide)).trans h2
    obtain ⟨cP, cS⟩ := R t ht
    have c10 : ChI A8 h (sI (sI g 80 t 1500) 81 t 1999) := (e2.set (Or.inl rfl)).set (Or.inr rfl)
    have t20 : t < 20 := by omega
    rw [c_X10_setYears_L8, nI_1, ix_n (show t < 2147483648 by omega)]
    refine Wp.ifT (fT46 Ig) (Wp.ifF (by rw [f1]; exact nI_ge ht (by omega)) (Wp.ifT (fT46 Ig) (Wp.ltO (Wp.rf (fR46_43 Ig) (Wp.ifT (okA_n (fT80 Ig) (fN80 Ig) t20 (by decide)) (Wp.ltH (Wp.ifT (fT46 Ig) (Wp.ltO (Wp.rf (fR46_44 Ig) (Wp.ifT (okA_n (fT81 Ig) (fN81 Ig) t20 (by decide)) (Wp.ltH (Wp.ifT (fT46 Ig) (Wp.ltO (Wp.rf (fR46_28 Ig) (Wp.ifT (okA_n (fT66 Ig) (fN66 Ig) t20 (by decide)) (Wp.ltI (Wp.lj (fun j hj => ?_))))))))))))))))))
    rw [fx _ c10 66 t (by decide) (by decide)]
    have go : ∀ g' A B, ChI A8 h g' → (∀ v, v ≠ t → hI g' 80 v = hI g 80 v ∧ hI g' 81 v = hI g 81 v) → hI g' 80 t = nI A → hI g' 81 t = nI (1999 - B) → A ≤ 1999 → B ≤ 1999 → A = yL (mm h) t → B = yU (mm h) sl t → Wp (j g') P := by
      intro g' A B d dv e26 e27 hA hB eA eB
      have I' := d.fx I
      have fin : ∀ g2, ChI A8 h g2 → (∀ v, v ≠ t → hI g2 80 v = hI g 80 v ∧ hI g2 81 v = hI g 81 v) → hI g2 80 t = nI (y0 (mm h) (fun s => W.testBit s) t) → hI g2 81 t = nI (1999 - y1 (mm h) sl (fun s => W.testBit s) t) → y0 (mm h) (fun s => W.testBit s) t ≤ 1999 → y1 (mm h) sl (fun s => W.testBit s) t ≤ 1999 → Wp (c_X10_setYears_L8 F 46 (nI W) (nI sl) K m (nI (t + 1)) g2) P := by
        intro g2 q1 q2 q3 q4 q5 q6
        refine ih (nI (t + 1), g2) ⟨rfl, q1, fun v hv => ?_⟩
        by_cases e : v = t
        · subst e; exact ⟨q3, q4, q5, q6⟩
        · show hI g2 80 v = _ ∧ hI g2 81 v = _ ∧ _
          rw [(q2 v e).1, (q2 v e).2]; exact e3 v (by omega)
      have D0 : sp (mm h) t = decide (¬ hI h 72 t = -9) := rfl
      rw [hj]
      dsimp only
      refine Wp.ifT (fT46 I') (Wp.ltO (Wp.rf (fR46_34 I') (Wp.ifT (okA_n (fT72 I') (fN72 I') t20 (by decide)) (Wp.lj (fun j2 hj2 => ?_)))))
      rw [fx g' d 72 t (by decide) (by decide)]
      have f2 : ∀ g2, j2 g2 = c_X10_setYears_L8 F 46 (nI W) (nI sl) K m (nI (t + 1)) g2 := fun g2 => by rw [hj2]; rfl
      rcases cS with ⟨c1, c2⟩ | ⟨fa', tb, l1, l2, l3, c1, c2⟩
      · refine Wp.ifT (by rw [c1]; exact neg9) ?_
        rw [f2]
        have z0 : y0 (mm h) (fun s => W.testBit s) t = A := by unfold y0; dsimp only; rw [D0, decide_eq_false (fun y => y c1), Bool.false_and, if_neg (by decide), eA]
        have z1 : y1 (mm h) sl (fun s => W.testBit s) t = B := by unfold y1; dsimp only; rw [D0, decide_eq_false (fun y => y c1), Bool.false_and, if_neg (by decide), eB]
        exact fin g' d dv (by rw [z0]; exact e26) (by rw [z1]; exact e27) (by omega) (by omega)
      · have n9 : ¬ hI h 72 t = -9 := by rw [c1]; exact enc9 (by omega)
        have e72 : mm h 72 t = nI fa' := c1
        have e73 : mm h 73 t = nI tb := c2
        refine Wp.ifF (by rw [c1]; exact pnI (by omega)) (Wp.cIe (m_has F (by omega) (by omega)) ?_)
        by_cases cw : W.testBit t = true
        · refine Wp.ifF (by rw [if_pos cw]; exact one0) ?_
          rw [f2]
          have z0 : y0 (mm h) (fun s => W.testBit s) t = A := by rw [y0_no (by rw [cw, Bool.not_true, Bool.and_false]; decide), eA]
          have z1 : y1 (mm h) sl (fun s => W.testBit s) t = B := by rw [y1_no (by rw [cw, Bool.not_true, Bool.and_false]; decide), eB]
          exact fin g' d dv (by rw [z0]; exact e26) (by rw [z1]; exact e27) (by omega) (by omega)
        · have cf : W.testBit t = false := by cases x : W.testBit t with | true => exact absurd x cw | false => rfl
          have z0 : y0 (mm h) (fun s => W.testBit s) t = max A fa' := by rw [y0_yes (by rw [D0, decide_eq_true n9, cf]; rfl), e72, ix_n (by omega), eA]
          have z1 : y1 (mm h) sl (fun s => W.testBit s) t = max B (1999 - tb) := by rw [y1_yes (by rw [D0, decide_eq_true n9, cf]; rfl), e73, ix_n (by omega), eB]
          have f72 : ∀ g2, ChI A8 h g2 → hI g2 72 t = nI fa' := fun g2 q => (fx g2 q 72 t (by decide) (by decide)).trans c1
          have f73 : ∀ g2, ChI A8 h g2 → hI g2 73 t = nI tb := fun g2 q => (fx g2 q 73 t (by decide) (by decide)).trans c2
          have o80 : okA g' 80 20 (nI t) = true := okA_n (fT80 I') (fN80 I') t20 (by decide)
          have o72 : okA g' 72 20 (nI t) = true := okA_n (fT72 I') (fN72 I') t20 (by decide)
          refine Wp.ifT (by rw [if_neg cw]) (Wp.ifT (fT46 I') (Wp.ltO (Wp.ifT (fT46 I') (Wp.ltO (Wp.rf (fR46_34 I') (Wp.ifT o72 (Wp.ifT (fT46 I') (Wp.ltO (Wp.rf (fR46_43 I') (Wp.ifT o80 (Wp.lj (fun j3 hj3 => ?_))))))))))))
          rw [f72 g' d, e26]
          have f3 : Wp (j3 (nI (max A fa')) g') P := by
            rw [hj3]
            dsimp only
            have d3 : ChI A8 h (sI g' 80 t (nI (max A fa'))) := d.set (Or.inl rfl)
            have I3 := d3.fx I
            have o81 : okA (sI g' 80 t (nI (max A fa'))) 81 20 (nI t) = true := okA_n (fT81 I3) (fN81 I3) t20 (by decide)
            have o73 : okA (sI g' 80 t (nI (max A fa'))) 73 20 (nI t) = true := okA_n (fT73 I3) (fN73 I3) t20 (by decide)
            refine Wp.rf (fR46_43 I') (Wp.ifT o80 (Wp.ltH (Wp.ifT (fT46 I3) (Wp.ltO (Wp.ifT (fT46 I3) (Wp.ltO (Wp.rf (fR46_35 I3) (Wp.ifT o73 (Wp.ifT (fT46 I3) (Wp.ltO (Wp.rf (fR46_44 I3) (Wp.ifT o81 (Wp.lj (fun j4 hj4 => ?_))))))))))))))
            have e81 : hI (sI g' 80 t (nI (max A fa'))) 81 t = nI (1999 - B) := by rw [hI_sI, if_neg (by omega)]; exact e27
            rw [f73 _ d3, e81]
            have f4 : Wp (j4 (nI (1999 - max B (1999 - tb))) (sI g' 80 t (nI (max A fa')))) P := by
              rw [hj4]
              dsimp only
              refine Wp.rf (fR46_44 I3) (Wp.ifT o81 (Wp.ltH ?_))
              rw [f2]
              refine fin _ (d3.set (Or.inr rfl)) (fun v hv => ?_) ?_ ?_ (by rw [z0]; exact Nat.max_le.mpr ⟨hA, by omega⟩) (by rw [z1]; exact Nat.max_le.mpr ⟨hB, by omega⟩)
              · rw [hI_sI, if_neg (by omega), hI_sI, if_neg (by omega), hI_sI, if_neg (by omega), hI_sI, if_neg (by omega)]; exact dv v hv
              · rw [hI_sI, if_neg (by omega), hI_sI, if_pos ⟨rfl, rfl⟩, z0]
              · rw [hI_sI, if_pos ⟨rfl, rfl⟩, z1]
            have v4 : (if nI (1999 - B) ≤ nI tb then nI (1999 - B) else nI tb) = nI (1999 - max B (1999 - tb)) := by
              have := y_c5 (a := B) (b := 1999 - tb) hB (by omega)
              rw [show 1999 - (1999 - tb) = tb by omega] at this
              exact this
            rw [← v4] at f4
            refine Wp.cs (fun c => ?_) (fun c => ?_)
            · rw [if_pos c] at f4
              refine Wp.ifT (fT46 I3) (Wp.ltO (Wp.rf (fR46_44 I3) (Wp.ifT o81 ?_)))
              rw [e81]; exact f4
            · rw [if_neg c] at f4
              refine Wp.ifT (fT46 I3) (Wp.ltO (Wp.rf (fR46_35 I3) (Wp.ifT o73 ?_)))
              rw [f73 _ d3]; exact f4
          rw [← y_c4 (a := fa') (b := A) (by omega) hA] at f3
          refine Wp.cs (fun c => ?_) (fun c => ?_)
          · rw [if_pos c] at f3
            refine Wp.ifT (fT46 I') (Wp.ltO (Wp.rf (fR46_43 I') (Wp.ifT o80 ?_)))
            rw [e26]; exact f3
          · rw [if_neg c] at f3
            refine Wp.ifT (fT46 I') (Wp.ltO (Wp.rf (fR46_34 I') (Wp.ifT o72 ?_)))
            rw [f72 g' d]; exact f3
    have d10 : ∀ v, v ≠ t → hI (sI (sI g 80 t 1500) 81 t 1999) 80 v = hI g 80 v ∧ hI (sI (sI g 80 t 1500) 81 t 1999) 81 v = hI g 81 v := fun v hv => by
      rw [hI_sI, if_neg (by omega), hI_sI, if_neg (by omega), hI_sI, if_neg (by omega), hI_sI, if_neg (by omega)]; exact ⟨rfl, rfl⟩
    rcases cP with c | ⟨p, fa', tb, hp, e, l1, l2, l3, p1, p2⟩
    · have cc : mm h 66 t = -9 ∨ mm h 63 (ix (mm h 66 t)) = -9 := by
        rcases c with c | ⟨p, hp, e, e1⟩
        · exact Or.inl c
        · right
          have : mm h 66 t = nI p := e
          rw [this, ix_n (by omega)]; exact e1
      have q1 : yL (mm h) t = 1500 := if_pos cc
      have q2 : yU (mm h) sl t = 0 := if_pos cc
      have fin := go _ 1500 0 c10 d10 (by rw [hI_sI, if_neg (by omega), hI_sI, if_pos ⟨rfl, rfl⟩]; rfl) (by rw [hI_sI, if_pos ⟨rfl, rfl⟩]; rfl) (by decide) (by decide) q1.symm q2.symm
      rcases c with c | ⟨p, hp, e, e1⟩
      · have c' : hI h 66 t = -9 := c
        exact Wp.ifT (by rw [c']; exact neg9) fin
      · rw [e, ix_n (show p < 2147483648 by omega)]
        refine Wp.ifF (pnI (by omega)) (Wp.ifT (fT46 Ig) (Wp.ltO (Wp.rf (fR46_24 Ig) (Wp.ifT (okA_n (fT63 Ig) (fN63 Ig) hp (by decide)) (Wp.ifT ?_ fin)))))
        rw [fx _ c10 63 p (by decide) (by decide), e1]; exact neg9
    · have e66 : mm h 66 t = nI p := e
      have e63 : mm h 63 p = nI fa' := p1
      have e64 : mm h 64 p = nI tb := p2
      have n : ¬ (mm h 66 t = -9 ∨ mm h 63 (ix (mm h 66 t)) = -9) := by
        intro x
        rw [e66, ix_n (by omega), e63] at x
        rcases x with x | x
        · exact enc9 (by omega) x
        · exact enc9 (by omega) x
      have q1 : yL (mm h) t = fa' := by unfold yL; rw [if_neg n, e66, ix_n (by omega), e63, ix_n (by omega)]
      have q2 : yU (mm h) sl t = 1999 - (tb + sl) := by unfold yU; rw [if_neg n, e66, ix_n (by omega), e64, ix_n (by omega)]
      have f63 : hI (sI (sI g 80 t 1500) 81 t 1999) 63 p = nI fa' := (fx _ c10 63 p (by decide) (by decide)).trans p1
      rw [e, ix_n (show p < 2147483648 by omega)]
      have o63 : okA g 63 20 (nI p) = true := okA_n (fT63 Ig) (fN63 Ig) hp (by decide)
      have o64 : okA g 64 20 (nI p) = true := okA_n (fT64 Ig) (fN64 Ig) hp (by decide)
      refine Wp.ifF (pnI (by omega)) (Wp.ifT (fT46 Ig) (Wp.ltO (Wp.rf (fR46_24 Ig) (Wp.ifT o63 (Wp.ifF (by rw [f63]; exact pnI (by omega)) (Wp.ifT (fT46 Ig) (Wp.ltO (Wp.ifT (fT46 Ig) (Wp.ltO (Wp.rf (fR46_24 Ig) (Wp.ifT o63 (Wp.rf (fR46_43 Ig) (Wp.ifT (okA_n (fT80 Ig) (fN80 Ig) t20 (by decide)) (Wp.ltH ?_))))))))))))))
      rw [f63]
      have d3 : ChI A8 h (sI (sI (sI g 80 t 1500) 81 t 1999) 80 t (nI fa')) := c10.set (Or.inl rfl)
      have I3 := d3.fx I
      have o81 : okA (sI (sI (sI g 80 t 1500) 81 t 1999) 80 t (nI fa')) 81 20 (nI t) = true := okA_n (fT81 I3) (fN81 I3) t20 (by decide)
      have f64 : hI (sI (sI (sI g 80 t 1500) 81 t 1999) 80 t (nI fa')) 64 p = nI tb := (fx _ d3 64 p (by decide) (by decide)).trans p2
      refine Wp.ifT (fT46 I3) (Wp.ltO (Wp.ifT (fT46 I3) (Wp.ltO (Wp.rf (fR46_25 I3) (Wp.ifT o64 (Wp.lj (fun j5 hj5 => ?_)))))))
      rw [f64, nI_add]
      have f5 : ∀ x, x = nI (1999 - (1999 - (tb + sl))) → Wp (j5 x (sI (sI (sI g 80 t 1500) 81 t 1999) 80 t (nI fa'))) P := by
        intro x hx
        subst hx
        rw [hj5]
        dsimp only
        refine Wp.rf (fR46_44 I3) (Wp.ifT o81 (Wp.ltH ?_))
        refine go _ fa' (1999 - (tb + sl)) (d3.set (Or.inr rfl)) (fun v hv => ?_) ?_ ?_ (by omega) (by omega) q1.symm q2.symm
        · have w1 : ∀ X Y b, hI (sI (sI (sI (sI g 80 t 1500) 81 t 1999) 80 t X) 81 t Y) b v = hI (sI (sI g 80 t 1500) 81 t 1999) b v := fun X Y b => by rw [hI_sI, if_neg (by omega), hI_sI, if_neg (by omega)]
          rw [w1, w1]; exact d10 v hv
        · rw [hI_sI, if_neg (by omega), hI_sI, if_pos ⟨rfl, rfl⟩]
        · rw [hI_sI, if_pos ⟨rfl, rfl⟩]
      by_cases c : 1999 ≤ tb + sl
      · exact Wp.ifT (nI_le (a := 1999) c (by omega)) (f5 _ (by rw [show 1999 - (1999 - (tb + sl)) = 1999 by omega]; rfl))
      · exact Wp.ifF (nI_ge (b := 1999) (by omega) (by omega)) (Wp.ifT (fT46 I3) (Wp.ltO (Wp.rf (fR46_25 I3) (Wp.ifT o64 (f5 _ (by rw [f64, nI_add]; congr 1; omega))))))
  · obtain ⟨u1, g⟩ := u
    obtain ⟨e1, e2, e3⟩ := hP
    dsimp only at e1 e2 e3 ⊢
    subst e1
    have Ig := e2.fx I
    have f1 : hI g 46 26 = nI q := (e2.1 46 26 (by unfold A8; omega)).trans h2
    rw [c_X10_setYears_L8]
    exact Wp.ifT (fT46 Ig) (Wp.ifT (by rw [f1]; exact nI_le (Nat.le_refl q) (by omega)) (k g e2 e3))
theorem m_yL226 (I : Ifx h) (hF : 5000 ≤ F) {q s : Nat} (hq : q ≤ 20) (h2 : hI h 46 26 = nI q) (hs : s < q) {f u : Nat → Nat} (Y : Yv 80 81 h q f u) (y : Int32) (K : z_Hp → Option (Int32 × z_Hp)) {P : Int32 × z_Hp → Prop} (k : ∀ h', ChI A8 h h' → Yv 80 81 h' q (rowp (ahd (mm h) s) (fun _ => s) (fun t => t) f q) (rowp (ahd (mm h) s) (fun t => t) (fun _ => s) u q) → Wp (K h') P) : Wp (c_X10_setYears_L226 F 46 y (nI s) K F 0 h) P := by
  refine Wp.loop (L := fun m (u : Int32 × z_Hp) => c_X10_setYears_L226 F 46 y (nI s) K m u.1 u.2) (N := q) (fun t v => v.1 = nI t ∧ ChI A8 h v.2 ∧ Yv 80 81 v.2 q (rowp (ahd (mm h) s) (fun _ => s) (fun t => t) f t) (rowp (ahd (mm h) s) (fun t => t) (fun _ => s) u t)) (fun m t v ht hP ih => ?_) (fun m v hP => ?_) F (nI 0, h) (by omega) ⟨rfl, ChI.refl _ _, Y⟩
  · obtain ⟨u1, g⟩ := v
    obtain ⟨e1, e2, e3⟩ := hP
    dsimp only at e1 e2 e3 ⊢
    subst e1
    have Ig := e2.fx I
    have mg : mm g = mm h := e2.mm (fun a i e => e.sc)
    have f1 : hI g 46 26 = nI q := (e2.1 46 26 (by unfold A8; omega)).trans h2
    have S1 : rowp (ahd (mm h) s) (fun _ => s) (fun t => t) f (t + 1) = rl (ahd (mm h) s t) s t (rowp (ahd (mm h) s) (fun _ => s) (fun t => t) f t) := rfl
    have S2 : rowp (ahd (mm h) s) (fun t => t) (fun _ => s) u (t + 1) = rl (ahd (mm h) s t) t s (rowp (ahd (mm h) s) (fun t => t) (fun _ => s) u t) := rfl
    generalize rowp (ahd (mm h) s) (fun _ => s) (fun t => t) f t = fz at e3 S1
    generalize rowp (ahd (mm h) s) (fun t => t) (fun _ => s) u t = uz at e3 S2
    have ys := e3 s hs
    have yt := e3 t ht
    have oS : okA g 80 20 (nI s) = true := okA_n (fT80 Ig) (fN80 Ig) (by omega) (by decide)
    have oT : okA g 80 20 (nI t) = true := okA_n (fT80 Ig) (fN80 Ig) (by omega) (by decide)
    rw [c_X10_setYears_L226, nI_1, ix_n (show s < 2147483648 by omega), ix_n (show t < 2147483648 by omega)]
    refine Wp.ifT (fT46 Ig) (Wp.ifF (by rw [f1]; exact nI_ge ht (by omega)) (Wp.ifT (fT46 Ig) (Wp.cIe (m_ahd F Ig (by omega) (by omega)) (Wp.lj (fun j hj => ?_)))))
    rw [mg]
    have go : ∀ g', ChI A8 h g' → Yv 80 81 g' q (rl (ahd (mm h) s t) s t fz) (rl (ahd (mm h) s t) t s uz) → Wp (j g') P := fun g' d1 d2 => by
      rw [hj]
      exact ih (nI (t + 1), g') ⟨rfl, d1, by rw [S1, S2]; exact d2⟩
    by_cases c : ahd (mm h) s t = true
    · refine Wp.ifF (by rw [if_pos c]; exact one0) (Wp.ifT (fT46 Ig) (Wp.ltO (Wp.ifT (fT46 Ig) (Wp.ltO (Wp.rf (fR46_43 Ig) (Wp.ifT oS (Wp.ifT (fT46 Ig) (Wp.ltO (Wp.rf (fR46_43 Ig) (Wp.ifT oT (Wp.lj (fun j3 hj3 => ?_))))))))))))
      rw [ys.1, yt.1]
      have f3 : Wp (j3 (nI (max (fz t) (fz s))) g) P := by
        rw [hj3]
        dsimp only
        have d3 : ChI A8 h (sI g 80 t (nI (max (fz t) (fz s)))) := e2.set (Or.inl rfl)
        have I3 := d3.fx I
        have pS : okA (sI g 80 t (nI (max (fz t) (fz s)))) 81 20 (nI s) = true := okA_n (fT81 I3) (fN81 I3) (by omega) (by decide)
        have pT : okA (sI g 80 t (nI (max (fz t) (fz s)))) 81 20 (nI t) = true := okA_n (fT81 I3) (fN81 I3) (by omega) (by decide)
        refine Wp.rf (fR46_43 Ig) (Wp.ifT oT (Wp.ltH (Wp.ifT (fT46 I3) (Wp.ltO (Wp.ifT (fT46 I3) (Wp.ltO (Wp.rf (fR46_44 I3) (Wp.ifT pT (Wp.ifT (fT46 I3) (Wp.ltO (Wp.rf (fR46_44 I3) (Wp.ifT pS (Wp.lj (fun j4 hj4 => ?_))))))))))))))
        have q1 : hI (sI g 80 t (nI (max (fz t) (fz s)))) 81 s = nI (1999 - uz s) := by rw [hI_sI, if_neg (by omega)]; exact ys.2.1
        have q2 : hI (sI g 80 t (nI (max (fz t) (fz s)))) 81 t = nI (1999 - uz t) := by rw [hI_sI, if_neg (by omega)]; exact yt.2.1
        rw [q1, q2]
        have f4 : Wp (j4 (nI (1999 - max (uz s) (uz t))) (sI g 80 t (nI (max (fz t) (fz s))))) P := by
          rw [hj4]
          dsimp only
          refine Wp.rf (fR46_44 I3) (Wp.ifT pS (Wp.ltH ?_))
          exact go _ (d3.set (Or.inr rfl)) (e3.step (by decide) hs ht c)
        rw [← y_c5 ys.2.2.2 yt.2.2.2] at f4
        refine Wp.cs (fun c => ?_) (fun c => ?_)
        · rw [if_pos c] at f4
          refine Wp.ifT (fT46 I3) (Wp.ltO (Wp.rf (fR46_44 I3) (Wp.ifT pS ?_)))
          rw [q1]; exact f4
        · rw [if_neg c] at f4
          refine Wp.ifT (fT46 I3) (Wp.ltO (Wp.rf (fR46_44 I3) (Wp.ifT pT ?_)))
          rw [q2]; exact f4
      rw [← y_c4 ys.2.2.1 yt.2.2.1] at f3
      refine Wp.cs (fun c => ?_) (fun c => ?_)
      · rw [if_pos c] at f3
        refine Wp.ifT (fT46 Ig) (Wp.ltO (Wp.rf (fR46_43 Ig) (Wp.ifT oT ?_)))
        rw [yt.1]; exact f3
      · rw [if_neg c] at f3
        refine Wp.ifT (fT46 Ig) (Wp.ltO (Wp.rf (fR46_43 Ig) (Wp.ifT oS ?_)))
        rw [ys.1]; exact f3
    · refine Wp.ifT (by rw [if_neg c]) (go _ e2 ?_)
      rw [rl_f c, rl_f c]; exact e3
  · obtain ⟨u1, g⟩ := v
    obtain ⟨e1, e2, e3⟩ := hP
    dsimp only at e1 e2 e3 ⊢
    subst e1
    have Ig := e2.fx I
    have f1 : hI g 46 26 = nI q := (e2.1 46 26 (by unfold A8; omega)).trans h2
    rw [c_X10_setYears_L226]
    exact Wp.ifT (fT46 Ig) (Wp.ifT (by rw [f1]; exact nI_le (Nat.le_refl q) (by omega)) (k g e2 e3))
theorem m_yL214 (I : Ifx h) (hF : 5000 ≤ F) {q : Nat} (hq : q ≤ 20) (h2 : hI h 46 26 = nI q) {f u : Nat → Nat} (Y : Yv 80 81 h q f u) (y : Int32) (K : z_Hp → Option (Int32 × z_Hp)) {P : Int32 × z_Hp → Prop} (k : ∀ h', ChI A8 h h' → Yv 80 81 h' q (pass (ahd (mm h)) (fun s _ => s) (fun _ t => t) q f q) (pass (ahd (mm h)) (fun _ t => t) (fun s _ => s) q u q) → Wp (K h') P) : Wp (c_X10_setYears_L214 F 46 y K F 0 h) P := by
  refine Wp.loop (L := fun m (u : Int32 × z_Hp) => c_X10_setYears_L214 F 46 y K m u.1 u.2) (N := q) (fun t v => v.1 = nI t ∧ ChI A8 h v.2 ∧ Yv 80 81 v.2 q (pass (ahd (mm h)) (fun s _ => s) (fun _ t => t) q f t) (pass (ahd (mm h)) (fun _ t => t) (fun s _ => s) q u t)) (fun m t v ht hP ih => ?_) (fun m v hP => ?_) F (nI 0, h) (by omega) ⟨rfl, ChI.refl _ _, Y⟩
  · obtain ⟨u1, g⟩ := v
    obtain ⟨e1, e2, e3⟩ := hP
    dsimp only at e1 e2 e3 ⊢
    subst e1
    have Ig := e2.fx I
    have mg : mm g = mm h := e2.mm (fun a i e => e.sc)
    have f1 : hI g 46 26 = nI q := (e2.1 46 26 (by unfold A8; omega)).trans h2
    rw [c_X10_setYears_L214, nI_1]
    refine Wp.ifT (fT46 Ig) (Wp.ifF (by rw [f1]; exact nI_ge ht (by omega)) ?_)
    refine m_yL226 F Ig hF hq f1 ht e3 y _ (fun g' d1 d2 => ?_)
    rw [mg] at d2
    exact ih (nI (t + 1), g') ⟨rfl, (e2.trans d1).mono (fun a i e => by rcases e with e | e <;> exact e), d2⟩
  · obtain ⟨u1, g⟩ := v
    obtain ⟨e1, e2, e3⟩ := hP
    dsimp only at e1 e2 e3 ⊢
    subst e1
    have Ig := e2.fx I
    have f1 : hI g 46 26 = nI q := (e2.1 46 26 (by unfold A8; omega)).trans h2
    rw [c_X10_setYears_L214]
    exact Wp.ifT (fT46 Ig) (Wp.ifT (by rw [f1]; exact nI_le (Nat.le_refl q) (by omega)) (k g e2 e3))
theorem m_yL351 (I : Ifx h) (hF : 5000 ≤ F) {q : Nat} (hq : q ≤ 20) (h2 : hI h 46 26 = nI q) {f u : Nat → Nat} (Y : Yv 80 81 h q f u) : Wp (c_X10_setYears_L351 F 46 F 1 0 h) (fun r => r.2 = h ∧ r.1 = if (decide (∀ v, v < q → f v + u v ≤ 1999)) = true then 1 else 0) := by
  refine Wp.loop (L := fun m (v : Int32 × Int32) => c_X10_setYears_L351 F 46 m v.1 v.2 h) (N := q) (fun t v => v.2 = nI t ∧ (v.1 = if (decide (∀ v, v < t → f v + u v ≤ 1999)) = true then 1 else 0)) (fun m t v ht hP ih => ?_) (fun m v hP => ?_) F (1, nI 0) (by omega) ⟨rfl, by rw [if_pos (decide_eq_true (fun v hv => by omega))]⟩
  · obtain ⟨v1, v2⟩ := v
    obtain ⟨e2, e1⟩ := hP
    dsimp only at e1 e2 ⊢
    subst e2
    obtain ⟨y1, y2, y3, y4⟩ := Y t ht
    rw [c_X10_setYears_L351, nI_1, ix_n (show t < 2147483648 by omega)]
    refine Wp.ifT (fT46 I) (Wp.ifF (by rw [h2]; exact nI_ge ht (by omega)) (Wp.lj (fun j hj => (Wp.lj (fun j2 hj2 => ?_)))))
    have go : ∀ x : Int32, (x = if (decide (∀ v, v < t + 1 → f v + u v ≤ 1999)) = true then 1 else 0) → Wp (j x h) (fun r => r.2 = h ∧ r.1 = if (decide (∀ v, v < q → f v + u v ≤ 1999)) = true then 1 else 0) := fun x hx => by
      rw [hj]
      exact ih (x, nI (t + 1)) ⟨rfl, hx⟩
    have go2 : ¬ (∀ v, v < t + 1 → f v + u v ≤ 1999) → Wp (j2 h) (fun r => r.2 = h ∧ r.1 = if (decide (∀ v, v < q → f v + u v ≤ 1999)) = true then 1 else 0) := fun n => by
      rw [hj2]
      exact go 0 (by rw [if_neg (by rw [decide_eq_true_iff]; exact n)])
    by_cases c : ∀ v, v < t → f v + u v ≤ 1999
    · rw [if_pos (decide_eq_true c)] at e1
      refine Wp.ifF (by rw [e1]; exact one0) (Wp.ifT (fT46 I) (Wp.ltO (Wp.rf (fR46_43 I) (Wp.ifT (okA_n (fT80 I) (fN80 I) (show t < 20 by omega) (by decide)) (Wp.ifT (fT46 I) (Wp.ltO (Wp.rf (fR46_44 I) (Wp.ifT (okA_n (fT81 I) (fN81 I) (show t < 20 by omega) (by decide)) ?_))))))))
      rw [y1, y2]
      by_cases d : f t + u t ≤ 1999
      · refine Wp.ifF (nI_nlt (by omega) (by omega)) (go 1 ?_)
        rw [if_pos (decide_eq_true (fun v hv => by
          by_cases x : v = t
          · subst x; exact d
          · exact c v (by omega)))]
      · exact Wp.ifT (nI_lt (by omega) (by omega)) (go2 (fun x => d (x t (by omega))))
    · rw [if_neg (by rw [decide_eq_true_iff]; exact c)] at e1
      exact Wp.ifT e1 (go2 (fun x => c (fun v hv => x v (by omega))))
  · obtain ⟨v1, v2⟩ := v
    obtain ⟨e2, e1⟩ := hP
    dsimp only at e1 e2 ⊢
    subst e2
    rw [c_X10_setYears_L351]
    exact Wp.ifT (fT46 I) (Wp.ifT (by rw [h2]; exact nI_le (Nat.le_refl q) (by omega)) (Wp.ifT (by rw [e1]; split; exact Or.inr rfl; exact Or.inl rfl) (Wp.ret ⟨rfl, e1⟩)))
theorem m_setYears (I : Ifx h) (Ru : Rrul h) (hF : 5000 ≤ F) {q sl W : Nat} (hq : q ≤ 20) (h2 : hI h 46 26 = nI q) (R : Ref h q) (hsl : sl ≤ 999) (esl : now (mm h) 3 = nI sl) (hW : W < 1048576) : Wp (c_X10_setYears F 46 (nI W) h) (fun r => (r.1 = if fea (mm h) q sl (fun s => W.testBit s) = true then 1 else 0) ∧ ChI A8 h r.2 ∧ Yv 80 81 r.2 q (yl (mm h) q (fun s => W.testBit s)) (yu (mm h) q sl (fun s => W.testBit s))) := by
  unfold c_X10_setYears
  refine Wp.ifT (fT46 I) (Wp.cIe (m_now F I Ru hF 3 3 rfl (by decide)) ?_)
  rw [esl]
  refine m_yL8 F I hF hq h2 R hsl hW _ (fun g d1 d2 => ?_)
  have Ig := d1.fx I
  have mg : mm g = mm h := d1.mm (fun a i e => e.sc)
  have f1 : hI g 46 26 = nI q := (d1.1 46 26 (by unfold A8; omega)).trans h2
  refine Wp.loop (L := fun m (u : Int32 × z_Hp) => c_X10_setYears_L203 F 46 (fun h126 => (c_X10_setYears_L351 F 46 F 1 0 h126)) m u.1 u.2) (N := q) (fun t v => v.1 = nI t ∧ ChI A8 h v.2 ∧ Yv 80 81 v.2 q (rnd (ahd (mm h)) (fun s _ => s) (fun _ t => t) q (y0 (mm h) (fun s => W.testBit s)) t) (rnd (ahd (mm h)) (fun _ t => t) (fun s _ => s) q (y1 (mm h) sl (fun s => W.testBit s)) t)) (fun m t v ht hP ih => ?_) (fun m v hP => ?_) F (nI 0, g) (by omega) ⟨rfl, d1, d2⟩
  · obtain ⟨u1, g⟩ := v
    obtain ⟨e1, e2, e3⟩ := hP
    dsimp only at e1 e2 e3 ⊢
    subst e1
    have Ig := e2.fx I
    have mg : mm g = mm h := e2.mm (fun a i e => e.sc)
    have f1 : hI g 46 26 = nI q := (e2.1 46 26 (by unfold A8; omega)).trans h2
    rw [c_X10_setYears_L203, nI_1]
    refine Wp.ifT (fT46 Ig) (Wp.ifF (by rw [f1]; exact nI_ge ht (by omega)) ?_)
    refine m_yL214 F Ig hF hq f1 e3 _ _ (fun g' k1 k2 => ?_)
    rw [mg] at k2
    exact ih (nI (t + 1), g') ⟨rfl, (e2.trans k1).mono (fun a i e => by rcases e with e | e <;> exact e), k2⟩
  · obtain ⟨u1, g⟩ := v
    obtain ⟨e1, e2, e3⟩ := hP
    dsimp only at e1 e2 e3 ⊢
    subst e1
    have Ig := e2.fx I
    have f1 : hI g 46 26 = nI q := (e2.1 46 26 (by unfold A8; omega)).trans h2
    rw [c_X10_setYears_L203]
    refine Wp.ifT (fT46 Ig) (Wp.ifT (by rw [f1]; exact nI_le (Nat.le_refl q) (by omega)) ?_)
    refine (m_yL351 F Ig hF hq f1 e3).mono (fun r e => ⟨e.2, ?_, ?_⟩)
    · rw [e.1]; exact e2
    · rw [e.1]; exact e3
theorem op_year (hF : 5000 ≤ F) (J : Inv h) : OkI h (c_X9_year F 5 x1 x2 h) (c_X10_year F 46 x1 x2) := by
  obtain ⟨ow, J⟩ := J
  have o := J.1
  have I := J.2.1
  obtain ⟨q, hq, h1, h2, h3, h4, h5⟩ := J.she
  unfold c_X9_year
  by_cases c : 0 ≤ x1.toInt ∧ x1.toInt ≤ (q : Int) - 1
  · obtain ⟨s, hs, rfl⟩ := rng (x := x1) (n := 19) ⟨c.1, by omega⟩
    have hsq : s < q := by have := c; rw [toI_n (by omega)] at this; omega
    obtain ⟨sl, hsl, esl⟩ := now_r J.rul (w := 3) (by decide)
    refine OkI.wp (Wp.ifT (fT5 I) (Wp.cIe (x_isSheet I hq h1 F _) ?_))
    rw [ix_n (show s < 2147483648 by omega)]
    refine Wp.ifF (by rw [if_pos c]; exact one0) (Wp.ifT (fT5 I) (Wp.ltO (Wp.ifT (fT5 I) (Wp.ltO (Wp.ifT (fT5 I) (Wp.cIe (x_now F I J.sta J.rul J.tod hF 3 3 rfl (by decide)) (Wp.rf (fR5_8 I) (Wp.ifT (fT20 I) ?_))))))))
    rw [esl, fR5_6 I]
    refine Wp.cI ((x_work F o I J.prn hF hq h1 h3 hsl).mono (fun r d => ?_))
    obtain ⟨x, g⟩ := r
    obtain ⟨d1, d2, d3, d4⟩ := d
    dsimp only at d1 d2 d3 d4 ⊢
    have Ig := d2.fx I
    have sg : St [121, 123] ow h g := d2.st I o (fun a i e => e.ow)
    have mg : mm g = mm h := d2.mm (fun a i e => e.sc)
    have g26 : hI g 46 26 = nI q := (d2.1 46 26 (by unfold A3; omega)).trans h2
    have M : ∀ y, (y = if fea (mm h) q sl (fun _ => false) = true then (if x2 = 0 then nI (yl (mm h) q (fun _ => false) s) else nI (1999 - yu (mm h) q sl (fun _ => false) s)) else -9) → Wp (c_X10_year F 46 (nI s) x2 g) (fun r' => r'.1 = y ∧ Inv r'.2 ∧ hZ r'.2 ≤ hZ h + 5 ∧ hS r'.2 ≤ hS h + 5000) := by
      intro y hy
      unfold c_X10_year
      refine Wp.ifT (fT46 Ig) (Wp.cIe (m_isSheet Ig hq g26 F _) ?_)
      rw [ix_n (show s < 2147483648 by omega)]
      refine Wp.ifF (by rw [if_pos c]; exact one0) (Wp.ifT (fT46 Ig) (Wp.cI ((m_setYears F Ig (J.rul.st I o sg (by decide) (by decide)) hF (W := 0) hq g26 ((Sh.ref h3 J.prn).st hq I o sg (by decide) (by decide)) hsl (by rw [mg]; exact esl) (by decide)).mono (fun r k => ?_))))
      obtain ⟨x', g'⟩ := r
      obtain ⟨k1, k2, k3⟩ := k
      rw [mg] at k1 k3
      have z : (fun s : Nat => (0 : Nat).testBit s) = fun _ => false := by funext i; exact Nat.zero_testBit i
      rw [z] at k1 k3
      dsimp only at k1 k2 k3 ⊢
      have I' := k2.fx Ig
      have s' : St [121, 123, 106] ow h g' := (sg.trans (k2.st (fs := [106]) Ig o (fun a i e => e.ow))).sub (by decide)
      have fin : Inv g' ∧ hZ g' ≤ hZ h + 5 ∧ hS g' ≤ hS h + 5000 := ⟨⟨ow, J.fin o s' (OwX.refl _ _) (by decide)⟩, by rw [k2.Z.1, d2.Z.1]; omega, by rw [k2.Z.2, d2.Z.2]; omega⟩
      by_cases f : fea (mm h) q sl (fun _ => false) = true
      · rw [if_pos f] at k1 hy
        refine Wp.ifF (by rw [k1]; exact one0) (Wp.cs (fun c0 => ?_) (fun c0 => ?_))
        · rw [if_pos c0] at hy
          exact Wp.ifT (fT46 I') (Wp.ltO (Wp.rf (fR46_43 I') (Wp.ifT (okA_n (fT80 I') (fN80 I') (show s < 20 by omega) (by decide)) (Wp.ret ⟨by rw [hy]; exact (k3 s hsq).1, fin⟩))))
        · rw [if_neg c0] at hy
          exact Wp.ifT (fT46 I') (Wp.ltO (Wp.rf (fR46_44 I') (Wp.ifT (okA_n (fT81 I') (fN81 I') (show s < 20 by omega) (by decide)) (Wp.ret ⟨by rw [hy]; exact (k3 s hsq).2.1, fin⟩))))
      · rw [if_neg f] at k1 hy
        exact Wp.ifT k1 (Wp.ret ⟨hy.symm, fin⟩)
    by_cases f : fea (mm h) q sl (fun _ => false) = true
    · rw [if_pos f] at d1 M
      refine Wp.ifF (by rw [d1]; exact one0) (Wp.cs (fun c0 => ?_) (fun c0 => ?_))
      · rw [if_pos c0] at M
        exact Wp.ifT (fT5 Ig) (Wp.ltO (Wp.rf (fR5_8 Ig) (Wp.ifT (fT20 Ig) (Wp.ltO (Wp.rf (fR20_5 Ig) (Wp.ifT (okA_n (fT26 Ig) (fN26 Ig) (show s < 20 by omega) (by decide)) (Wp.ret (M _ (d4 s hsq).1))))))))
      · rw [if_neg c0] at M
        exact Wp.ifT (fT5 Ig) (Wp.ltO (Wp.rf (fR5_8 Ig) (Wp.ifT (fT20 Ig) (Wp.ltO (Wp.rf (fR20_6 Ig) (Wp.ifT (okA_n (fT27 Ig) (fN27 Ig) (show s < 20 by omega) (by decide)) (Wp.ret (M _ (d4 s hsq).2.1))))))))
    · rw [if_neg f] at d1 M
      exact Wp.ifT d1 (Wp.ret (M _ rfl))
  · refine OkI.same (-1) ⟨ow, J⟩ ?_ ?_
    · rw [fT5 I, if_pos rfl, x_isSheet I hq h1, bI_some, if_neg c, ite00]
    · unfold c_X10_year; rw [fT46 I, if_pos rfl, m_isSheet I hq h2, bI_some, if_neg c, ite00]
end Yry
