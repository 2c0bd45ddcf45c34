section Rulo
variable {h : z_Hp} (F : Nat) (x1 x2 x3 x4 x5 : Int32)
theorem op_fault (hF : 5000 ≤ F) (J : Inv h) : OkI h (c_X9_fault F 5 x1 h) (c_X10_fault F 46 x1) := by
  obtain ⟨ow, J⟩ := J
  have o := J.1
  have I := J.2.1
  by_cases c1 : 0 ≤ x1.toInt ∧ x1.toInt ≤ 3
  · obtain ⟨t, ht, rfl⟩ := rng (x := x1) (n := 3) c1
    have o7 : okA h 7 24 (nI t) = true := okA_n (fT7 I) (fN7 I) (by omega) (by decide)
    rcases J.txt.1 t (by omega) with ⟨g1, g2⟩ | ⟨n, a, n60, e1, e2, ta, na, a94, oa, ea⟩
    · refine OkI.found0 (F := F) 1 (by decide) J ?_ (fun h' w => ?_)
      · unfold c_X9_fault
        show _ = c_X9_found F 5 1 h
        rw [x_isText, bI_some, if_pos c1, ite10]
        simp only [fT5 I, fR5_1 I, if_true, ltq, nnq, o7, ix_n (show t < 2147483648 by omega), g2, nlz, bI_id]
      · have I' := I.st o w (by decide)
        have e : hI h' 51 t = -9 := (w.fam I o (c := 61) (by decide) 51 t (by omega) rfl).1.trans g1
        unfold c_X10_fault
        show _ = c_X10_meets F 46 1 h'
        rw [fT46 I', if_pos rfl, m_askedText1 F I' (by omega) e, m_meets I' F 1 1 rfl (by decide), bI_some, if_neg (by decide)]
    · obtain ⟨⟨v, k0⟩, f1, f2, f3⟩ := x_fault F J.sta hF ta na n60 ea
      obtain ⟨⟨v2, k⟩, k1, k2, k3, k4⟩ := m_reads F I hF (show t < 4 by omega) n60 e1 (g := fun k => hI h 52 (60 * t + k)) (fun _ _ => rfl)
      dsimp only at f2 f3 k2 k3 k4
      have ev := k2.eq f2
      rw [f3] at f1
      rw [ev] at k1
      have sk : St [103] ow h k := k3.st (fs := [103]) I o (fun a i e => by rw [e]; exact ⟨by decide, List.mem_cons_self⟩)
      refine ⟨v, h, k, ?_, ?_, ⟨ow, J.fin o sk (OwX.refl _ _) (by decide)⟩, by rw [k3.Z.1]; omega, by rw [k3.Z.2]; omega⟩
      · unfold c_X9_fault
        rw [x_isText, bI_some, if_pos c1, ite10]
        simp only [fT5 I, fR5_1 I, if_true, ltq, nnq, o7, ix_n (show t < 2147483648 by omega), e2, nlq, f1, bIq]
      · unfold c_X10_fault
        rw [fT46 I, if_pos rfl, m_askedText2 F I (by omega) n60 e1, bI_some, if_pos (by decide), fT46 I, if_pos rfl, k1, bI_some]
  · refine OkI.same (-1) ⟨ow, J⟩ ?_ ?_
    · unfold c_X9_fault
      rw [x_isText, bI_some, if_neg c1, ite00]
    · unfold c_X10_fault
      rw [fT46 I, if_pos rfl, m_askedText0 F x1 I c1, bI_some, if_neg (by decide)]
/-! ===== rule ===== -/
def Ar (q a i : Nat) : Prop := (a = 10 ∧ i = 3) ∨ (a = 11 ∧ i = q) ∨ (a = 12 ∧ i = q) ∨ (a = 13 ∧ 5 * q ≤ i ∧ i < 5 * q + 5)
theorem Ar.ow {q a i : Nat} (e : Ar q a i) : a < 94 ∧ ow0 a i ∈ [14] := by
  rcases e with ⟨rfl, rfl⟩ | ⟨rfl, _⟩ | ⟨rfl, _⟩ | ⟨rfl, _⟩
  · exact ⟨by decide, by decide⟩
  · exact ⟨by decide, List.mem_cons_self⟩
  · exact ⟨by decide, List.mem_cons_self⟩
  · exact ⟨by decide, List.mem_cons_self⟩
theorem x_add (I : Ifx h) (S : Rsta h) (hF : 5000 ≤ F) {q a n : Nat} {g : Nat → Int32} (hq : q < 16) (e3 : hI h 10 3 = nI q) (a94 : 94 ≤ a) (ta : hT h a = 21) (na : hN h a = n) (n60 : n ≤ 60) (ea : ∀ k, k < n → hI h a k = g k) (nf : ∀ k, k < n → ¬ flt g k) (td fr : Int32) : Wp (c_X3_add F 10 (some a) td fr h) (fun r => r.1 = nI q ∧ ChI (Ar q) h r.2 ∧ hI r.2 10 3 = nI (q + 1) ∧ hI r.2 11 q = td ∧ hI r.2 12 q = fr ∧ ∀ l, l < 5 → hI r.2 13 (5 * q + l) = enc (iv g n l)) := by
  obtain ⟨t1, t2, t3, t4, t5, t6⟩ := S
  have oL : ∀ {k}, ChI (Ar q) h k → okL k 2 = true ∧ hN k 2 = 5 := fun c => ⟨okL_n ((c.T 2).trans (t1 2 (by decide))) (by decide) (by decide), (c.N 2).trans t4⟩
  have Sk : ∀ {k}, ChI (Ar q) h k → Rsta k := fun {k} c => ⟨fun a ha => (c.T a).trans (t1 a ha), (c.N 0).trans t2, (c.N 1).trans t3, (c.N 2).trans t4, (c.N 3).trans t5, fun a j ha => (c.1 a j (by unfold Ar; omega)).trans (t6 a j ha)⟩
  have base : nI q * nI 5 = nI (5 * q) := by rw [nI_mul, Nat.mul_comm]
  unfold c_X3_add
  refine Wp.ifT (fT10 I) (Wp.ifT (oL (ChI.refl _ _)).1 ?_)
  rw [e3, t4, base]
  refine Wp.ltI ?_
  refine Wp.loop (L := fun m (u : Int32 × z_Hp) => c_X3_add_L14 F 10 (some a) td fr (nI (5 * q)) _ m u.1 u.2) (N := 5) (fun l u => u.1 = nI l ∧ ChI (Ar q) h u.2 ∧ hI u.2 10 3 = nI q ∧ ∀ j, j < l → hI u.2 13 (5 * q + j) = -9) (fun m l u hl hP ih => ?_) (fun m u hP => ?_) F (0, h) (by omega) ⟨rfl, ChI.refl _ _, e3, fun j hj => by omega⟩
  · obtain ⟨u1, k⟩ := u
    obtain ⟨q1, q2, q4, q3⟩ := hP
    dsimp only at q1 q2 q3 q4 ⊢
    subst q1
    have Ik := q2.fx I
    have o13 : okA k 13 20 (nI (5 * q + l)) = true := okA_n (fT13 Ik) (fN13 Ik) (by omega) (by decide)
    rw [c_X3_add_L14, nI_1, nI_add, ix_n (show 5 * q + l < 2147483648 by omega)]
    refine Wp.ifT (oL q2).1 (Wp.ifF (by rw [(oL q2).2]; exact nI_ge hl (by decide)) (Wp.ifT (fT10 Ik) (Wp.ltO (Wp.rf (fR10_2 Ik) (Wp.ifT o13 (Wp.ltH (Wp.ltI (ih (nI (l + 1), sI k 13 (5 * q + l) (-9)) ⟨rfl, q2.set (Or.inr (Or.inr (Or.inr ⟨rfl, by omega, by omega⟩))), ?_, fun j hj => ?_⟩))))))))
    · dsimp only
      rw [hI_sI, if_neg (by omega)]; exact q4
    · dsimp only
      rw [hI_sI]
      by_cases e : j = l
      · rw [if_pos ⟨rfl, by omega⟩]
      · rw [if_neg (by omega)]; exact q3 j (by omega)
  · obtain ⟨u1, k0⟩ := u
    obtain ⟨q1, q2, q4, q3⟩ := hP
    dsimp only at q1 q2 q3 q4 ⊢
    subst q1
    rw [c_X3_add_L14]
    refine Wp.ifT (oL q2).1 (Wp.ifT (by rw [(oL q2).2]; decide) ?_)
    refine Wp.loop (L := fun m (u : Int32 × Int32 × z_Hp) => c_X3_add_L48 F 10 (some a) td fr (nI (5 * q)) _ m u.1 u.2.1 u.2.2) (N := n) (fun i u => u.1 = nI (5 * q + cl_l g i) ∧ u.2.1 = nI i ∧ ChI (Ar q) h u.2.2 ∧ hI u.2.2 10 3 = nI q ∧ ∀ l, l < 5 → hI u.2.2 13 (5 * q + l) = enc (iv g i l)) (fun m i u hi hP ih => ?_) (fun m u hP => ?_) F (nI (5 * q), 0, k0) (by omega) ⟨rfl, rfl, q2, q4, q3⟩
    · obtain ⟨u1, u2, k⟩ := u
      obtain ⟨p1, p2, p3, p4, p5⟩ := hP
      dsimp only at p1 p2 p3 p4 p5 ⊢
      subst p1 p2
      have Ik := p3.fx I
      have ta' := (p3.T a).trans ta
      have na' := (p3.N a).trans na
      have ol : okL k a = true := okL_n ta' (by decide) (by decide)
      have oa : okA k a 21 (nI i) = true := okA_n ta' na' hi (by omega)
      have eg : hI k a i = g i := (p3.1 a i (by unfold Ar; omega)).trans (ea i hi)
      have c5 := cl_lt g i
      have fr_ : ∀ j, j < i → ¬ flt g j := fun j hj => nf j (by omega)
      obtain ⟨iv1, iv2⟩ := iv_ok i fr_
      rw [c_X3_add_L48, nI_1, ix_n (show i < 2147483648 by omega), ix_n (show 5 * q + cl_l g i < 2147483648 by omega)]
      refine Wp.rf rfl (Wp.ifT ol ?_)
      rw [na']
      refine Wp.ifF (nI_ge hi (by omega)) (Wp.ifT oa ?_)
      rw [eg]
      refine Wp.cIe (x_letter F (Sk p3) hF _) (Wp.lj (fun j hj => ?_))
      have go : ∀ c k', c = cl_l g (i + 1) → ChI (Ar q) h k' → hI k' 10 3 = nI q → (∀ l, l < 5 → hI k' 13 (5 * q + l) = enc (iv g (i + 1) l)) → Wp (j (nI (5 * q + c)) k') (fun r => r.1 = nI q ∧ ChI (Ar q) h r.2 ∧ hI r.2 10 3 = nI (q + 1) ∧ hI r.2 11 q = td ∧ hI r.2 12 q = fr ∧ ∀ l, l < 5 → hI r.2 13 (5 * q + l) = enc (iv g n l)) := fun c k' hc a1 a2 a3 => by
        rw [hj]
        exact ih (nI (5 * q + c), nI (i + 1), k') ⟨by rw [hc], rfl, a1, a2, a3⟩
      have E2 : cl_l g (i + 1) = (ltr (g i)).getD (cl_l g i) := rfl
      have E4 : ∀ l, iv g (i + 1) l = if isD (g i) = true then (if l = cl_l g i then some (10 * vll g i + dv (g i)) else iv g i l) else if ltr (g i) = none then iv g i l else if l = (ltr (g i)).getD 0 then some 0 else iv g i l := fun _ => rfl
      have put : ∀ (c : Nat) (X : Int32), c < 5 → (∀ l, l < 5 → ¬ l = c → iv g (i + 1) l = iv g i l) → X = enc (iv g (i + 1) c) → ChI (Ar q) h (sI k 13 (5 * q + c) X) ∧ hI (sI k 13 (5 * q + c) X) 10 3 = nI q ∧ ∀ l, l < 5 → hI (sI k 13 (5 * q + c) X) 13 (5 * q + l) = enc (iv g (i + 1) l) := fun c X hc ho hX => by
        refine ⟨p3.set (Or.inr (Or.inr (Or.inr ⟨rfl, by omega, by omega⟩))), by rw [hI_sI, if_neg (by omega)]; exact p4, fun l hl => ?_⟩
        rw [hI_sI]
        by_cases e : l = c
        · rw [if_pos ⟨rfl, by omega⟩, hX, e]
        · rw [if_neg (by omega), ho l hl e]; exact p5 l hl
      cases e : ltr (g i) with
      | none =>
        rw [e] at E2
        refine Wp.ifT rfl (Wp.ifT oa ?_)
        rw [eg]
        refine Wp.cIe (x_isD F _ _) ?_
        by_cases cD : isD (g i) = true
        · have o13 : okA k 13 20 (nI (5 * q + cl_l g i)) = true := okA_n (fT13 Ik) (fN13 Ik) (by omega) (by decide)
          have nfi := nf i hi
          have dl := dgs_le i fr_
          unfold flt at nfi
          rw [if_pos cD] at nfi
          obtain ⟨dv1, dv2⟩ := dv_ok cD
          have j1 := (iv1 (by omega)).1
          refine Wp.ifF (by rw [if_pos cD]; exact one0) (Wp.ifT (fT10 Ik) (Wp.ltO (Wp.ifT (fT10 Ik) (Wp.ltO (Wp.rf (fR10_2 Ik) (Wp.ifT o13 (Wp.ifT oa (Wp.rf (fR10_2 Ik) (Wp.ifT o13 (Wp.ltH ?_))))))))))
          rw [eg, p5 _ c5, j1]
          have hv : enc (some (vll g i)) * 10 + (g i - 48) = enc (some (10 * vll g i + dv (g i))) := by
            show nI (vll g i) * 10 + (g i - 48) = nI (10 * vll g i + dv (g i))
            rw [dv2, show (10 : Int32) = nI 10 from rfl, nI_mul, nI_add, Nat.mul_comm]
          rw [hv]
          obtain ⟨w1, w2, w3⟩ := put (cl_l g i) (enc (some (10 * vll g i + dv (g i)))) c5 (fun l hl hne => by rw [E4, if_pos cD, if_neg hne]) (by rw [E4, if_pos cD, if_pos rfl])
          exact go _ _ (by rw [E2]; rfl) w1 w2 w3
        · refine Wp.ifT (by rw [if_neg cD]) (go _ k (by rw [E2]; rfl) p3 p4 (fun l hl => ?_))
          rw [E4, if_neg cD, if_pos e]; exact p5 l hl
      | some ll =>
        obtain ⟨ll5, Df, _⟩ := ltr_ok e
        rw [e] at E2
        have o13 : okA k 13 20 (nI (5 * q + ll)) = true := okA_n (fT13 Ik) (fN13 Ik) (by omega) (by decide)
        have ad : nI (5 * q) + enc (some ll) = nI (5 * q + ll) := nI_add _ _
        refine Wp.ifF (enc9 (by omega)) (Wp.ltI ?_)
        rw [ad, ix_n (show 5 * q + ll < 2147483648 by omega)]
        refine Wp.ifT (fT10 Ik) (Wp.ltO (Wp.rf (fR10_2 Ik) (Wp.ifT o13 (Wp.ltH ?_))))
        obtain ⟨w1, w2, w3⟩ := put ll 0 ll5 (fun l hl hne => by
          rw [E4, Df, if_neg (by decide), e, if_neg (fun y => by cases y)]
          show (if l = ll then some 0 else iv g i l) = _
          rw [if_neg hne]) (by
          rw [E4, Df, if_neg (by decide), e, if_neg (fun y => by cases y)]
          show (0 : Int32) = enc (if ll = ll then some 0 else iv g i ll)
          rw [if_pos rfl]; rfl)
        exact go _ _ (by rw [E2]; rfl) w1 w2 w3
    · obtain ⟨u1, u2, k⟩ := u
      obtain ⟨p1, p2, p3, p4, p5⟩ := hP
      dsimp only at p1 p2 p3 p4 p5 ⊢
      subst p1 p2
      have Ik := p3.fx I
      have ol : okL k a = true := okL_n ((p3.T a).trans ta) (by decide) (by decide)
      have o11 : okA k 11 20 (nI q) = true := okA_n (fT11 Ik) (fN11 Ik) (by omega) (by decide)
      have o12 : okA k 12 20 (nI q) = true := okA_n (fT12 Ik) (fN12 Ik) (by omega) (by decide)
      rw [c_X3_add_L48]
      refine Wp.rf rfl (Wp.ifT ol ?_)
      rw [(p3.N a).trans na]
      refine Wp.ifT (nI_le (Nat.le_refl n) (by omega)) (Wp.ifT (fT10 Ik) (Wp.ltO (Wp.ifT (fT10 Ik) (Wp.rf (fR10_0 Ik) ?_))))
      rw [p4, ix_n (show q < 2147483648 by omega)]
      refine Wp.ifT o11 (Wp.ltH (Wp.ifT (fT10 Ik) (Wp.ltO (Wp.ifT (fT10 Ik) (Wp.rf (fR10_1 Ik) ?_)))))
      have v1 : hI (sI k 11 q td) 10 3 = nI q := by rw [hI_sI, if_neg (by omega)]; exact p4
      rw [v1, ix_n (show q < 2147483648 by omega)]
      refine Wp.ifT o12 (Wp.ltH (Wp.ifT (fT10 Ik) (Wp.ifT (fT10 Ik) (Wp.ltH ?_))))
      have v2 : hI (sI (sI k 11 q td) 12 q fr) 10 3 = nI q := by rw [hI_sI, if_neg (by omega)]; exact v1
      rw [v2, nI_1]
      refine Wp.ret ⟨rfl, ((p3.set (Or.inr (Or.inl ⟨rfl, rfl⟩))).set (Or.inr (Or.inr (Or.inl ⟨rfl, rfl⟩)))).set (Or.inl ⟨rfl, rfl⟩), ?_, ?_, ?_, fun l hl => ?_⟩
      · dsimp only
        rw [hI_sI, if_pos ⟨rfl, rfl⟩]
      · dsimp only
        rw [hI_sI, if_neg (by omega), hI_sI, if_neg (by omega), hI_sI, if_pos ⟨rfl, rfl⟩]
      · dsimp only
        rw [hI_sI, if_neg (by omega), hI_sI, if_pos ⟨rfl, rfl⟩]
      · dsimp only
        rw [hI_sI, if_neg (by omega), hI_sI, if_neg (by omega), hI_sI, if_neg (by omega)]; exact p5 l hl
def AR (q a i : Nat) : Prop := (a = 46 ∧ i = 19) ∨ (a = 59 ∧ i = q) ∨ (a = 60 ∧ i = q) ∨ (a = 61 ∧ 5 * q ≤ i ∧ i < 5 * q + 5)
theorem AR.ow {q a i : Nat} (e : AR q a i) : a < 94 ∧ ow0 a i ∈ [64] := by
  rcases e with ⟨rfl, rfl⟩ | ⟨rfl, _⟩ | ⟨rfl, _⟩ | ⟨rfl, _⟩
  · exact ⟨by decide, by decide⟩
  · exact ⟨by decide, List.mem_cons_self⟩
  · exact ⟨by decide, List.mem_cons_self⟩
  · exact ⟨by decide, List.mem_cons_self⟩
theorem m_rL81 (I : Ifx h) (hF : 5000 ≤ F) {q : Nat} (hq : q < 16) (e19 : hI h 46 19 = nI q) (K : z_Hp → Option (Int32 × z_Hp)) {P : Int32 × z_Hp → Prop} (kk : ∀ k, ChI (AR q) h k → hI k 46 19 = nI q → (∀ i, hI k 59 i = hI h 59 i ∧ hI k 60 i = hI h 60 i) → (∀ l, l < 5 → hI k 61 (5 * q + l) = hI h 62 l) → Wp (K k) P) : Wp (c_X10_rule_L81 F 46 K F 0 h) P := by
  refine Wp.loop (L := fun m (u : Int32 × z_Hp) => c_X10_rule_L81 F 46 K m u.1 u.2) (N := 5) (fun l u => u.1 = nI l ∧ ChI (AR q) h u.2 ∧ hI u.2 46 19 = nI q ∧ (∀ i, hI u.2 59 i = hI h 59 i ∧ hI u.2 60 i = hI h 60 i) ∧ ∀ j, j < l → hI u.2 61 (5 * q + j) = hI h 62 j) (fun m l u hl hP ih => ?_) (fun m u hP => ?_) F (0, h) (by omega) ⟨rfl, ChI.refl _ _, e19, fun _ => ⟨rfl, rfl⟩, fun j hj => by omega⟩
  · obtain ⟨u1, k⟩ := u
    obtain ⟨q1, q2, q3, q4, q5⟩ := hP
    dsimp only at q1 q2 q3 q4 q5 ⊢
    subst q1
    have Ik := q2.fx I
    have o62 : okA k 62 20 (nI l) = true := okA_n (fT62 Ik) (fN62 Ik) (by omega) (by decide)
    have o61 : okA k 61 20 (nI (5 * q + l)) = true := okA_n (fT61 Ik) (fN61 Ik) (by omega) (by decide)
    have ad : (5 : Int32) * nI q + nI l = nI (5 * q + l) := by rw [show (5 : Int32) = nI 5 from rfl, nI_mul, nI_add]
    rw [c_X10_rule_L81, nI_1, q3, ad, ix_n (show l < 2147483648 by omega), ix_n (show 5 * q + l < 2147483648 by omega)]
    refine Wp.ifF (nI_ge (b := 5) hl (by decide)) (Wp.ifT (fT46 Ik) (Wp.ltO (Wp.ifT (fT46 Ik) (Wp.ifT (fT46 Ik) (Wp.ltO (Wp.rf (fR46_23 Ik) (Wp.ifT o62 (Wp.rf (fR46_22 Ik) (Wp.ifT o61 (Wp.ltH (Wp.ltI ?_)))))))))))
    rw [q2.1 62 l (by unfold AR; omega)]
    refine ih (nI (l + 1), sI k 61 (5 * q + l) (hI h 62 l)) ⟨rfl, q2.set (Or.inr (Or.inr (Or.inr ⟨rfl, by omega, by omega⟩))), ?_, fun i => ?_, fun j hj => ?_⟩
    · dsimp only
      rw [hI_sI, if_neg (by omega)]; exact q3
    · dsimp only
      rw [hI_sI, if_neg (by omega), hI_sI, if_neg (by omega)]; exact q4 i
    · dsimp only
      rw [hI_sI]
      by_cases e : j = l
      · rw [if_pos ⟨rfl, by omega⟩, e]
      · rw [if_neg (by omega)]; exact q5 j (by omega)
  · obtain ⟨u1, k⟩ := u
    obtain ⟨q1, q2, q3, q4, q5⟩ := hP
    dsimp only at q1 q2 q3 q4 q5 ⊢
    subst q1
    rw [c_X10_rule_L81]
    exact Wp.ifT (by decide) (kk k q2 q3 q4 q5)
theorem op_rule (hF : 5000 ≤ F) (J : Inv h) : OkI h (c_X9_rule F 5 x1 x2 h) (c_X10_rule F 46 x1 x2) := by
  obtain ⟨ow, J⟩ := J
  have o := J.1
  have I := J.2.1
  obtain ⟨q, hq, r1, r2, r3⟩ := J.rul
  obtain ⟨td, htd, d1, d2⟩ := J.tod
  by_cases c1 : 0 ≤ x1.toInt ∧ x1.toInt ≤ 3
  · by_cases c2 : 0 ≤ x2.toInt ∧ x2.toInt ≤ 999
    · by_cases c3 : q < 16
      · obtain ⟨t, ht, rfl⟩ := rng (x := x1) (n := 3) c1
        obtain ⟨fr, hfr, rfl⟩ := rng (x := x2) (n := 999) c2
        have o7 : okA h 7 24 (nI t) = true := okA_n (fT7 I) (fN7 I) (by omega) (by decide)
        have q16 : nI q < (16 : Int32) := nI_lt (b := 16) c3 (by decide)
        have nq16 : ¬ nI q = (16 : Int32) := fun y => by have := (nI_eq (b := 16) (by omega) (by decide)).mp y; omega
        rcases J.txt.1 t (by omega) with ⟨g1, g2⟩ | ⟨n, a, n60, e1, e2, ta, na, a94, oa, ea⟩
        · refine OkI.found0 (F := F) 1 (by decide) J ?_ (fun h' w => ?_)
          · unfold c_X9_rule
            show _ = c_X9_found F 5 1 h
            rw [x_isText, bI_some, if_pos c1, ite10, x_isDay, bI_some, if_pos c2, ite10]
            simp only [fT5 I, fT10 I, fR5_1 I, fR5_5 I, if_true, ltq, nnq, r1, q16, o7, ix_n (show t < 2147483648 by omega), g2, nlz, bI_id]
          · have I' := I.st o w (by decide)
            have e : hI h' 51 t = -9 := (w.fam I o (c := 61) (by decide) 51 t (by omega) rfl).1.trans g1
            have e19 : hI h' 46 19 = nI q := (w.fam I o (c := 64) (by decide) 46 19 (by omega) rfl).1.trans r2
            have o51 : okA h' 51 20 (nI t) = true := okA_n (fT51 I') (fN51 I') (by omega) (by decide)
            unfold c_X10_rule
            show _ = c_X10_meets F 46 1 h'
            rw [m_isText, bI_some, if_pos c1, ite10, m_isDay, bI_some, if_pos c2, ite10]
            simp only [fT46 I', fR46_10 I', if_true, ltq, nnq, e19, if_neg nq16, o51, ix_n (show t < 2147483648 by omega), e, if_neg nn9, bI_id]
        · obtain ⟨⟨v, k0⟩, f1, f2, f3⟩ := x_fault F J.sta hF ta na n60 ea
          dsimp only at f2 f3
          rw [f3] at f1
          have X : c_X9_rule F 5 (nI t) (nI fr) h = if v = -9 then bI (c_X3_add F 10 (some a) (nI td) (nI fr) h) (fun x20 h19 => some (x20, h19)) else some (-4, h) := by
            unfold c_X9_rule
            rw [x_isText, bI_some, if_pos c1, ite10, x_isDay, bI_some, if_pos c2, ite10]
            simp only [fT5 I, fT10 I, fR5_1 I, fR5_5 I, if_true, ltq, nnq, r1, q16, o7, ix_n (show t < 2147483648 by omega), e2, nlq, f1, bIq, d1]
          by_cases v9 : v = -9
          · rw [v9] at f2 X
            rw [if_pos rfl] at X
            obtain ⟨nf, _⟩ := f2.none9 n60
            refine OkI.wp ?_
            rw [X]
            refine Wp.cI ((x_add F I J.sta hF c3 r1 a94 ta na n60 ea nf (nI td) (nI fr)).mono (fun r d => ?_))
            obtain ⟨v1, k⟩ := r
            obtain ⟨a1, a2, a3, a4, a5, a6⟩ := d
            dsimp only at a1 a2 a3 a4 a5 a6 ⊢
            have Ik := a2.fx I
            have sk : St [14] ow h k := a2.st I o (fun a i e => e.ow)
            have kk : ∀ a i, 46 ≤ a → a < 94 → hI k a i = hI h a i := fun a i l1 l2 => a2.1 a i (by unfold Ar; omega)
            refine Wp.ret ?_
            dsimp only
            have o51 : okA k 51 20 (nI t) = true := okA_n (fT51 Ik) (fN51 Ik) (by omega) (by decide)
            unfold c_X10_rule
            refine Wp.cIe (m_isText F _ _) (Wp.ifF (by rw [if_pos c1]; exact one0) (Wp.cIe (m_isDay F _ _) (Wp.ifF (by rw [if_pos c2]; exact one0) (Wp.ifT (fT46 Ik) (Wp.ifF (by rw [kk 46 19 (by decide) (by decide), r2]; exact nq16) (Wp.ifT (fT46 Ik) (Wp.ltO (Wp.rf (fR46_10 Ik) (Wp.ifT o51 (Wp.ifT (by rw [ix_n (by omega), kk 51 t (by decide) (by decide), e1]; exact nge (by omega)) (Wp.ifT (fT46 Ik) (Wp.cI ((m_reads F Ik hF (show t < 4 by omega) n60 ((kk 51 t (by decide) (by decide)).trans e1) (g := fun k => hI h 52 (60 * t + k)) (fun i hi => kk 52 _ (by decide) (by decide))).mono (fun r d => ?_))))))))))))))
            obtain ⟨v2, k2⟩ := r
            obtain ⟨b1, b2, b3⟩ := d
            dsimp only at b1 b2 b3 ⊢
            have v29 : v2 = -9 := b1.eq f2
            have I2 := b2.fx Ik
            have k2k : ∀ a i, 46 ≤ a → a < 94 → a ≠ 62 → hI k2 a i = hI h a i := fun a i l1 l2 n => (b2.1 a i n).trans (kk a i l1 l2)
            have o59 : okA k2 59 20 (nI q) = true := okA_n (fT59 I2) (fN59 I2) (by omega) (by decide)
            have o60 : okA k2 60 20 (nI q) = true := okA_n (fT60 I2) (fN60 I2) (by omega) (by decide)
            have e19 : hI k2 46 19 = nI q := (k2k 46 19 (by decide) (by decide) (by decide)).trans r2
            have e6 : hI k2 46 6 = nI td := (k2k 46 6 (by decide) (by decide) (by decide)).trans d2
            refine Wp.ifT v29 (Wp.ifT (fT46 I2) (Wp.ltO (Wp.ifT (fT46 I2) (Wp.ifT (fT46 I2) (Wp.rf (fR46_20 I2) ?_)))))
            rw [e19, e6, ix_n (show q < 2147483648 by omega)]
            refine Wp.ifT o59 (Wp.ltH (Wp.ifT (fT46 I2) (Wp.ltO (Wp.ifT (fT46 I2) (Wp.rf (fR46_21 I2) ?_)))))
            have w1 : hI (sI k2 59 q (nI td)) 46 19 = nI q := by rw [hI_sI, if_neg (by omega)]; exact e19
            rw [w1, ix_n (show q < 2147483648 by omega)]
            refine Wp.ifT o60 (Wp.ltH ?_)
            have c3' : ChI (AR q) k2 (sI (sI k2 59 q (nI td)) 60 q (nI fr)) := ((ChI.refl _ _).set (Or.inr (Or.inl ⟨rfl, rfl⟩))).set (Or.inr (Or.inr (Or.inl ⟨rfl, rfl⟩)))
            have I3 := c3'.fx I2
            refine m_rL81 F I3 hF c3 (by rw [hI_sI, if_neg (by omega)]; exact w1) _ (fun k4 s1 s2 s3 s4 => ?_)
            have I4 := s1.fx I3
            refine Wp.ifT (fT46 I4) (Wp.ifT (fT46 I4) (Wp.ltH (Wp.ifT (fT46 I4) ?_)))
            rw [s2, nI_1]
            have z1 : hI (sI k4 46 19 (nI (q + 1))) 46 19 = nI (q + 1) := by rw [hI_sI, if_pos ⟨rfl, rfl⟩]
            rw [z1]
            have cc : ChI (AR q) k2 (sI k4 46 19 (nI (q + 1))) := ((c3'.trans s1).mono (fun a i e => by rcases e with e | e <;> exact e)).set (Or.inl ⟨rfl, rfl⟩)
            have sF : St [14, 103, 64] ow h (sI k4 46 19 (nI (q + 1))) := ((sk.trans (b2.st (fs := [103]) Ik o (fun a i e => by rw [e]; exact ⟨by decide, List.mem_cons_self⟩))).trans (cc.st (fs := [64]) I2 o (fun a i e => e.ow))).sub (by decide)
            refine Wp.ret ⟨?_, ⟨ow, J.fin o sF (OwX.refl _ _) (by decide) (c14 := fun _ => ?_)⟩, ?_, ?_⟩
            · dsimp only
              rw [a1, nI_pred]
            · -- the rules stand on both sides
              generalize hE : sI k4 46 19 (nI (q + 1)) = E at *
              have x46 : ∀ a i, a < 46 → hI E a i = hI k a i := fun a i l => (cc.1 a i (by unfold AR; omega)).trans (b2.1 a i (by omega))
              have m59 : ∀ i, hI E 59 i = if i = q then nI td else hI h 59 i := fun i => by
                rw [← hE, hI_sI, if_neg (by omega), (s3 i).1, hI_sI, if_neg (by omega), hI_sI]
                by_cases e : i = q
                · rw [if_pos ⟨rfl, e⟩, if_pos e]
                · rw [if_neg (fun y => e y.2), if_neg e]; exact k2k 59 i (by decide) (by decide) (by decide)
              have m60 : ∀ i, hI E 60 i = if i = q then nI fr else hI h 60 i := fun i => by
                rw [← hE, hI_sI, if_neg (by omega), (s3 i).2, hI_sI]
                by_cases e : i = q
                · rw [if_pos ⟨rfl, e⟩, if_pos e]
                · rw [if_neg (fun y => e y.2), if_neg e, hI_sI, if_neg (by omega)]; exact k2k 60 i (by decide) (by decide) (by decide)
              have m61n : ∀ l, l < 5 → hI E 61 (5 * q + l) = enc (iv (fun k => hI h 52 (60 * t + k)) n l) := fun l hl => by
                rw [← hE, hI_sI, if_neg (by omega), s4 l hl, hI_sI, if_neg (by omega), hI_sI, if_neg (by omega)]
                exact b3 v29 l hl
              have m61o : ∀ i, i < 5 * q → hI E 61 i = hI h 61 i := fun i hi => (cc.1 61 i (by unfold AR; omega)).trans (k2k 61 i (by decide) (by decide) (by decide))
              refine ⟨q + 1, by omega, ?_, ?_, fun k' hk' => ?_⟩
              · rw [x46 10 3 (by decide)]; exact a3
              · rw [← hE, hI_sI, if_pos ⟨rfl, rfl⟩]
              · rw [x46 11 k' (by decide), x46 12 k' (by decide), m59, m60]
                by_cases e : k' = q
                · subst e
                  rw [if_pos rfl, if_pos rfl]
                  refine ⟨a4, a5, ⟨td, htd, rfl⟩, ⟨fr, hfr, rfl⟩, fun j hj => ?_⟩
                  rw [x46 13 _ (by decide), m61n j hj, a6 j hj]
                  refine ⟨rfl, ?_⟩
                  cases y : iv (fun k => hI h 52 (60 * t + k)) n j with
                  | none => exact Or.inl rfl
                  | some vv => exact Or.inr ⟨vv, (iv_ok n nf).2 j vv y, rfl⟩
                · obtain ⟨y1, y2, y3, y4, y5⟩ := r3 k' (by omega)
                  rw [if_neg e, if_neg e, a2.1 11 k' (by unfold Ar; omega), a2.1 12 k' (by unfold Ar; omega)]
                  refine ⟨y1, y2, y3, y4, fun j hj => ?_⟩
                  rw [x46 13 _ (by decide), a2.1 13 _ (by unfold Ar; omega), m61o _ (by omega)]
                  exact y5 j hj
            · show hZ (sI k4 46 19 (nI (q + 1))) ≤ _
              rw [cc.Z.1, b2.Z.1, a2.Z.1]; omega
            · show hS (sI k4 46 19 (nI (q + 1))) ≤ _
              rw [cc.Z.2, b2.Z.2, a2.Z.2]; omega
          · rw [if_neg v9] at X
            obtain ⟨⟨v2, k⟩, k1, k2, k3, k4⟩ := m_reads F I hF (show t < 4 by omega) n60 e1 (g := fun k => hI h 52 (60 * t + k)) (fun _ _ => rfl)
            dsimp only at k2 k3 k4
            have ev := k2.eq f2
            have o51 : okA h 51 20 (nI t) = true := okA_n (fT51 I) (fN51 I) (by omega) (by decide)
            have sk : St [103] ow h k := k3.st (fs := [103]) I o (fun a i e => by rw [e]; exact ⟨by decide, List.mem_cons_self⟩)
            refine ⟨-4, h, k, X, ?_, ⟨ow, J.fin o sk (OwX.refl _ _) (by decide)⟩, by rw [k3.Z.1]; omega, by rw [k3.Z.2]; omega⟩
            unfold c_X10_rule
            rw [m_isText, bI_some, if_pos c1, ite10, m_isDay, bI_some, if_pos c2, ite10]
            simp only [fT46 I, fR46_10 I, if_true, ltq, nnq, r2, if_neg nq16, o51, ix_n (show t < 2147483648 by omega), e1, if_pos (nge (show n < 2147483648 by omega)), k1, bIq]
            rw [if_neg (by rw [ev]; exact v9)]
      · have q16 : ¬ nI q < (16 : Int32) := nI_nlt (b := 16) (by omega) (by omega)
        have nq16 : nI q = (16 : Int32) := by rw [show q = 16 by omega]; rfl
        refine OkI.same (-2) ⟨ow, J⟩ ?_ ?_
        · unfold c_X9_rule
          rw [x_isText, bI_some, if_pos c1, ite10, x_isDay, bI_some, if_pos c2, ite10]
          simp only [fT5 I, fT10 I, fR5_5 I, if_true, ltq, nnq, r1, if_neg q16]
        · unfold c_X10_rule
          rw [m_isText, bI_some, if_pos c1, ite10, m_isDay, bI_some, if_pos c2, ite10]
          simp only [fT46 I, if_true, r2, if_pos nq16]
    · refine OkI.same (-1) ⟨ow, J⟩ ?_ ?_
      · unfold c_X9_rule
        rw [x_isText, bI_some, if_pos c1, ite10, x_isDay, bI_some, if_neg c2, ite00]
      · unfold c_X10_rule
        rw [m_isText, bI_some, if_pos c1, ite10, m_isDay, bI_some, if_neg c2, ite00]
  · refine OkI.same (-1) ⟨ow, J⟩ ?_ ?_
    · unfold c_X9_rule
      rw [x_isText, bI_some, if_neg c1, ite00]
    · unfold c_X10_rule
      rw [m_isText, bI_some, if_neg c1, ite00]
end Rulo
