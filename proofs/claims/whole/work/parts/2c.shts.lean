section Ops7
variable {h : z_Hp} (F : Nat) (x1 x2 x3 x4 x5 : Int32)
theorem shAt.cong {ow ow' : Ow} {h h' : z_Hp} {t a : Nat} (R : shAt ow h t a) (eT : hT h' a = hT h a) (eO : ∀ i, ow' a i = ow a i) (eA : ∀ i, hI h' a i = hI h a i) (eR : hR h' a 4 = hR h a 4) (eM : ∀ b, 65 ≤ b → b ≤ 75 → hI h' b t = hI h b t) (e76 : ∀ k, k < 40 → hI h' 76 (40 * t + k) = hI h 76 (40 * t + k))
    (eC : ∀ b, hR h a 4 = some b → (∀ i, hI h' b i = hI h b i) ∧ hT h' b = hT h b ∧ hN h' b = hN h b ∧ ∀ i, ow' b i = ow b i) : shAt ow' h' t a := by
  obtain ⟨a1, a2, a3, b0, b1, b2, b3, b5, b6, b7, b8, b9, b10, ⟨b, n, c1, c2, c3, c4, c5, c6, c7⟩, r⟩ := R
  obtain ⟨d1, d2, d3, d4⟩ := eC b c1
  unfold shAt
  simp only [eA, eR, eM 65 (by decide) (by decide), eM 66 (by decide) (by decide), eM 67 (by decide) (by decide), eM 68 (by decide) (by decide), eM 69 (by decide) (by decide), eM 70 (by decide) (by decide), eM 71 (by decide) (by decide), eM 72 (by decide) (by decide), eM 73 (by decide) (by decide), eM 74 (by decide) (by decide), eM 75 (by decide) (by decide), eT]
  refine ⟨a1, fun i => (eO i).trans (a2 i), a3, b0, b1, b2, b3, b5, b6, b7, b8, b9, b10, ⟨b, n, c1, d2.trans c2, d3.trans c3, c4, c5, ?_, fun k hk => ?_⟩, r⟩
  · rcases c6 with e | ⟨e1, e2⟩
    · exact Or.inl e
    · exact Or.inr ⟨e1, fun i => (d4 i).trans (e2 i)⟩
  · rw [d1 k, c7 k hk, e76 k (by omega)]
/-- sheet s has been written over, in its cell and in the reference's rows at s -/
theorem Rshe.upd {ow : Ow} {h h' : z_Hp} {q s a : Nat} (hq : q ≤ 20) (hs : s < q) (h1 : hI h 14 1 = nI q) (h2 : hI h 46 26 = nI q) (h3 : ∀ s, s < q → ∃ a, hR h 15 s = some a ∧ shAt ow h s a) (h4 : ∀ s, q ≤ s → s < 20 → hI h 69 s = 0 ∧ hI h 70 s = 0 ∧ hI h 71 s = 0) (h5 : ∀ s t a, s < q → t < q → hR h 15 s = some a → hR h 15 t = some a → s = t)
    (ha : hR h 15 s = some a) (eT : ∀ b, hT h' b = hT h b ∧ hN h' b = hN h b) (eR : ∀ b i, hR h' b i = hR h b i) (eI : ∀ b i, b ≠ a → (b < 65 ∨ 75 ≤ b ∨ i ≠ s) → hI h' b i = hI h b i) (a94 : 94 ≤ a) (cut : ∀ b, hR h a 4 = some b → b ≠ a) (new : shAt ow h' s a) : Rshe ow h' := by
  refine ⟨q, hq, ?_, ?_, fun t ht => ?_, fun t h7 h8 => ?_, fun t u b h7 h8 h9 h10 => ?_⟩
  · rw [eI 14 1 (by omega) (by omega)]; exact h1
  · rw [eI 46 26 (by omega) (by omega)]; exact h2
  · by_cases e : t = s
    · subst e; exact ⟨a, by rw [eR]; exact ha, new⟩
    · obtain ⟨b, g1, g2⟩ := h3 t ht
      have hne : b ≠ a := fun e2 => e (h5 t s a ht hs (by rw [g1, e2]) ha)
      refine ⟨b, by rw [eR]; exact g1, g2.cong (eT b).1 (fun _ => rfl) (fun i => eI b i hne (Or.inr (Or.inl (by have := g2.2.2.1; omega)))) (eR b 4) (fun c _ _ => eI c t (by omega) (Or.inr (Or.inr e))) (fun k hk => eI 76 _ (by omega) (by omega)) (fun c hc => ?_)⟩
      obtain ⟨c', n, k1, k2, k3, k4, k5, k6, k7⟩ := g2.2.2.2.2.2.2.2.2.2.2.2.2.2.1
      rw [k1] at hc; cases hc
      have hca : c ≠ a := by
        intro e2
        rw [e2] at k2
        have := new.1
        rw [(eT a).1, k2, if_neg (by omega)] at this
        omega
      refine ⟨fun i => eI c i hca ?_, (eT c).1, (eT c).2, fun _ => rfl⟩
      rcases k6 with e3 | ⟨e3, -⟩
      · exact Or.inl (by omega)
      · exact Or.inr (Or.inl (by omega))
  · rw [eI 69 t (by omega) (by omega), eI 70 t (by omega) (by omega), eI 71 t (by omega) (by omega)]
    exact h4 t h7 h8
  · rw [eR] at h9 h10
    exact h5 t u b h7 h8 h9 h10
theorem x_isBits12 (x : Int32) : c_X9_isBits F x 12 h = some (if 0 ≤ x.toInt ∧ x.toInt ≤ 4095 then 1 else 0, h) := by
  unfold c_X9_isBits
  simp only [fa_lt, fa_le, ti_0, show ((1 : Int32) <<< ((12 : Int32) &&& 31)).toInt = 4096 from by decide]
  split
  · rw [if_neg (by omega)]
  · split
    · rw [if_neg (by omega)]
    · rw [if_pos (by omega)]
theorem x_isBits16 (x : Int32) : c_X9_isBits F x 16 h = some (if 0 ≤ x.toInt ∧ x.toInt ≤ 65535 then 1 else 0, h) := by
  unfold c_X9_isBits
  simp only [fa_lt, fa_le, ti_0, show ((1 : Int32) <<< ((16 : Int32) &&& 31)).toInt = 65536 from by decide]
  split
  · rw [if_neg (by omega)]
  · split
    · rw [if_neg (by omega)]
    · rw [if_pos (by omega)]
theorem shcut {ow : Ow} {a s b : Nat} (g : shAt ow h s a) (e : hR h a 4 = some b) : b ≠ a := by
  obtain ⟨c', n, k1, k2, k3, k4, k5, k6, k7⟩ := g.2.2.2.2.2.2.2.2.2.2.2.2.2.1
  rw [k1] at e; cases e
  intro e2
  have := g.1
  have h94 := g.2.2.1
  rw [e2] at k2
  rw [k2, if_neg (by omega)] at this
  omega
theorem op_block (J : Inv h) : OkI h (c_X9_block F 5 x1 x2 x3 h) (c_X10_block F 46 x1 x2 x3) := by
  obtain ⟨ow, J⟩ := J
  have o := J.1
  have I := J.2.1
  have R : Rshe ow h := J.2.2.2.2.2.2.2.2.2.2.2.2.2.1
  obtain ⟨q, hq, h1, h2, h3, h4, h5⟩ := R
  unfold c_X9_block c_X10_block
  by_cases c1 : 0 ≤ x1.toInt ∧ x1.toInt ≤ (q : Int) - 1
  · by_cases c2 : x2 = -9 ∨ (0 ≤ x2.toInt ∧ x2.toInt ≤ 5)
    · by_cases c3 : 0 ≤ x3.toInt ∧ x3.toInt ≤ 4095
      · obtain ⟨s, hs, rfl⟩ := rng (x := x1) (n := 19) ⟨c1.1, by omega⟩
        have hsq : s < q := by rw [toI_n (by omega)] at c1; omega
        obtain ⟨a, ha, g⟩ := h3 s hsq
        have a94 := g.2.2.1
        have b1 : okA h 15 26 (nI s) = true := okA_n (fT15 I) (fN15 I) (by omega) (by decide)
        have s1 : St [16] ow h (sI (sI h a 5 x2) a 6 x3) := ((St.r I).gI (by rw [g.2.1]; decide)).gI (by rw [g.2.1]; decide)
        have I1 := I.st o s1 (by decide)
        have h2' : hI (sI (sI h a 5 x2) a 6 x3) 46 26 = nI q := by rw [hI_sI, if_neg (by omega), hI_sI, if_neg (by omega)]; exact h2
        have s2 : St [16, 66] ow h (sI (sI (sI (sI h a 5 x2) a 6 x3) 68 s x2) 69 s x3) := ((s1.sub (by decide)).wI o 66 (by decide) rfl (by decide)).wI o 66 (by decide) rfl (by decide)
        refine ⟨1, sI (sI h a 5 x2) a 6 x3, sI (sI (sI (sI h a 5 x2) a 6 x3) 68 s x2) 69 s x3, ?_, ?_, ⟨ow, J.fin o s2 (OwX.refl _ _) (by decide) (c16 := fun _ => ?_)⟩, ?_, ?_⟩
        · rw [fT5 I, if_pos rfl, x_isSheet I hq h1, bI_some, if_pos c1, ite10, x_isBits12, bI_some, if_pos c3, ite10]
          have key : ∀ v, (if hT h 5 = 9 then lt_ (hR h 5 6) (fun o10 => nn o10 (fun a11 => if hT h a11 = 6 then lt_ (hR h a11 0) (fun o12 => nn o12 (fun a13 => if okA h a13 26 (nI s) = true then lt_ (hR h a13 (ix (nI s))) (fun o14 => nn o14 (fun a15 => if hT h a15 = 5 then lt_ (sI h a15 5 x2) (fun h16 => if hT h16 a15 = 5 then lt_ (sI h16 a15 6 x3) (fun h17 => some ((v : Int32), h17)) else none) else none)) else none)) else none)) else none) = some (v, sI (sI h a 5 x2) a 6 x3) := by
            intro v
            simp only [fT5 I, fT6 I, fT7 I, fT8 I, fT9 I, fT10 I, fT11 I, fT12 I, fT13 I, fT14 I, fT15 I, fT16 I, fT17 I, fT18 I, fT19 I, fT20 I, fT21 I, fT22 I, fT23 I, fT24 I, fT25 I, fT26 I, fT27 I, fT28 I, fT29 I, fT30 I, fT31 I, fT32 I, fT33 I, fT34 I, fT35 I, fT36 I, fT37 I, fT38 I, fT39 I, fT40 I, fT41 I, fT42 I, fT43 I, fT44 I, fT45 I, fR5_0 I, fR5_1 I, fR5_2 I, fR5_3 I, fR5_5 I, fR5_6 I, fR5_7 I, fR5_8 I, fR5_9 I, fR5_10 I, fR5_11 I, fR5_13 I, fR10_0 I, fR10_1 I, fR10_2 I, fR14_0 I, fR16_0 I, fR16_1 I, fR20_0 I, fR20_1 I, fR20_2 I, fR20_3 I, fR20_4 I, fR20_5 I, fR20_6 I, fR28_0 I, fR28_1 I, fR28_2 I, fR28_3 I, fR28_4 I, fR34_0 I, fR34_1 I, fR34_2 I, fR34_3 I, fR39_0 I, fR39_1 I, fR39_2 I, fR39_3 I, fR39_4 I, if_true, lt_, nn, b1, ix_n (show s < 2147483648 by omega), ha, g.1, hT_sI]
          rcases c2 with c2 | c2
          · rw [lt_, if_pos c2]; exact key 1
          · by_cases c4 : x2 = -9
            · rw [lt_, if_pos c4]; exact key 1
            · rw [lt_, if_neg c4, x_isBlock, bI_some, if_pos c2, ite10]; exact key 1
        · have b2 : okA (sI (sI h a 5 x2) a 6 x3) 68 20 (nI s) = true := okA_n (fT68 I1) (fN68 I1) (by omega) (by decide)
          have b3 : okA (sI (sI (sI h a 5 x2) a 6 x3) 68 s x2) 69 20 (nI s) = true := okA_n (fT69 I1) (fN69 I1) (by omega) (by decide)
          dsimp only
          rw [fT46 I1, if_pos rfl, m_isSheet I1 hq h2', bI_some, if_pos c1, ite10]
          have key : (bI (c_X10_in F x3 0 4095 (sI (sI h a 5 x2) a 6 x3)) (fun x9 h8 => (if x9 = 0 then (some ((-1), h8)) else (if hT h8 46 = 10 then (lt_ (hR h8 46 30) (fun o10 => (nn o10 (fun a11 => (if okA h8 a11 20 (nI s) = true then (lt_ (sI h8 a11 (ix (nI s)) x2) (fun h12 => (if hT h12 46 = 10 then (lt_ (hR h12 46 31) (fun o13 => (nn o13 (fun a14 => (if okA h12 a14 20 (nI s) = true then (lt_ (sI h12 a14 (ix (nI s)) x3) (fun h15 => (some ((1 : Int32), h15)))) else none))))) else none))) else none))))) else none)))) = some (1, sI (sI (sI (sI h a 5 x2) a 6 x3) 68 s x2) 69 s x3) := by
            rw [m_in, bI_some, ti_0, ti_4095, if_pos c3, ite10]
            simp only [fT46 I1, fR46_30 I1, if_true, lt_, nn, b2, ix_n (show s < 2147483648 by omega), hT_sI _ 68, hR_sI _ 68]
            simp only [hT_sI, hR_sI, fT46 I, fR46_31 I, if_true, b3]
          rcases c2 with c2 | c2
          · rw [lt_, if_pos c2]; exact key
          · by_cases c4 : x2 = -9
            · rw [lt_, if_pos c4]; exact key
            · rw [lt_, if_neg c4, m_in, bI_some, ti_0, ti_5, if_pos c2, ite10]; exact key
        · refine Rshe.upd hq hsq h1 h2 h3 h4 h5 ha (fun b => ⟨rfl, rfl⟩) (fun b i => rfl) (fun b i e1 e2 => ?_) a94 (fun b hb => shcut g hb) ?_
          · rw [hI_sI, if_neg (by omega), hI_sI, if_neg (by omega), hI_sI, if_neg (fun e => e1 e.1), hI_sI, if_neg (fun e => e1 e.1)]
          · obtain ⟨a1, a2, a3, b0, b1', b2, b3, b5, b6, b7, b8, b9, b10, ⟨b, n, k1, k2, k3, k4, k5, k6, k7⟩, r1, r2, r3, r4, r5, r6⟩ := g
            have hcut : b ≠ a := by
              intro e2
              rw [e2] at k2
              rw [k2, if_neg (by omega)] at a1
              omega
            unfold shAt
            refine ⟨a1, a2, a3, ?_, ?_, ?_, ?_, ?_, ?_, ?_, ?_, ?_, ?_, ⟨b, n, k1, k2, k3, k4, ?_, k6, fun k hk => ?_⟩, ?_, ?_, ?_, ?_, ?_, ?_⟩
            all_goals simp only [hI_sI, show ¬ (65 = a) by omega, show ¬ (66 = a) by omega, show ¬ (67 = a) by omega, show ¬ (68 = a) by omega, show ¬ (69 = a) by omega, show ¬ (70 = a) by omega, show ¬ (71 = a) by omega, show ¬ (72 = a) by omega, show ¬ (73 = a) by omega, show ¬ (74 = a) by omega, show ¬ (75 = a) by omega, show ¬ (76 = a) by omega, show ¬ (a = 68) by omega, show ¬ (a = 69) by omega, show ¬ b = a from hcut, false_and, if_false, true_and, and_true, if_true, Nat.reduceEqDiff]
            · exact b0
            · exact b1'
            · exact b2
            · exact b3
            · exact b7
            · exact b8
            · exact b9
            · exact b10
            · exact k5
            · rw [if_neg (by omega), if_neg (by omega)]; exact k7 k hk
            · exact r1
            · exact r2
            · exact r3
            · rcases c2 with c2 | c2
              · exact Or.inl c2
              · obtain ⟨k, hk, e⟩ := rng (x := x2) (n := 5) c2
                exact Or.inr ⟨k, by omega, e⟩
            · obtain ⟨k, hk, e⟩ := rng (x := x3) (n := 4095) c3
              exact ⟨k, by omega, e⟩
            · exact r6
        · show hZ h ≤ _; omega
        · show hS h ≤ _; omega
      · refine OkI.same (-1) ⟨ow, J⟩ ?_ ?_
        · rw [fT5 I, if_pos rfl, x_isSheet I hq h1, bI_some, if_pos c1, ite10, x_isBits12, bI_some, if_neg c3, ite00]
        · rw [fT46 I, if_pos rfl, m_isSheet I hq h2, bI_some, if_pos c1, ite10, lt_]
          by_cases c4 : x2 = -9
          · rw [if_pos c4]; dsimp only; rw [m_in, bI_some, ti_0, ti_4095, if_neg c3, ite00]
          · rw [if_neg c4, m_in, bI_some, ti_0, ti_5, if_pos (c2.resolve_left c4), ite10]; dsimp only; rw [m_in, bI_some, ti_0, ti_4095, if_neg c3, ite00]
    · have c4 : ¬ x2 = -9 := fun e => c2 (Or.inl e)
      have c5 : ¬ (0 ≤ x2.toInt ∧ x2.toInt ≤ 5) := fun e => c2 (Or.inr e)
      refine OkI.same (-1) ⟨ow, J⟩ ?_ ?_
      · rw [fT5 I, if_pos rfl, x_isSheet I hq h1, bI_some, if_pos c1, ite10, x_isBits12, bI_some]
        by_cases c3 : 0 ≤ x3.toInt ∧ x3.toInt ≤ 4095
        · rw [if_pos c3, ite10, lt_, if_neg c4, x_isBlock, bI_some, if_neg c5, ite00]
        · rw [if_neg c3, ite00]
      · rw [fT46 I, if_pos rfl, m_isSheet I hq h2, bI_some, if_pos c1, ite10, lt_, if_neg c4, m_in, bI_some, ti_0, ti_5, if_neg c5, ite00]
  · refine OkI.same (-1) ⟨ow, J⟩ ?_ ?_
    · rw [fT5 I, if_pos rfl, x_isSheet I hq h1, bI_some, if_neg c1, ite00]
    · rw [fT46 I, if_pos rfl, m_isSheet I hq h2, bI_some, if_neg c1, ite00]
end Ops7
