section OpsO
variable {h : z_Hp} (F : Nat) (x1 x2 x3 x4 x5 : Int32)
def seen (f : Nat → Int32) : Nat → Nat
  | 0 => 0
  | i + 1 => seen f i ||| 2 ^ ix (f i)
/-- at place i it can't go on -/
def badO (M : Nat → Nat → Int32) (b : Int32) (q : Nat) (f : Nat → Int32) (i : Nat) : Prop := ¬ (0 ≤ (f i).toInt ∧ (f i).toInt ≤ (q : Int) - 1) ∨ ¬ M 68 (ix (f i)) = b ∨ (seen f i).testBit (ix (f i)) = true ∨ ∃ t, t < q ∧ (seen f i).testBit t = true ∧ ahd M (ix (f i)) t = true
theorem seen_ok {M : Nat → Nat → Int32} {b : Int32} {q : Nat} {f : Nat → Int32} (hq : q ≤ 20) : ∀ k, (∀ i, i < k → ¬ badO M b q f i) → seen f k < 1048576 ∧ pcn (seen f k) 20 = k
  | 0, _ => ⟨by show 0 < 1048576; decide, by show pcn 0 20 = 0; decide +kernel⟩
  | k + 1, g => by
    obtain ⟨a1, a2⟩ := seen_ok hq k (fun i hi => g i (by omega))
    have nb := g k (by omega)
    have r : 0 ≤ (f k).toInt ∧ (f k).toInt ≤ (q : Int) - 1 := Classical.byContradiction (fun e => nb (Or.inl e))
    obtain ⟨s, hs, es⟩ := rng (x := f k) (n := 19) ⟨r.1, by omega⟩
    have e1 : ix (f k) = s := by rw [es]; exact ix_n (by omega)
    have ns : (seen f k).testBit s = false := by
      cases e : (seen f k).testBit s with
      | true => exact absurd (Or.inr (Or.inr (Or.inl (by rw [e1]; exact e)))) nb
      | false => rfl
    have u : seen f (k + 1) = seen f k ||| 2 ^ s := by show seen f k ||| 2 ^ ix (f k) = _; rw [e1]
    rw [u]
    refine ⟨or_big a1 (by omega), ?_⟩
    have := fb_ct_upd (fun i => (seen f k).testBit i) true (i := s) (n := 20) (by omega)
    rw [ns] at this
    have e2 : pcn (seen f k ||| 2 ^ s) 20 = fb_ct (fun j => if j = s then true else (seen f k).testBit j) 20 := fb_ct_cong (fun j hj => by
      rw [fb_bit_set]
      by_cases e : j = s
      · simp [e]
      · simp [e])
    have e3 : fb_ct (fun i => (seen f k).testBit i) 20 = k := a2
    rw [e2]
    simp only [if_true, Bool.false_eq_true, if_false] at this
    omega
section JA
variable {ow : Ow} {q : Nat}
theorem x_anyA (I : Ifx h) (hF : 5000 ≤ F) (hq : q ≤ 20) (h1 : hI h 14 1 = nI q) (h3 : ∀ s, s < q → ∃ a, hR h 15 s = some a ∧ shAt ow h s a) {s V : Nat} (hs : s < q) (hV : V < 1048576) : (∀ t, t < q → ¬ (V.testBit t = true ∧ ahd (mm h) s t = true)) ∧ c_X6_isAheadOfAny F 14 (nI s) (nI V) h = some (0, h) ∨ (∃ t, t < q ∧ V.testBit t = true ∧ ahd (mm h) s t = true) ∧ c_X6_isAheadOfAny F 14 (nI s) (nI V) h = some (1, h) := by
  unfold c_X6_isAheadOfAny
  obtain ⟨a, ha, g⟩ := h3 s hs
  have b0 : okA h 15 26 (nI s) = true := okA_n (fT15 I) (fN15 I) (by omega) (by decide)
  have run : ∀ m t, t < q → c_X6_isAheadOfAny_L2 F 14 (nI s) (nI V) (m + 1) (nI t) h = if V.testBit t = true ∧ ahd (mm h) s t = true then some (1, h) else c_X6_isAheadOfAny_L2 F 14 (nI s) (nI V) m (nI (t + 1)) h := by
    intro m t ht
    obtain ⟨b, hb, g'⟩ := h3 t ht
    have b1 : okA h 15 26 (nI t) = true := okA_n (fT15 I) (fN15 I) (by omega) (by decide)
    rw [c_X6_isAheadOfAny_L2, fT14 I, if_pos rfl, h1, if_neg (nI_ge ht (by omega)), x_has F (by omega) (by omega), bI_some]
    dsimp only [lt_]
    by_cases c : V.testBit t = true
    · rw [if_pos c, ite10, fT14 I, if_pos rfl, fR14_0 I]
      dsimp only [nn]
      rw [if_pos b0, ix_n (by omega), ha, if_pos rfl, if_pos b1, ix_n (by omega), hb]
      dsimp only
      rw [g.1, if_pos rfl, x_ahd F g g', bI_some]
      by_cases c2 : ahd (mm h) s t = true
      · rw [if_pos c2, ite10, if_pos ⟨c, c2⟩]
      · rw [if_neg c2, ite00, if_neg (fun e => c2 e.2), nI_1]
    · rw [if_neg c, ite00, if_neg (fun e => c e.1), nI_1]
  by_cases c : ∃ t, t < q ∧ (V.testBit t = true ∧ ahd (mm h) s t = true)
  · right
    obtain ⟨i, g1, g2, g3⟩ := fb_first c
    refine ⟨⟨i, g1, g2⟩, ?_⟩
    refine lpS (L := fun m (u : Int32) => c_X6_isAheadOfAny_L2 F 14 (nI s) (nI V) m u h) (fun k => nI k) i (fun m k hk => by show c_X6_isAheadOfAny_L2 F 14 (nI s) (nI V) (m + 1) (nI k) h = _; rw [run m k (by omega), if_neg (g3 k hk)]) (fun m => ?_) F (by omega)
    show c_X6_isAheadOfAny_L2 F 14 (nI s) (nI V) (m + 1) (nI i) h = _
    rw [run m i g1, if_pos g2]
  · left
    refine ⟨fun t ht e => c ⟨t, ht, e⟩, ?_⟩
    refine lpS (L := fun m (u : Int32) => c_X6_isAheadOfAny_L2 F 14 (nI s) (nI V) m u h) (fun k => nI k) q (fun m k hk => by show c_X6_isAheadOfAny_L2 F 14 (nI s) (nI V) (m + 1) (nI k) h = _; rw [run m k hk, if_neg (fun e => c ⟨k, hk, e⟩)]) (fun m => ?_) F (by omega)
    show c_X6_isAheadOfAny_L2 F 14 (nI s) (nI V) (m + 1) (nI q) h = _
    rw [c_X6_isAheadOfAny_L2, fT14 I, if_pos rfl, h1, if_pos (nI_le (Nat.le_refl q) (by omega))]
theorem m_anyA (I : Ifx h) (hF : 5000 ≤ F) (hq : q ≤ 20) (h1 : hI h 46 26 = nI q) {s V : Nat} (hs : s < q) (hV : V < 1048576) (y1 y2 y3 : Int32) (K : z_Hp → Option (Int32 × z_Hp)) : (∀ t, t < q → ¬ (V.testBit t = true ∧ ahd (mm h) s t = true)) ∧ c_X10_judgeOrder_L98 F 46 y1 y2 (nI V) y3 (nI s) K F 0 h = K h ∨ (∃ t, t < q ∧ V.testBit t = true ∧ ahd (mm h) s t = true) ∧ c_X10_judgeOrder_L98 F 46 y1 y2 (nI V) y3 (nI s) K F 0 h = some (y3, h) := by
  have run : ∀ m t, t < q → c_X10_judgeOrder_L98 F 46 y1 y2 (nI V) y3 (nI s) K (m + 1) (nI t) h = if V.testBit t = true ∧ ahd (mm h) s t = true then some (y3, h) else c_X10_judgeOrder_L98 F 46 y1 y2 (nI V) y3 (nI s) K m (nI (t + 1)) h := by
    intro m t ht
    rw [c_X10_judgeOrder_L98, fT46 I, if_pos rfl, h1, if_neg (nI_ge ht (by omega)), m_has F (by omega) (by omega), bI_some]
    dsimp only [lt_]
    by_cases c : V.testBit t = true
    · rw [if_pos c, ite10, fT46 I, if_pos rfl, m_ahd F I (by omega) (by omega), bI_some]
      by_cases c2 : ahd (mm h) s t = true
      · rw [if_pos c2, ite10, if_pos ⟨c, c2⟩]
      · rw [if_neg c2, ite00, if_neg (fun e => c2 e.2), nI_1]
    · rw [if_neg c, ite00, if_neg (fun e => c e.1), nI_1]
  by_cases c : ∃ t, t < q ∧ (V.testBit t = true ∧ ahd (mm h) s t = true)
  · right
    obtain ⟨i, g1, g2, g3⟩ := fb_first c
    refine ⟨⟨i, g1, g2⟩, ?_⟩
    refine lpS (L := fun m (u : Int32) => c_X10_judgeOrder_L98 F 46 y1 y2 (nI V) y3 (nI s) K m u h) (fun k => nI k) i (fun m k hk => by show c_X10_judgeOrder_L98 F 46 y1 y2 (nI V) y3 (nI s) K (m + 1) (nI k) h = _; rw [run m k (by omega), if_neg (g3 k hk)]) (fun m => ?_) F (by omega)
    show c_X10_judgeOrder_L98 F 46 y1 y2 (nI V) y3 (nI s) K (m + 1) (nI i) h = _
    rw [run m i g1, if_pos g2]
  · left
    refine ⟨fun t ht e => c ⟨t, ht, e⟩, ?_⟩
    refine lpS (L := fun m (u : Int32) => c_X10_judgeOrder_L98 F 46 y1 y2 (nI V) y3 (nI s) K m u h) (fun k => nI k) q (fun m k hk => by show c_X10_judgeOrder_L98 F 46 y1 y2 (nI V) y3 (nI s) K (m + 1) (nI k) h = _; rw [run m k hk, if_neg (fun e => c ⟨k, hk, e⟩)]) (fun m => ?_) F (by omega)
    show c_X10_judgeOrder_L98 F 46 y1 y2 (nI V) y3 (nI s) K (m + 1) (nI q) h = _
    rw [c_X10_judgeOrder_L98, fT46 I, if_pos rfl, h1, if_pos (nI_le (Nat.le_refl q) (by omega))]
theorem x_joStep (I : Ifx h) (hF : 5000 ≤ F) (hq : q ≤ 20) (h1 : hI h 14 1 = nI q) (h3 : ∀ s, s < q → ∃ a, hR h 15 s = some a ∧ shAt ow h s a) (b : Int32) {a n : Nat} (t1 : hT h a = 20) (t2 : hN h a = n) (hn : n ≤ 40) {f : Nat → Int32} (hf : ∀ k, k < n → hI h a k = f k) (K : z_Hp → Option (Int32 × z_Hp)) (m i : Nat) (hi : i < n) (hV : seen f i < 1048576) : (badO (mm h) b q f i ∧ c_X6_firstOutOfOrder_L5 F 14 b (some a) K (m + 1) (nI (seen f i)) (nI i) h = some (nI i, h)) ∨ (¬ badO (mm h) b q f i ∧ c_X6_firstOutOfOrder_L5 F 14 b (some a) K (m + 1) (nI (seen f i)) (nI i) h = c_X6_firstOutOfOrder_L5 F 14 b (some a) K m (nI (seen f (i + 1))) (nI (i + 1)) h) := by
  have b1 : okL h a = true := okL_n t1 (by decide) (by decide)
  have b2 : okA h a 20 (nI i) = true := okA_n t1 t2 hi (by omega)
  have st : c_X6_firstOutOfOrder_L5 F 14 b (some a) K (m + 1) (nI (seen f i)) (nI i) h = (if f i < 0 then some (nI i, h) else if nI q ≤ f i then some (nI i, h) else (if okA h 15 26 (f i) = true then (nn (hR h 15 (ix (f i))) (fun a15 => (if hT h a15 = 5 then (if (hI h a15 5) = b then (bI (c_X9_has F (nI (seen f i)) (f i) h) (fun x17 h16 => (if x17 = 0 then (if hT h16 14 = 6 then (bI (c_X6_isAheadOfAny F 14 (f i) (nI (seen f i)) h16) (fun x19 h18 => (if x19 = 0 then (lt_ ((nI (seen f i)) ||| (1 <<< ((f i) &&& 31))) (fun x20 => (lt_ (nI i + 1) (fun x21 => (c_X6_firstOutOfOrder_L5 F 14 b (some a) K m x20 x21 h18))))) else (some (nI i, h18))))) else none) else (some (nI i, h16))))) else (some (nI i, h))) else none))) else none)) := by
    rw [c_X6_firstOutOfOrder_L5]
    simp only [nnq, b1, if_true, t2, if_neg (nI_ge hi (show n < 2 ^ 31 by omega)), b2, ltq, ix_n (show i < 2147483648 by omega), hf i hi, fT14 I, h1, fR14_0 I]
  rw [st]
  by_cases c0 : 0 ≤ (f i).toInt ∧ (f i).toInt ≤ (q : Int) - 1
  · obtain ⟨s, hs, es⟩ := rng (x := f i) (n := 19) ⟨c0.1, by omega⟩
    have e1 : ix (f i) = s := by rw [es]; exact ix_n (by omega)
    have hsq : s < q := by rw [es, toI_n (by omega)] at c0; omega
    obtain ⟨c, hc, g⟩ := h3 s hsq
    have b3 : okA h 15 26 (nI s) = true := okA_n (fT15 I) (fN15 I) (by omega) (by decide)
    have u : seen f (i + 1) = seen f i ||| 2 ^ s := by show seen f i ||| 2 ^ ix (f i) = _; rw [e1]
    unfold badO
    rw [e1, u, es, if_neg (pnI (by omega)), if_neg (nI_ge hsq (by omega)), if_pos b3, hc]
    dsimp only [nn]
    rw [g.1, if_pos rfl, g.2.2.2.2.2.2.2.1, show mm h 68 s = hI h 68 s from rfl, ← es]
    by_cases d1 : hI h 68 s = b
    · rw [if_pos d1, es, x_has F (by omega) (by omega), bI_some]
      by_cases d2 : (seen f i).testBit s = true
      · rw [if_pos d2, if_neg one0]
        exact Or.inl ⟨Or.inr (Or.inr (Or.inl d2)), rfl⟩
      · rw [if_neg d2, if_pos rfl, fT14 I, if_pos rfl]
        rcases x_anyA F I hF hq h1 h3 hsq hV with ⟨k1, k2⟩ | ⟨k1, k2⟩
        · rw [k2, bI_some, if_pos rfl, shl_1 s (by omega), fa_or, nI_1]
          refine Or.inr ⟨fun e => ?_, rfl⟩
          rcases e with e | e | e | ⟨t, ht, e⟩
          · rw [← es] at e; exact e c0
          · exact e d1
          · exact d2 e
          · exact k1 t ht e
        · rw [k2, bI_some, if_neg one0]
          exact Or.inl ⟨Or.inr (Or.inr (Or.inr k1)), rfl⟩
    · rw [if_neg d1]
      exact Or.inl ⟨Or.inr (Or.inl d1), rfl⟩
  · refine Or.inl ⟨Or.inl c0, ?_⟩
    by_cases d : f i < 0
    · rw [if_pos d]
    · rw [if_neg d, if_pos (by rw [fa_le, toI_n (by omega)]; rw [fa_lt, ti_0] at d; omega)]
theorem m_joStep (I : Ifx h) (hF : 5000 ≤ F) (hq : q ≤ 20) (h1 : hI h 46 26 = nI q) (b : Int32) {r n : Nat} (hr : r < 6) (e48 : hI h 48 r = nI n) (hn : n ≤ 40) (K : Int32 → z_Hp → Option (Int32 × z_Hp)) (m i : Nat) (hi : i < n) (hV : seen (fun k => hI h 49 (40 * r + k)) i < 1048576) : (badO (mm h) b q (fun k => hI h 49 (40 * r + k)) i ∧ c_X10_judgeOrder_L38 F 46 b (nI r) K (m + 1) (nI (seen (fun k => hI h 49 (40 * r + k)) i)) (nI i) h = some (nI i, h)) ∨ (¬ badO (mm h) b q (fun k => hI h 49 (40 * r + k)) i ∧ c_X10_judgeOrder_L38 F 46 b (nI r) K (m + 1) (nI (seen (fun k => hI h 49 (40 * r + k)) i)) (nI i) h = c_X10_judgeOrder_L38 F 46 b (nI r) K m (nI (seen (fun k => hI h 49 (40 * r + k)) (i + 1))) (nI (i + 1)) h) := by
  have b1 : okA h 48 20 (nI r) = true := okA_n (fT48 I) (fN48 I) (by omega) (by decide)
  have b2 : okA h 49 20 (nI (40 * r + i)) = true := okA_n (fT49 I) (fN49 I) (by omega) (by decide)
  have e1 : (40 : Int32) * nI r + nI i = nI (40 * r + i) := by rw [show (40 : Int32) = nI 40 from rfl, nI_mul, nI_add]
  have ef : hI h 49 (40 * r + i) = (fun k => hI h 49 (40 * r + k)) i := rfl
  generalize hfd : (fun k => hI h 49 (40 * r + k)) = f at ef hV ⊢
  rw [c_X10_judgeOrder_L38, fT46 I, if_pos rfl, fR46_7 I]
  dsimp only [lt_, nn]
  rw [if_pos b1, ix_n (by omega), e48, if_neg (nI_ge hi (by omega)), if_pos rfl, fR46_8 I]
  dsimp only
  rw [e1, if_pos b2, ix_n (by omega), ef, if_pos rfl, m_isSheet I hq h1, bI_some]
  by_cases c0 : 0 ≤ (f i).toInt ∧ (f i).toInt ≤ (q : Int) - 1
  · obtain ⟨s, hs, es⟩ := rng (x := f i) (n := 19) ⟨c0.1, by omega⟩
    have e2 : ix (f i) = s := by rw [es]; exact ix_n (by omega)
    have hsq : s < q := by rw [es, toI_n (by omega)] at c0; omega
    have b3 : okA h 68 20 (nI s) = true := okA_n (fT68 I) (fN68 I) (by omega) (by decide)
    have u : seen f (i + 1) = seen f i ||| 2 ^ s := by show seen f i ||| 2 ^ ix (f i) = _; rw [e2]
    unfold badO
    rw [if_pos c0, if_neg one0, fT46 I, if_pos rfl, fR46_30 I, e2, u]
    dsimp only
    rw [es, if_pos b3, ← es, show mm h 68 s = hI h 68 s from rfl]
    by_cases d1 : hI h 68 s = b
    · rw [if_pos d1, es, m_has F (by omega) (by omega), bI_some]
      by_cases d2 : (seen f i).testBit s = true
      · rw [if_pos d2, if_neg one0]
        exact Or.inl ⟨Or.inr (Or.inr (Or.inl d2)), rfl⟩
      · rw [if_neg d2, if_pos rfl, shl_1 s (by omega), fa_or, nI_1]
        rcases m_anyA F I hF hq h1 hsq hV b (nI r) (nI i) (fun h44 => c_X10_judgeOrder_L38 F 46 b (nI r) K m (nI (seen f i ||| 2 ^ s)) (nI (i + 1)) h44) with ⟨k1, k2⟩ | ⟨k1, k2⟩
        · rw [k2]
          refine Or.inr ⟨fun e => ?_, rfl⟩
          rcases e with e | e | e | ⟨t, ht, e⟩
          · rw [← es] at e; exact e c0
          · exact e d1
          · exact d2 e
          · exact k1 t ht e
        · rw [k2]
          exact Or.inl ⟨Or.inr (Or.inr (Or.inr k1)), rfl⟩
    · rw [if_neg d1]
      exact Or.inl ⟨Or.inr (Or.inl d1), rfl⟩
  · rw [if_neg c0, if_pos rfl]
    exact Or.inl ⟨Or.inl c0, rfl⟩
end JA
theorem op_judgeOrder (hF : 5000 ≤ F) (J : Inv h) : OkI h (c_X9_judgeOrder F 5 x1 x2 h) (c_X10_judgeOrder F 46 x1 x2) := by
  obtain ⟨ow, J⟩ := J
  have o := J.1
  have I := J.2.1
  obtain ⟨q, hq, h1, h2, h3, h4, h5⟩ := J.she
  unfold c_X9_judgeOrder c_X10_judgeOrder
  by_cases c1 : 0 ≤ x1.toInt ∧ x1.toInt ≤ 5
  · by_cases c2 : 0 ≤ x2.toInt ∧ x2.toInt ≤ 5
    · obtain ⟨r, hr, rfl⟩ := rng (x := x2) (n := 5) c2
      have b1 : okA h 6 23 (nI r) = true := okA_n (fT6 I) (fN6 I) (by omega) (by decide)
      rcases J.row.1 r (by omega) with ⟨g1, g2⟩ | ⟨n, a, g1, g2, g3, g4, g5, g6, g7, g8⟩
      · refine OkI.found0 (F := F) 1 (by decide) J ?_ (fun h' w => ?_)
        · show _ = c_X9_found F 5 1 h
          rw [x_isBlock, bI_some, if_pos c1, ite10, x_isRow, bI_some, if_pos c2, ite10]
          simp only [fT5 I, fT6 I, fT7 I, fT8 I, fT9 I, fT10 I, fT11 I, fT12 I, fT13 I, fT14 I, fT15 I, fT16 I, fT17 I, fT18 I, fT19 I, fT20 I, fT21 I, fT22 I, fT23 I, fT24 I, fT25 I, fT26 I, fT27 I, fT28 I, fT29 I, fT30 I, fT31 I, fT32 I, fT33 I, fT34 I, fT35 I, fT36 I, fT37 I, fT38 I, fT39 I, fT40 I, fT41 I, fT42 I, fT43 I, fT44 I, fT45 I, fR5_0 I, fR5_1 I, fR5_2 I, fR5_3 I, fR5_5 I, fR5_6 I, fR5_7 I, fR5_8 I, fR5_9 I, fR5_10 I, fR5_11 I, fR5_13 I, fR10_0 I, fR10_1 I, fR10_2 I, fR14_0 I, fR16_0 I, fR16_1 I, fR20_0 I, fR20_1 I, fR20_2 I, fR20_3 I, fR20_4 I, fR20_5 I, fR20_6 I, fR28_0 I, fR28_1 I, fR28_2 I, fR28_3 I, fR28_4 I, fR34_0 I, fR34_1 I, fR34_2 I, fR34_3 I, fR39_0 I, fR39_1 I, fR39_2 I, fR39_3 I, fR39_4 I, if_true, ltq, nnq, b1, ix_n (show r < 2147483648 by omega), g2, nlz, bI_id]
        · have I' := I.st o w (by decide)
          have e : hI h' 48 r = -9 := (w.fam I o (c := 60) (by decide) 48 r (by omega) rfl).1.trans g1
          have b8 : okA h' 48 20 (nI r) = true := okA_n (fT48 I') (fN48 I') (by omega) (by decide)
          show _ = c_X10_meets F 46 1 h'
          rw [m_in, bI_some, ti_0, ti_5, if_pos c1, ite10, m_isRow, bI_some, if_pos c2, ite10]
          rw [fT46 I', if_pos rfl, fR46_7 I']
          dsimp only [lt_, nn]
          rw [if_pos b8, ix_n (by omega), e, if_neg nn9, if_pos rfl, bI_id]
      · have b8 : okA h 48 20 (nI r) = true := okA_n (fT48 I) (fN48 I) (by omega) (by decide)
        have b5 : okL h a = true := okL_n g4 (by decide) (by decide)
        obtain ⟨KX, hKX⟩ : ∃ K : z_Hp → Option (Int32 × z_Hp), K = (fun h22 => (nn (some a) (fun a23 => (if okL h22 a23 = true then (if hT h22 14 = 6 then (bI (c_X6_withBlock F 14 x1 h22) (fun x25 h24 => (if x25 ≤ (nI (hN h22 a23)) then (some ((-9), h24)) else (if okL h24 a23 = true then (some (nI (hN h24 a23), h24)) else none)))) else none) else none)))) := ⟨_, rfl⟩
        obtain ⟨KM, hKM⟩ : ∃ K : Int32 → z_Hp → Option (Int32 × z_Hp), K = (fun x47 h48 => (if hT h48 46 = 10 then (bV (c_X10_setOrder F 46 x1 h48) (fun h49 => (bI (c_X10_bits F x47 h49) (fun x51 h50 => (if hT h50 46 = 10 then (if (hI h50 46 39) ≤ x51 then (some ((-9), h50)) else (if hT h50 46 = 10 then (lt_ (hR h50 46 7) (fun o52 => (nn o52 (fun a53 => (if okA h50 a53 20 (nI r) = true then (some (hI h50 a53 (ix (nI r)), h50)) else none))))) else none)) else none))))) else none)) := ⟨_, rfl⟩
        have X : (bI (c_X9_isBlock F x1 h) (fun x4 h3 => (if x4 = 0 then (some ((-1), h3)) else (bI (c_X9_isRow F (nI r) h3) (fun x6 h5 => (if x6 = 0 then (some ((-1), h5)) else (if hT h5 5 = 9 then (lt_ (hR h5 5 0) (fun o7 => (nn o7 (fun a8 => (if okA h5 a8 23 (nI r) = true then (lt_ (hR h5 a8 (ix (nI r))) (fun o9 => (nl o9 (if hT h5 5 = 9 then (bI (c_X9_found F 5 1 h5) (fun x12 h11 => (some (x12, h11)))) else none) (fun a10 => (if hT h5 5 = 9 then (lt_ (hR h5 5 6) (fun o13 => (nn o13 (fun a14 => (if hT h5 a14 = 6 then (bI (c_X6_firstOutOfOrder F a14 x1 (some a10) h5) (fun x16 h15 => (some (x16, h15)))) else none))))) else none))))) else none))))) else none))))))) = c_X6_firstOutOfOrder_L5 F 14 x1 (some a) KX F 0 0 h := by
          rw [x_isBlock, bI_some, if_pos c1, ite10, x_isRow, bI_some, if_pos c2, ite10]
          simp only [fT5 I, fT6 I, fT7 I, fT8 I, fT9 I, fT10 I, fT11 I, fT12 I, fT13 I, fT14 I, fT15 I, fT16 I, fT17 I, fT18 I, fT19 I, fT20 I, fT21 I, fT22 I, fT23 I, fT24 I, fT25 I, fT26 I, fT27 I, fT28 I, fT29 I, fT30 I, fT31 I, fT32 I, fT33 I, fT34 I, fT35 I, fT36 I, fT37 I, fT38 I, fT39 I, fT40 I, fT41 I, fT42 I, fT43 I, fT44 I, fT45 I, fR5_0 I, fR5_1 I, fR5_2 I, fR5_3 I, fR5_5 I, fR5_6 I, fR5_7 I, fR5_8 I, fR5_9 I, fR5_10 I, fR5_11 I, fR5_13 I, fR10_0 I, fR10_1 I, fR10_2 I, fR14_0 I, fR16_0 I, fR16_1 I, fR20_0 I, fR20_1 I, fR20_2 I, fR20_3 I, fR20_4 I, fR20_5 I, fR20_6 I, fR28_0 I, fR28_1 I, fR28_2 I, fR28_3 I, fR28_4 I, fR34_0 I, fR34_1 I, fR34_2 I, fR34_3 I, fR39_0 I, fR39_1 I, fR39_2 I, fR39_3 I, fR39_4 I, if_true, ltq, nnq, b1, ix_n (show r < 2147483648 by omega), g3, nlq, bI_id]
          rw [hKX]; rfl
        have M : ∀ g, Ifx g → hI g 48 r = nI n → (bI (c_X10_in F x1 0 5 g) (fun x4 h3 => (if x4 = 0 then (some ((-1), h3)) else (bI (c_X10_isRow F (nI r) h3) (fun x6 h5 => (if x6 = 0 then (some ((-1), h5)) else (if hT h5 46 = 10 then (lt_ (hR h5 46 7) (fun o7 => (nn o7 (fun a8 => (if okA h5 a8 20 (nI r) = true then (if 0 ≤ (hI h5 a8 (ix (nI r))) then (c_X10_judgeOrder_L38 F 46 x1 (nI r) KM F 0 0 h5) else (if hT h5 46 = 10 then (bI (c_X10_meets F 46 1 h5) (fun x55 h54 => (some (x55, h54)))) else none)) else none))))) else none))))))) = c_X10_judgeOrder_L38 F 46 x1 (nI r) KM F 0 0 g := by
          intro g Ig eg
          have bg : okA g 48 20 (nI r) = true := okA_n (fT48 Ig) (fN48 Ig) (by omega) (by decide)
          rw [m_in, bI_some, ti_0, ti_5, if_pos c1, ite10, m_isRow, bI_some, if_pos c2, ite10, fT46 Ig, if_pos rfl, fR46_7 Ig]
          dsimp only [lt_, nn]
          rw [if_pos bg, ix_n (by omega), eg, if_pos (nge (by omega))]
        have XS := x_joStep F I hF hq h1 h3 x1 g4 g5 g1 (f := fun k => hI h 49 (40 * r + k)) g8 KX
        have MS := m_joStep F I hF hq h2 x1 (show r < 6 by omega) g2 g1 KM
        generalize hfd : (fun k => hI h 49 (40 * r + k)) = f at XS MS
        by_cases c : ∃ i, i < n ∧ badO (mm h) x1 q f i
        · obtain ⟨i, i1, i2, i3⟩ := Classical.byContradiction (fun hh : ¬ ∃ i, i < n ∧ badO (mm h) x1 q f i ∧ ∀ j, j < i → ¬ badO (mm h) x1 q f j => by
            have all : ∀ k i, i < k → i < n → ¬ badO (mm h) x1 q f i := by
              intro k
              induction k with
              | zero => intro i hi; omega
              | succ k ih =>
                intro i hi hin hb
                by_cases e : i = k
                · subst e; exact hh ⟨i, hin, hb, fun j hj => ih j hj (by omega)⟩
                · exact ih i (by omega) hin hb
            obtain ⟨i, i1, i2⟩ := c
            exact all (i + 1) i (by omega) i1 i2)
          have ok : ∀ j, j ≤ i → seen f j < 1048576 := fun j hj => (seen_ok hq j (fun k hk => i3 k (by omega))).1
          refine OkI.same (nI i) ⟨ow, J⟩ (X.trans ?_) ?_
          · refine lpS (L := fun m (u : Int32 × Int32) => c_X6_firstOutOfOrder_L5 F 14 x1 (some a) KX m u.1 u.2 h) (fun k => (nI (seen f k), nI k)) i (fun m k hk => ?_) (fun m => ?_) F (by omega)
            · rcases XS m k (by omega) (ok k (by omega)) with ⟨e1, e2⟩ | ⟨e1, e2⟩
              · exact absurd e1 (i3 k hk)
              · exact e2
            · rcases XS m i i1 (ok i (by omega)) with ⟨e1, e2⟩ | ⟨e1, e2⟩
              · exact e2
              · exact absurd i2 e1
          · subst hKM
            refine (M h I g2).trans ?_
            refine lpS (L := fun m (u : Int32 × Int32) => c_X10_judgeOrder_L38 F 46 x1 (nI r) _ m u.1 u.2 h) (fun k => (nI (seen f k), nI k)) i (fun m k hk => ?_) (fun m => ?_) F (by omega)
            · rcases MS m k (by omega) (ok k (by omega)) with ⟨e1, e2⟩ | ⟨e1, e2⟩
              · exact absurd e1 (i3 k hk)
              · exact e2
            · rcases MS m i i1 (ok i (by omega)) with ⟨e1, e2⟩ | ⟨e1, e2⟩
              · exact e2
              · exact absurd i2 e1
        · have nb : ∀ i, i < n → ¬ badO (mm h) x1 q f i := fun i hi e => c ⟨i, hi, e⟩
          have ok : ∀ j, j ≤ n → seen f j < 1048576 := fun j hj => (seen_ok hq j (fun k hk => nb k (by omega))).1
          obtain ⟨z1, z2⟩ := seen_ok hq n nb
          have le := fb_ct_le (bk (mm h) x1) q
          obtain ⟨h', d1, d2, d3, d4, d5⟩ := m_setO F I hF hq h2 x1
          have sS : St [104] ow h h' := d2.st I o (fun a i e => by
            rcases e with ⟨rfl, rfl⟩ | rfl | rfl
            · exact ⟨by decide, by decide⟩
            · exact ⟨by decide, List.mem_cons_self⟩
            · exact ⟨by decide, List.mem_cons_self⟩)
          have I' := d2.fx I
          have e48 : hI h' 48 r = nI n := (d2.1 48 r (by omega)).trans g2
          have b9 : okA h' 48 20 (nI r) = true := okA_n (fT48 I') (fN48 I') (by omega) (by decide)
          have zz := d2.Z
          refine ⟨if nI (fb_ct (bk (mm h) x1) q) ≤ nI n then -9 else nI n, h, h', X.trans ?_, ?_, ⟨ow, J.fin o sS (OwX.refl _ _) (by decide)⟩, by rw [zz.1]; omega, by rw [zz.2]; omega⟩
          · have key : c_X6_firstOutOfOrder_L5 F 14 x1 (some a) KX F 0 0 h = KX h := by
              refine lpS (L := fun m (u : Int32 × Int32) => c_X6_firstOutOfOrder_L5 F 14 x1 (some a) KX m u.1 u.2 h) (fun k => (nI (seen f k), nI k)) n (fun m k hk => ?_) (fun m => ?_) F (by omega)
              · rcases XS m k hk (ok k (by omega)) with ⟨e1, e2⟩ | ⟨e1, e2⟩
                · exact absurd e1 (nb k hk)
                · exact e2
              · show c_X6_firstOutOfOrder_L5 F 14 x1 (some a) KX (m + 1) (nI (seen f n)) (nI n) h = _
                rw [c_X6_firstOutOfOrder_L5]
                simp only [nnq, b5, if_true, g5, if_pos (nI_le (Nat.le_refl n) (show n < 2 ^ 31 by omega))]
            rw [key, hKX]
            dsimp only [nn]
            rw [if_pos b5, fT14 I, if_pos rfl, x_withBlock F I hF hq h1 h3, bI_some, g5]
            by_cases z : nI (fb_ct (bk (mm h) x1) q) ≤ nI n
            · rw [if_pos z, if_pos z]
            · rw [if_neg z, if_neg z, if_pos b5]
          · have key : c_X10_judgeOrder_L38 F 46 x1 (nI r) KM F 0 0 h = KM (nI (seen f n)) h := by
              refine lpS (L := fun m (u : Int32 × Int32) => c_X10_judgeOrder_L38 F 46 x1 (nI r) KM m u.1 u.2 h) (fun k => (nI (seen f k), nI k)) n (fun m k hk => ?_) (fun m => ?_) F (by omega)
              · rcases MS m k hk (ok k (by omega)) with ⟨e1, e2⟩ | ⟨e1, e2⟩
                · exact absurd e1 (nb k hk)
                · exact e2
              · show c_X10_judgeOrder_L38 F 46 x1 (nI r) KM (m + 1) (nI (seen f n)) (nI n) h = _
                rw [c_X10_judgeOrder_L38, fT46 I, if_pos rfl, fR46_7 I]
                dsimp only [lt_, nn]
                rw [if_pos b8, ix_n (by omega), g2, if_pos (nI_le (Nat.le_refl n) (by omega))]
            have MM := (M h I g2).trans key
            rw [hKM] at MM
            refine MM.trans ?_
            dsimp only
            rw [fT46 I, if_pos rfl, d1, bV_some, m_bits F (by omega) hF, bI_some, z2, fT46 I', if_pos rfl, d3]
            by_cases z : nI (fb_ct (bk (mm h) x1) q) ≤ nI n
            · rw [if_pos z, if_pos z]
            · rw [if_neg z, if_neg z, if_pos rfl, fR46_7 I']
              dsimp only [lt_, nn]
              rw [if_pos b9, ix_n (by omega), e48]
    · exact OkI.same (-1) ⟨ow, J⟩ (by rw [x_isBlock, bI_some, if_pos c1, ite10, x_isRow, bI_some, if_neg c2, ite00]) (by rw [m_in, bI_some, ti_0, ti_5, if_pos c1, ite10, m_isRow, bI_some, if_neg c2, ite00])
  · exact OkI.same (-1) ⟨ow, J⟩ (by rw [x_isBlock, bI_some, if_neg c1, ite00]) (by rw [m_in, bI_some, ti_0, ti_5, if_neg c1, ite00])
end OpsO
