section OpsI
variable {h : z_Hp} (F : Nat) (x1 x2 x3 x4 x5 : Int32)
def cpy (M : Nat → Nat → Int32) (t : Nat) : Bool := decide (M 65 t = 1 ∨ M 65 t = 2)
def lik (M : Nat → Nat → Int32) (s t : Nat) : Bool := decide (M 67 s = M 67 t ∧ M 66 s = M 66 t)
def prt (M : Nat → Nat → Int32) (s t : Nat) : Bool := cpy M t && lik M s t
def clk (M : Nat → Nat → Int32) (q s : Nat) : Nat := fb_ct (fun t => prt M s t) q
def fstP (M : Nat → Nat → Int32) (s : Nat) : Bool := cpy M s && decide (fb_ct (fun t => prt M s t) s = 0)
theorem tab1 : ∀ k, k < 7 → ((nI k = 1 ∨ z_tab 0 k = 1) ↔ (nI k = 1 ∨ nI k = 2)) := by
  intro k hk
  rcases (show k = 0 ∨ k = 1 ∨ k = 2 ∨ k = 3 ∨ k = 4 ∨ k = 5 ∨ k = 6 by omega) with rfl | rfl | rfl | rfl | rfl | rfl | rfl <;> decide
theorem mm_sh2 (h : z_Hp) : mm h 65 = hI h 65 ∧ mm h 66 = hI h 66 ∧ mm h 67 = hI h 67 ∧ mm h 71 = hI h 71 := ⟨rfl, rfl, rfl, rfl⟩
theorem x_isCopy {ow : Ow} {s a : Nat} (S : Rsta h) (g : shAt ow h s a) : c_X5_isOf F a 1 h = some (if cpy (mm h) s = true then 1 else 0, h) := by
  obtain ⟨k, hk7, hk⟩ := g.2.2.2.2.2.2.2.2.2.2.2.2.2.2.1
  rw [x_isOf F S g hk hk7]
  unfold cpy
  rw [(mm_sh2 h).1, hk]
  by_cases c : nI k = 1 ∨ nI k = 2
  · rw [if_pos ((tab1 k hk7).mpr c), if_pos (decide_eq_true c)]
  · rw [if_neg (fun e => c ((tab1 k hk7).mp e)), if_neg (by simp [c])]
theorem x_prt {ow : Ow} {s t a b : Nat} (S : Rsta h) (g : shAt ow h s a) (g' : shAt ow h t b) : c_X5_isOfPrintOf F b (some a) h = some (if prt (mm h) s t = true then 1 else 0, h) := by
  unfold c_X5_isOfPrintOf prt
  rw [g'.1, if_pos rfl, x_isCopy F S g', bI_some]
  by_cases c : cpy (mm h) t = true
  · rw [if_pos c, ite10, g'.1, if_pos rfl]
    dsimp only [nn]
    rw [g.1, if_pos rfl, g.2.2.2.2.2.1, g'.2.2.2.2.2.1, c, Bool.true_and]
    unfold lik
    rw [(mm_sh2 h).2.1, (mm_sh2 h).2.2.1]
    by_cases c2 : hI h 67 t = hI h 67 s
    · rw [if_pos c2, if_pos rfl, if_pos rfl, g.2.2.2.2.1, g'.2.2.2.2.1]
      by_cases c3 : hI h 66 t = hI h 66 s
      · rw [if_pos c3, if_pos (decide_eq_true ⟨c2.symm, c3.symm⟩)]
      · rw [if_neg c3, if_neg (fun e => c3 (of_decide_eq_true e).2.symm)]
    · rw [if_neg c2, if_neg (fun e => c2 (of_decide_eq_true e).1.symm)]
  · rw [if_neg c, ite00, if_neg (by simp [c])]
section Lo
variable {ow : Ow} {q : Nat}
theorem x_left (I : Ifx h) (S : Rsta h) (hF : 5000 ≤ F) (hq : q ≤ 20) (h1 : hI h 14 1 = nI q) (h3 : ∀ s, s < q → ∃ a, hR h 15 s = some a ∧ shAt ow h s a) {s a : Nat} (g : shAt ow h s a) : c_X6_leftOfPrint F 14 (some a) h = some (nI (clk (mm h) q s), h) := by
  unfold c_X6_leftOfPrint
  refine lpS (L := fun m (u : Int32 × Int32) => c_X6_leftOfPrint_L4 F 14 (some a) m u.1 u.2 h) (fun k => (nI (fb_ct (fun t => prt (mm h) s t) k), nI k)) q (fun m k hk => ?_) (fun m => ?_) F (by omega)
  · show c_X6_leftOfPrint_L4 F 14 (some a) (m + 1) (nI (fb_ct (fun t => prt (mm h) s t) k)) (nI k) h = c_X6_leftOfPrint_L4 F 14 (some a) m (nI (fb_ct (fun t => prt (mm h) s t) (k + 1))) (nI (k + 1)) h
    obtain ⟨b, hb, g'⟩ := h3 k hk
    have b1 : okA h 15 26 (nI k) = true := okA_n (fT15 I) (fN15 I) (by omega) (by decide)
    rw [c_X6_leftOfPrint_L4]
    simp only [fT14 I, fR14_0 I, if_true, h1, if_neg (nI_ge hk (show q < 2 ^ 31 by omega)), ltq, nnq, b1, ix_n (show k < 2147483648 by omega), hb, g'.1, x_prt F S g g', bIq, nI_1, iteZ]
    by_cases c : prt (mm h) s k = true
    · rw [if_pos c, fb_ct_succ, if_pos c]
    · rw [if_neg c, fb_ct_succ, if_neg c]; rfl
  · show c_X6_leftOfPrint_L4 F 14 (some a) (m + 1) _ (nI q) h = _
    rw [c_X6_leftOfPrint_L4, fT14 I, if_pos rfl, h1, if_pos (nI_le (Nat.le_refl q) (by omega))]; rfl
theorem x_first (I : Ifx h) (S : Rsta h) (hF : 5000 ≤ F) (hq : q ≤ 20) (h3 : ∀ s, s < q → ∃ a, hR h 15 s = some a ∧ shAt ow h s a) {s : Nat} (hs : s < q) : c_X6_isFirstOfPrint F 14 (nI s) h = some (if fstP (mm h) s = true then 1 else 0, h) := by
  obtain ⟨a, ha, g⟩ := h3 s hs
  have b0 : okA h 15 26 (nI s) = true := okA_n (fT15 I) (fN15 I) (by omega) (by decide)
  unfold c_X6_isFirstOfPrint fstP
  simp only [fT14 I, fR14_0 I, if_true, ltq, nnq, b0, ix_n (show s < 2147483648 by omega), ha, g.1, x_isCopy F S g, bIq, iteZ]
  by_cases c : cpy (mm h) s = true
  · rw [if_pos c, c, Bool.true_and]
    have run : ∀ m k, k < s → c_X6_isFirstOfPrint_L17 F 14 (nI s) (m + 1) (nI k) h = if prt (mm h) s k = true then some (0, h) else c_X6_isFirstOfPrint_L17 F 14 (nI s) m (nI (k + 1)) h := by
      intro m k hk
      obtain ⟨b, hb, g'⟩ := h3 k (by omega)
      have b1 : okA h 15 26 (nI k) = true := okA_n (fT15 I) (fN15 I) (by omega) (by decide)
      rw [c_X6_isFirstOfPrint_L17]
      simp only [if_neg (nI_ge hk (show s < 2 ^ 31 by omega)), fT14 I, fR14_0 I, if_true, ltq, nnq, b0, b1, ix_n (show k < 2147483648 by omega), ix_n (show s < 2147483648 by omega), ha, hb, g'.1, x_prt F S g g', bIq, nI_1, iteZ]
    by_cases c2 : ∃ i, i < s ∧ prt (mm h) s i = true
    · obtain ⟨i, g1, g2, g3⟩ := fb_first c2
      rw [if_neg (by
        have := fb_ct_pos (p := fun t => prt (mm h) s t) (n := s)
        have := this.mpr ⟨i, g1, g2⟩
        simp; omega)]
      refine lpS (L := fun m (u : Int32) => c_X6_isFirstOfPrint_L17 F 14 (nI s) m u h) (fun k => nI k) i (fun m k hk => by show c_X6_isFirstOfPrint_L17 F 14 (nI s) (m + 1) (nI k) h = _; rw [run m k (by omega), if_neg (g3 k hk)]) (fun m => ?_) F (by omega)
      show c_X6_isFirstOfPrint_L17 F 14 (nI s) (m + 1) (nI i) h = _
      rw [run m i g1, if_pos g2]
    · rw [if_pos (by
        have := fb_ct_zero (p := fun t => prt (mm h) s t) (n := s)
        simp only [decide_eq_true_eq]
        exact this.mpr (fun k hk => by
          cases e : prt (mm h) s k with
          | true => exact absurd ⟨k, hk, e⟩ c2
          | false => rfl))]
      refine lpS (L := fun m (u : Int32) => c_X6_isFirstOfPrint_L17 F 14 (nI s) m u h) (fun k => nI k) s (fun m k hk => by show c_X6_isFirstOfPrint_L17 F 14 (nI s) (m + 1) (nI k) h = _; rw [run m k hk, if_neg (fun e => c2 ⟨k, hk, e⟩)]) (fun m => ?_) F (by omega)
      show c_X6_isFirstOfPrint_L17 F 14 (nI s) (m + 1) (nI s) h = _
      rw [c_X6_isFirstOfPrint_L17, if_pos (nI_le (Nat.le_refl s) (by omega))]
  · rw [if_neg c, if_neg (by simp [c])]
/-- how many prints have w left; 0: any -/
def prs (M : Nat → Nat → Int32) (q w n : Nat) : Nat := fb_ct (fun s => fstP M s && (decide (w = 0) || decide (clk M q s = w))) n
theorem clk_le (M : Nat → Nat → Int32) (q s : Nat) : clk M q s ≤ q := fb_ct_le _ _
theorem x_prs (I : Ifx h) (S : Rsta h) (hF : 5000 ≤ F) (hq : q ≤ 20) (h1 : hI h 14 1 = nI q) (h3 : ∀ s, s < q → ∃ a, hR h 15 s = some a ∧ shAt ow h s a) (x : Int32) (w : Nat) (ex : x = nI w) (hw : w ≤ 2) : c_X6_printsOf F 14 x h = some (nI (prs (mm h) q w q), h) := by
  subst ex
  unfold c_X6_printsOf
  refine lpS (L := fun m (u : Int32 × Int32) => c_X6_printsOf_L4 F 14 (nI w) m u.1 u.2 h) (fun k => (nI (prs (mm h) q w k), nI k)) q (fun m k hk => ?_) (fun m => ?_) F (by omega)
  · show c_X6_printsOf_L4 F 14 (nI w) (m + 1) (nI (prs (mm h) q w k)) (nI k) h = c_X6_printsOf_L4 F 14 (nI w) m (nI (prs (mm h) q w (k + 1))) (nI (k + 1)) h
    obtain ⟨b, hb, g'⟩ := h3 k hk
    have b1 : okA h 15 26 (nI k) = true := okA_n (fT15 I) (fN15 I) (by omega) (by decide)
    have P : prs (mm h) q w (k + 1) = prs (mm h) q w k + if (fstP (mm h) k && (decide (w = 0) || decide (clk (mm h) q k = w))) = true then 1 else 0 := fb_ct_succ _ _
    have cl := clk_le (mm h) q k
    rw [c_X6_printsOf_L4, fT14 I, if_pos rfl, h1, if_neg (nI_ge hk (by omega)), if_pos rfl, x_first F I S hF hq h3 hk, bI_some]
    dsimp only [lt_]
    rw [iteZ]
    by_cases c : fstP (mm h) k = true
    · rw [if_pos c]
      by_cases c2 : w = 0
      · subst c2
        rw [if_pos (by rfl), P, c, if_pos (by simp), nI_1, nI_1]
      · rw [if_neg (nI_ne0 (by omega) (by omega)), fT14 I, if_pos rfl, fR14_0 I]
        dsimp only [nn]
        rw [if_pos b1, ix_n (by omega), hb, if_pos rfl, x_left F I S hF hq h1 h3 g', bI_some]
        by_cases c3 : clk (mm h) q k = w
        · rw [if_pos (by rw [c3]), P, c, if_pos (by simp [c3]), nI_1, nI_1]
        · rw [if_neg (by rw [nI_eq (by omega) (by omega)]; exact c3), P, c, if_neg (by simp [c2, c3]), nI_1]; rfl
    · rw [if_neg c, P, if_neg (by simp [c]), nI_1]; rfl
  · show c_X6_printsOf_L4 F 14 (nI w) (m + 1) _ (nI q) h = _
    rw [c_X6_printsOf_L4, fT14 I, if_pos rfl, h1, if_pos (nI_le (Nat.le_refl q) (by omega))]
end Lo
section Lo2
variable {q : Nat}
theorem m_isCopy (I : Ifx h) {s : Nat} (hs : s < 20) : c_X10_isCopy F 46 (nI s) h = some (if cpy (mm h) s = true then 1 else 0, h) := by
  have b1 : okA h 65 20 (nI s) = true := okA_n (fT65 I) (fN65 I) (by omega) (by decide)
  unfold c_X10_isCopy cpy
  rw [(mm_sh2 h).1]
  simp only [fT46 I, fR46_27 I, if_true, ltq, nnq, b1, ix_n (show s < 2147483648 by omega)]
  by_cases c : hI h 65 s = 1
  · rw [if_pos c, if_pos (by simp [c])]
  · rw [if_neg c]
    by_cases c2 : hI h 65 s = 2
    · rw [if_pos c2, if_pos (by simp [c2])]
    · rw [if_neg c2, if_neg (by simp [c, c2])]
theorem m_isLike (I : Ifx h) {s t : Nat} (hs : s < 20) (ht : t < 20) : c_X10_isLike F 46 (nI s) (nI t) h = some (if lik (mm h) s t = true then 1 else 0, h) := by
  have b1 : okA h 66 20 (nI s) = true := okA_n (fT66 I) (fN66 I) (by omega) (by decide)
  have b2 : okA h 66 20 (nI t) = true := okA_n (fT66 I) (fN66 I) (by omega) (by decide)
  have b3 : okA h 67 20 (nI s) = true := okA_n (fT67 I) (fN67 I) (by omega) (by decide)
  have b4 : okA h 67 20 (nI t) = true := okA_n (fT67 I) (fN67 I) (by omega) (by decide)
  unfold c_X10_isLike lik
  rw [(mm_sh2 h).2.1, (mm_sh2 h).2.2.1]
  simp only [fT46 I, fR46_28 I, fR46_29 I, if_true, ltq, nnq, b1, b2, b3, b4, ix_n (show s < 2147483648 by omega), ix_n (show t < 2147483648 by omega)]
  by_cases c : hI h 67 s = hI h 67 t
  · rw [if_pos c]
    by_cases c2 : hI h 66 s = hI h 66 t
    · rw [if_pos c2, if_pos (decide_eq_true ⟨c, c2⟩)]
    · rw [if_neg c2, if_neg (by simp [c2])]
  · rw [if_neg c, if_neg (by simp [c])]
theorem m_clk (I : Ifx h) (hF : 5000 ≤ F) (hq : q ≤ 20) (h1 : hI h 46 26 = nI q) {s : Nat} (hs : s < 20) : c_X10_copiesLike F 46 (nI s) h = some (nI (clk (mm h) q s), h) := by
  unfold c_X10_copiesLike
  refine lpS (L := fun m (u : Int32 × Int32) => c_X10_copiesLike_L4 F 46 (nI s) m u.1 u.2 h) (fun k => (nI (fb_ct (fun t => prt (mm h) s t) k), nI k)) q (fun m k hk => ?_) (fun m => ?_) F (by omega)
  · show c_X10_copiesLike_L4 F 46 (nI s) (m + 1) (nI (fb_ct (fun t => prt (mm h) s t) k)) (nI k) h = c_X10_copiesLike_L4 F 46 (nI s) m (nI (fb_ct (fun t => prt (mm h) s t) (k + 1))) (nI (k + 1)) h
    rw [c_X10_copiesLike_L4, fT46 I, if_pos rfl, h1, if_neg (nI_ge hk (by omega)), if_pos rfl, m_isCopy F I (by omega), bI_some, fb_ct_succ]
    dsimp only [lt_]
    unfold prt
    by_cases c : cpy (mm h) k = true
    · rw [if_pos c, ite10, fT46 I, if_pos rfl, m_isLike F I hs (by omega), bI_some, c, Bool.true_and]
      by_cases c2 : lik (mm h) s k = true
      · rw [if_pos c2, ite10, if_pos c2, nI_1, nI_1]
      · rw [if_neg c2, ite00, if_neg c2, nI_1, show (0 : Int32) = nI 0 from rfl, nI_add]
    · rw [if_neg c, ite00, if_neg (by simp [c]), nI_1, show (0 : Int32) = nI 0 from rfl, nI_add]
  · show c_X10_copiesLike_L4 F 46 (nI s) (m + 1) _ (nI q) h = _
    rw [c_X10_copiesLike_L4, fT46 I, if_pos rfl, h1, if_pos (nI_le (Nat.le_refl q) (by omega))]; rfl
end Lo2
end OpsI
