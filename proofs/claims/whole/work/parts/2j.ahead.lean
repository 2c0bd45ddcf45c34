section OpsE
variable {h : z_Hp} (F : Nat) (x1 x2 x3 x4 x5 : Int32)
def cmpI (x y : Int32) : Int32 := if x = y then 0 else if x &&& (y ^^^ (-1)) = 0 then 1 else if y &&& (x ^^^ (-1)) = 0 then -1 else 2
def bB (M : Nat → Nat → Int32) (s t : Nat) : Int32 := if M 68 s = -9 then 0 else if M 68 s = M 68 t then cmpI (M 69 s) (M 69 t) else 0
def bT (M : Nat → Nat → Int32) (s t : Nat) : Int32 := if M 66 s = -9 then 0 else if M 66 s = M 66 t then cmpI (M 70 s) (M 70 t) else 0
def ahd (M : Nat → Nat → Int32) (s t : Nat) : Bool := decide (bB M s t = 1 ∨ bT M s t = 1)
def stg (M : Nat → Nat → Int32) (s t : Nat) : Int32 := if bB M s t = 2 ∨ bT M s t = 2 then (if bB M s t = 2 then -10 else 0) + (if bT M s t = 2 then -20 else 0) else if bB M s t * bT M s t = -1 then -40 else (if bB M s t = 1 then 1 else 0) + (if bT M s t = 1 then 2 else 0)
theorem cmp4 (x y : Int32) : cmpI x y = 0 ∨ cmpI x y = 1 ∨ cmpI x y = -1 ∨ cmpI x y = 2 := by
  unfold cmpI
  split
  · exact Or.inl rfl
  · split
    · exact Or.inr (Or.inl rfl)
    · split
      · exact Or.inr (Or.inr (Or.inl rfl))
      · exact Or.inr (Or.inr (Or.inr rfl))
theorem bB4 (M : Nat → Nat → Int32) (s t : Nat) : bB M s t = 0 ∨ bB M s t = 1 ∨ bB M s t = -1 ∨ bB M s t = 2 := by
  unfold bB
  split
  · exact Or.inl rfl
  · split
    · exact cmp4 _ _
    · exact Or.inl rfl
theorem bT4 (M : Nat → Nat → Int32) (s t : Nat) : bT M s t = 0 ∨ bT M s t = 1 ∨ bT M s t = -1 ∨ bT M s t = 2 := by
  unfold bT
  split
  · exact Or.inl rfl
  · split
    · exact cmp4 _ _
    · exact Or.inl rfl
theorem x_cmp (x y : Int32) : c_X5_whichFirst F x y h = some (cmpI x y, h) := by
  unfold c_X5_whichFirst cmpI
  split
  · rfl
  · split
    · rfl
    · split <;> rfl
theorem m_cmp (x y : Int32) : c_X10_compare F x y h = some (cmpI x y, h) := by
  unfold c_X10_compare cmpI
  split
  · rfl
  · split
    · rfl
    · split <;> rfl
theorem mm_sh (h : z_Hp) : mm h 66 = hI h 66 ∧ mm h 68 = hI h 68 ∧ mm h 69 = hI h 69 ∧ mm h 70 = hI h 70 := ⟨rfl, rfl, rfl, rfl⟩
section Two
variable {ow : Ow} {s t a b : Nat}
theorem x_bB (g : shAt ow h s a) (g' : shAt ow h t b) : c_X5_byBlock F a (some b) h = some (bB (mm h) s t, h) := by
  obtain ⟨a1, -, -, b0, b1, b2, b3, b5, b6, b7, b8, b9, b10, -⟩ := g
  obtain ⟨a1', -, -, b0', b1', b2', b3', b5', b6', b7', b8', b9', b10', -⟩ := g'
  unfold c_X5_byBlock bB
  rw [(mm_sh h).2.1, (mm_sh h).2.2.1]
  simp only [a1, a1', if_true, nn, b5, b5', b6, b6', x_cmp, bI_some]
  split
  · rfl
  · split <;> rfl
theorem x_bT (g : shAt ow h s a) (g' : shAt ow h t b) : c_X5_byType F a (some b) h = some (bT (mm h) s t, h) := by
  obtain ⟨a1, -, -, b0, b1, b2, b3, b5, b6, b7, b8, b9, b10, -⟩ := g
  obtain ⟨a1', -, -, b0', b1', b2', b3', b5', b6', b7', b8', b9', b10', -⟩ := g'
  unfold c_X5_byType bT
  rw [(mm_sh h).1, (mm_sh h).2.2.2]
  simp only [a1, a1', if_true, nn, b1, b1', b7, b7', x_cmp, bI_some]
  split
  · rfl
  · split <;> rfl
theorem x_ahd (g : shAt ow h s a) (g' : shAt ow h t b) : c_X5_isAheadOf F a (some b) h = some (if ahd (mm h) s t = true then 1 else 0, h) := by
  unfold c_X5_isAheadOf ahd
  rw [g.1, if_pos rfl, x_bB F g g', bI_some]
  by_cases c : bB (mm h) s t = 1
  · rw [if_pos c, if_pos (by simp [c])]
  · rw [if_neg c, g.1, if_pos rfl, x_bT F g g', bI_some]
    by_cases c2 : bT (mm h) s t = 1
    · rw [if_pos c2, if_pos (by simp [c2])]
    · rw [if_neg c2, if_neg (by simp [c, c2])]
theorem x_stg (g : shAt ow h s a) (g' : shAt ow h t b) : c_X5_standing F a (some b) h = some (stg (mm h) s t, h) := by
  unfold c_X5_standing stg
  rw [g.1, if_pos rfl, x_bB F g g', bI_some, g.1, if_pos rfl, x_bT F g g', bI_some]
  have p := bB4 (mm h) s t
  have q := bT4 (mm h) s t
  generalize bB (mm h) s t = u at p ⊢
  generalize bT (mm h) s t = v at q ⊢
  rcases p with rfl | rfl | rfl | rfl <;> rcases q with rfl | rfl | rfl | rfl <;> rfl
end Two
section Two2
variable (I : Ifx h) {s t : Nat} (hs : s < 20) (ht : t < 20)
theorem m_bB (I : Ifx h) (hs : s < 20) (ht : t < 20) : c_X10_byBlock F 46 (nI s) (nI t) h = some (bB (mm h) s t, h) := by
  have b1 : okA h 68 20 (nI s) = true := okA_n (fT68 I) (fN68 I) (by omega) (by decide)
  have b2 : okA h 68 20 (nI t) = true := okA_n (fT68 I) (fN68 I) (by omega) (by decide)
  have b3 : okA h 69 20 (nI s) = true := okA_n (fT69 I) (fN69 I) (by omega) (by decide)
  have b4 : okA h 69 20 (nI t) = true := okA_n (fT69 I) (fN69 I) (by omega) (by decide)
  unfold c_X10_byBlock bB
  rw [(mm_sh h).2.1, (mm_sh h).2.2.1]
  simp only [fT46 I, fR46_30 I, fR46_31 I, if_true, lt_, nn, b1, b2, b3, b4, ix_n (show s < 2147483648 by omega), ix_n (show t < 2147483648 by omega), m_cmp, bI_some]
  split
  · rfl
  · split <;> rfl
theorem m_bT (I : Ifx h) (hs : s < 20) (ht : t < 20) : c_X10_byType F 46 (nI s) (nI t) h = some (bT (mm h) s t, h) := by
  have b1 : okA h 66 20 (nI s) = true := okA_n (fT66 I) (fN66 I) (by omega) (by decide)
  have b2 : okA h 66 20 (nI t) = true := okA_n (fT66 I) (fN66 I) (by omega) (by decide)
  have b3 : okA h 70 20 (nI s) = true := okA_n (fT70 I) (fN70 I) (by omega) (by decide)
  have b4 : okA h 70 20 (nI t) = true := okA_n (fT70 I) (fN70 I) (by omega) (by decide)
  unfold c_X10_byType bT
  rw [(mm_sh h).1, (mm_sh h).2.2.2]
  simp only [fT46 I, fR46_28 I, fR46_32 I, if_true, lt_, nn, b1, b2, b3, b4, ix_n (show s < 2147483648 by omega), ix_n (show t < 2147483648 by omega), m_cmp, bI_some]
  split
  · rfl
  · split <;> rfl
theorem m_ahd (I : Ifx h) (hs : s < 20) (ht : t < 20) : c_X10_isAhead F 46 (nI s) (nI t) h = some (if ahd (mm h) s t = true then 1 else 0, h) := by
  unfold c_X10_isAhead ahd
  rw [fT46 I, if_pos rfl, m_bB F I hs ht, bI_some]
  by_cases c : bB (mm h) s t = 1
  · rw [if_pos c, if_pos (by simp [c])]
  · rw [if_neg c, fT46 I, if_pos rfl, m_bT F I hs ht, bI_some]
    by_cases c2 : bT (mm h) s t = 1
    · rw [if_pos c2, if_pos (by simp [c2])]
    · rw [if_neg c2, if_neg (by simp [c, c2])]
theorem m_stg (I : Ifx h) (hs : s < 20) (ht : t < 20) : c_X10_aheadOf F 46 (nI s) (nI t) h = some (stg (mm h) s t, h) := by
  unfold c_X10_aheadOf stg
  rw [fT46 I, if_pos rfl, m_bB F I hs ht, bI_some, fT46 I, if_pos rfl, m_bT F I hs ht, bI_some]
  have p := bB4 (mm h) s t
  have q := bT4 (mm h) s t
  generalize bB (mm h) s t = u at p ⊢
  generalize bT (mm h) s t = v at q ⊢
  rcases p with rfl | rfl | rfl | rfl <;> rcases q with rfl | rfl | rfl | rfl <;> rfl
end Two2
theorem x_two (I : Ifx h) {q : Nat} (hq : q ≤ 20) (e : hI h 14 1 = nI q) : c_X9_areTwoSheets F 5 x1 x2 h = some (if (0 ≤ x1.toInt ∧ x1.toInt ≤ (q : Int) - 1) ∧ (0 ≤ x2.toInt ∧ x2.toInt ≤ (q : Int) - 1) ∧ ¬ x1 = x2 then 1 else 0, h) := by
  unfold c_X9_areTwoSheets
  rw [fT5 I, if_pos rfl, x_isSheet I hq e, bI_some]
  by_cases c1 : 0 ≤ x1.toInt ∧ x1.toInt ≤ (q : Int) - 1
  · rw [if_pos c1, ite10, fT5 I, if_pos rfl, x_isSheet I hq e, bI_some]
    by_cases c2 : 0 ≤ x2.toInt ∧ x2.toInt ≤ (q : Int) - 1
    · rw [if_pos c2, ite10]
      by_cases c3 : x1 = x2
      · rw [if_pos c3, if_neg (fun e => e.2.2 c3)]
      · rw [if_neg c3, if_pos ⟨c1, c2, c3⟩]
    · rw [if_neg c2, ite00, if_neg (fun e => c2 e.2.1)]
  · rw [if_neg c1, ite00, if_neg (fun e => c1 e.1)]
theorem op_ahead (J : Inv h) : OkI h (c_X9_ahead F 5 x1 x2 h) (c_X10_ahead F 46 x1 x2) := by
  obtain ⟨ow, J⟩ := J
  have I := J.2.1
  obtain ⟨q, hq, h1, h2, h3, h4, h5⟩ := J.she
  unfold c_X9_ahead c_X10_ahead
  by_cases c : (0 ≤ x1.toInt ∧ x1.toInt ≤ (q : Int) - 1) ∧ (0 ≤ x2.toInt ∧ x2.toInt ≤ (q : Int) - 1) ∧ ¬ x1 = x2
  · obtain ⟨s, hs, rfl⟩ := rng (x := x1) (n := 19) ⟨c.1.1, by omega⟩
    obtain ⟨t, ht, rfl⟩ := rng (x := x2) (n := 19) ⟨c.2.1.1, by omega⟩
    have hsq : s < q := by have := c.1; rw [toI_n (by omega)] at this; omega
    have htq : t < q := by have := c.2.1; rw [toI_n (by omega)] at this; omega
    obtain ⟨a, ha, g⟩ := h3 s hsq
    obtain ⟨b, hb, g'⟩ := h3 t htq
    have b1 : okA h 15 26 (nI s) = true := okA_n (fT15 I) (fN15 I) (by omega) (by decide)
    have b2 : okA h 15 26 (nI t) = true := okA_n (fT15 I) (fN15 I) (by omega) (by decide)
    refine OkI.same (stg (mm h) s t) ⟨ow, J⟩ ?_ ?_
    · rw [fT5 I, if_pos rfl, x_two F _ _ I hq h1, bI_some, if_pos c, ite10]
      simp only [fT5 I, fT6 I, fT7 I, fT8 I, fT9 I, fT10 I, fT11 I, fT12 I, fT13 I, fT14 I, fT15 I, fT16 I, fT17 I, fT18 I, fT19 I, fT20 I, fT21 I, fT22 I, fT23 I, fT24 I, fT25 I, fT26 I, fT27 I, fT28 I, fT29 I, fT30 I, fT31 I, fT32 I, fT33 I, fT34 I, fT35 I, fT36 I, fT37 I, fT38 I, fT39 I, fT40 I, fT41 I, fT42 I, fT43 I, fT44 I, fT45 I, fR5_0 I, fR5_1 I, fR5_2 I, fR5_3 I, fR5_5 I, fR5_6 I, fR5_7 I, fR5_8 I, fR5_9 I, fR5_10 I, fR5_11 I, fR5_13 I, fR10_0 I, fR10_1 I, fR10_2 I, fR14_0 I, fR16_0 I, fR16_1 I, fR20_0 I, fR20_1 I, fR20_2 I, fR20_3 I, fR20_4 I, fR20_5 I, fR20_6 I, fR28_0 I, fR28_1 I, fR28_2 I, fR28_3 I, fR28_4 I, fR34_0 I, fR34_1 I, fR34_2 I, fR34_3 I, fR39_0 I, fR39_1 I, fR39_2 I, fR39_3 I, fR39_4 I, if_true, lt_, nn, b1, b2, ix_n (show s < 2147483648 by omega), ix_n (show t < 2147483648 by omega), ha, hb, g.1, x_stg F g g', bI_some]
    · rw [fT46 I, if_pos rfl, m_isSheet I hq h2, bI_some, if_pos c.1, ite10, fT46 I, if_pos rfl, m_isSheet I hq h2, bI_some, if_pos c.2.1, ite10, if_neg c.2.2, fT46 I, if_pos rfl, m_stg F I (by omega) (by omega), bI_some]
  · refine OkI.same (-100) ⟨ow, J⟩ ?_ ?_
    · rw [fT5 I, if_pos rfl, x_two F _ _ I hq h1, bI_some, if_neg c, ite00]
    · rw [fT46 I, if_pos rfl, m_isSheet I hq h2, bI_some]
      by_cases c1 : 0 ≤ x1.toInt ∧ x1.toInt ≤ (q : Int) - 1
      · rw [if_pos c1, ite10, fT46 I, if_pos rfl, m_isSheet I hq h2, bI_some]
        by_cases c2 : 0 ≤ x2.toInt ∧ x2.toInt ≤ (q : Int) - 1
        · rw [if_pos c2, ite10, if_pos (Classical.byContradiction (fun e => c ⟨c1, c2, e⟩))]
        · rw [if_neg c2, ite00]
      · rw [if_neg c1, ite00]
def qIn (M : Nat → Nat → Int32) (s : Nat) : Nat → Nat → Option Int32
  | 0, _ => none
  | d + 1, t => if 0 ≤ stg M s t then qIn M s d (t + 1) else some (nI (100 * s + t))
def qOut (M : Nat → Nat → Int32) (q : Nat) : Nat → Nat → Int32
  | 0, _ => -9
  | d + 1, s => (qIn M s (q - (s + 1)) (s + 1)).getD (qOut M q d (s + 1))
theorem x_qIn {ow : Ow} (I : Ifx h) {q : Nat} (hq : q ≤ 20) (h1 : hI h 14 1 = nI q) (h3 : ∀ s, s < q → ∃ a, hR h 15 s = some a ∧ shAt ow h s a) {s : Nat} (hs : s < q) (K : z_Hp → Option (Int32 × z_Hp)) : ∀ d t n, t + d = q → d < n → c_X6_firstQuarrel_L14 F 14 (nI s) K n (nI t) h = match qIn (mm h) s d t with
    | none => K h
    | some v => some (v, h) := by
  intro d
  induction d with
  | zero =>
    intro t n e1 e2
    obtain ⟨m, rfl⟩ : ∃ m, n = m + 1 := ⟨n - 1, by omega⟩
    rw [c_X6_firstQuarrel_L14, fT14 I, if_pos rfl, h1, if_pos (nI_le (by omega) (by omega))]; rfl
  | succ d ih =>
    intro t n e1 e2
    obtain ⟨m, rfl⟩ : ∃ m, n = m + 1 := ⟨n - 1, by omega⟩
    obtain ⟨a, ha, g⟩ := h3 s hs
    obtain ⟨b, hb, g'⟩ := h3 t (by omega)
    have b1 : okA h 15 26 (nI s) = true := okA_n (fT15 I) (fN15 I) (by omega) (by decide)
    have b2 : okA h 15 26 (nI t) = true := okA_n (fT15 I) (fN15 I) (by omega) (by decide)
    rw [c_X6_firstQuarrel_L14, qIn]
    simp only [fT14 I, fR14_0 I, if_true, h1, if_neg (nI_ge (show t < q by omega) (show q < 2 ^ 31 by omega)), lt_, nn, b1, b2, ix_n (show s < 2147483648 by omega), ix_n (show t < 2147483648 by omega), ha, hb, g.1, x_stg F g g', bI_some, nI_1]
    by_cases c : 0 ≤ stg (mm h) s t
    · rw [if_pos c, if_pos c]; exact ih (t + 1) m (by omega) (by omega)
    · rw [if_neg c, if_neg c]
      rw [show (100 : Int32) = nI 100 from rfl, nI_mul, nI_add]
theorem x_qOut {ow : Ow} (I : Ifx h) {q : Nat} (hq : q ≤ 20) (hF : 5000 ≤ F) (h1 : hI h 14 1 = nI q) (h3 : ∀ s, s < q → ∃ a, hR h 15 s = some a ∧ shAt ow h s a) : ∀ d s n, s + d = q → d < n → c_X6_firstQuarrel_L2 F 14 n (nI s) h = some (qOut (mm h) q d s, h) := by
  intro d
  induction d with
  | zero =>
    intro s n e1 e2
    obtain ⟨m, rfl⟩ : ∃ m, n = m + 1 := ⟨n - 1, by omega⟩
    rw [c_X6_firstQuarrel_L2, fT14 I, if_pos rfl, h1, if_pos (nI_le (by omega) (by omega))]; rfl
  | succ d ih =>
    intro s n e1 e2
    obtain ⟨m, rfl⟩ : ∃ m, n = m + 1 := ⟨n - 1, by omega⟩
    rw [c_X6_firstQuarrel_L2, fT14 I, if_pos rfl, h1, if_neg (nI_ge (by omega) (by omega)), nI_1]
    dsimp only [lt_]
    rw [x_qIn F I hq h1 h3 (by omega) _ (q - (s + 1)) (s + 1) F (by omega) (by omega), qOut]
    cases qIn (mm h) s (q - (s + 1)) (s + 1) with
    | none => exact ih (s + 1) m (by omega) (by omega)
    | some v => rfl
theorem m_qIn (I : Ifx h) {q : Nat} (hq : q ≤ 20) (h1 : hI h 46 26 = nI q) {s : Nat} (hs : s < q) (K : z_Hp → Option (Int32 × z_Hp)) : ∀ d t n, t + d = q → d < n → c_X10_quarrel_L14 F 46 (nI s) K n (nI t) h = match qIn (mm h) s d t with
    | none => K h
    | some v => some (v, h) := by
  intro d
  induction d with
  | zero =>
    intro t n e1 e2
    obtain ⟨m, rfl⟩ : ∃ m, n = m + 1 := ⟨n - 1, by omega⟩
    rw [c_X10_quarrel_L14, fT46 I, if_pos rfl, h1, if_pos (nI_le (by omega) (by omega))]; rfl
  | succ d ih =>
    intro t n e1 e2
    obtain ⟨m, rfl⟩ : ∃ m, n = m + 1 := ⟨n - 1, by omega⟩
    rw [c_X10_quarrel_L14, qIn]
    rw [fT46 I, if_pos rfl, h1, if_neg (nI_ge (by omega) (by omega)), if_pos rfl, m_stg F I (by omega) (by omega), bI_some]
    dsimp only [lt_]
    by_cases c : 0 ≤ stg (mm h) s t
    · rw [if_pos c, if_pos c, nI_1]; exact ih (t + 1) m (by omega) (by omega)
    · rw [if_neg c, if_neg c]
      rw [show (100 : Int32) = nI 100 from rfl, nI_mul, nI_add]
theorem m_qOut (I : Ifx h) {q : Nat} (hq : q ≤ 20) (hF : 5000 ≤ F) (h1 : hI h 46 26 = nI q) : ∀ d s n, s + d = q → d < n → c_X10_quarrel_L2 F 46 n (nI s) h = some (qOut (mm h) q d s, h) := by
  intro d
  induction d with
  | zero =>
    intro s n e1 e2
    obtain ⟨m, rfl⟩ : ∃ m, n = m + 1 := ⟨n - 1, by omega⟩
    rw [c_X10_quarrel_L2, fT46 I, if_pos rfl, h1, if_pos (nI_le (by omega) (by omega))]; rfl
  | succ d ih =>
    intro s n e1 e2
    obtain ⟨m, rfl⟩ : ∃ m, n = m + 1 := ⟨n - 1, by omega⟩
    rw [c_X10_quarrel_L2, fT46 I, if_pos rfl, h1, if_neg (nI_ge (by omega) (by omega)), nI_1]
    dsimp only [lt_]
    rw [m_qIn F I hq h1 (by omega) _ (q - (s + 1)) (s + 1) F (by omega) (by omega), qOut]
    cases qIn (mm h) s (q - (s + 1)) (s + 1) with
    | none => exact ih (s + 1) m (by omega) (by omega)
    | some v => rfl
theorem op_quarrel (hF : 5000 ≤ F) (J : Inv h) : OkI h (c_X9_quarrel F 5 h) (c_X10_quarrel F 46) := by
  obtain ⟨ow, J⟩ := J
  have I := J.2.1
  obtain ⟨q, hq, h1, h2, h3, h4, h5⟩ := J.she
  unfold c_X9_quarrel c_X10_quarrel c_X6_firstQuarrel
  refine OkI.same (qOut (mm h) q q 0) ⟨ow, J⟩ ?_ ?_
  · simp only [fT5 I, fT6 I, fT7 I, fT8 I, fT9 I, fT10 I, fT11 I, fT12 I, fT13 I, fT14 I, fT15 I, fT16 I, fT17 I, fT18 I, fT19 I, fT20 I, fT21 I, fT22 I, fT23 I, fT24 I, fT25 I, fT26 I, fT27 I, fT28 I, fT29 I, fT30 I, fT31 I, fT32 I, fT33 I, fT34 I, fT35 I, fT36 I, fT37 I, fT38 I, fT39 I, fT40 I, fT41 I, fT42 I, fT43 I, fT44 I, fT45 I, fR5_0 I, fR5_1 I, fR5_2 I, fR5_3 I, fR5_5 I, fR5_6 I, fR5_7 I, fR5_8 I, fR5_9 I, fR5_10 I, fR5_11 I, fR5_13 I, fR10_0 I, fR10_1 I, fR10_2 I, fR14_0 I, fR16_0 I, fR16_1 I, fR20_0 I, fR20_1 I, fR20_2 I, fR20_3 I, fR20_4 I, fR20_5 I, fR20_6 I, fR28_0 I, fR28_1 I, fR28_2 I, fR28_3 I, fR28_4 I, fR34_0 I, fR34_1 I, fR34_2 I, fR34_3 I, fR39_0 I, fR39_1 I, fR39_2 I, fR39_3 I, fR39_4 I, if_true, lt_, nn]
    rw [show (0 : Int32) = nI 0 from rfl, x_qOut F I hq hF h1 h3 q 0 F (by omega) (by omega), bI_some]
  · exact m_qOut F I hq hF h2 q 0 F (by omega) (by omega)
end OpsE
