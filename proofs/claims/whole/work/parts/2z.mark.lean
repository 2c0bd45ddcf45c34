section OpsT
variable {h : z_Hp} (F : Nat) (x1 x2 x3 x4 x5 : Int32)
variable {ow : Ow} {q : Nat}
abbrev isOfk (k : Nat) (x : Int32) : Prop := nI k = x ∨ z_tab 0 k = x
theorem isOfk_m : ∀ w, 1 ≤ w → w < 7 → ∀ k, k < 7 → (isOfk k (nI w) ↔ (nI k = nI w ∨ (nI w = 1 ∧ nI k = 2) ∨ (nI w = 5 ∧ nI k = 6))) := by
  intro w h0 h1 k hk
  have hw : w = 1 ∨ w = 2 ∨ w = 3 ∨ w = 4 ∨ w = 5 ∨ w = 6 := by omega
  have hk' : k = 0 ∨ k = 1 ∨ k = 2 ∨ k = 3 ∨ k = 4 ∨ k = 5 ∨ k = 6 := by omega
  rcases hw with rfl | rfl | rfl | rfl | rfl | rfl <;> rcases hk' with rfl | rfl | rfl | rfl | rfl | rfl | rfl <;> decide +kernel
theorem m_kindT (I : Ifx h) {s k w : Nat} (hs : s < 20) (hk : k < 7) (h1 : 1 ≤ w) (h7 : w < 7) (e : hI h 65 s = nI k) (K : Int32 → z_Hp → Option (Int32 × z_Hp)) : lt_ K (fun (j66_9 : Int32 → z_Hp → Option (Int32 × z_Hp)) => (lt_ (fun (h62 : z_Hp) => (j66_9 1 h62)) (fun (j61_61 : z_Hp → Option (Int32 × z_Hp)) => (if (hI h 65 (ix (nI s))) = nI w then (j61_61 h) else (lt_ (fun (h64 : z_Hp) => (lt_ (fun (h66 : z_Hp) => (j66_9 0 h66)) (fun (j65_65 : z_Hp → Option (Int32 × z_Hp)) => (if nI w = 5 then (if hT h64 46 = 10 then (lt_ (hR h64 46 27) (fun o67 => (nn o67 (fun a68 => (if okA h64 a68 20 (nI s) = true then (if (hI h64 a68 (ix (nI s))) = 6 then (j61_61 h64) else (j65_65 h64)) else none))))) else none) else (j65_65 h64))))) (fun (j45_63 : z_Hp → Option (Int32 × z_Hp)) => (if nI w = 1 then (if hT h 46 = 10 then (lt_ (some 65) (fun o69 => (nn o69 (fun a70 => (if okA h a70 20 (nI s) = true then (if (hI h a70 (ix (nI s))) = 2 then (j61_61 h) else (j45_63 h)) else none))))) else none) else (j45_63 h)))))))) = K (if isOfk k (nI w) then 1 else 0) h := by
  have b1 : okA h 65 20 (nI s) = true := okA_n (fT65 I) (fN65 I) (by omega) (by decide)
  have Q := isOfk_m w h1 h7 k hk
  simp only [fT46 I, if_true, ltq, nnq, fR46_27 I, b1, ix_n (show s < 2147483648 by omega), e]
  by_cases c : nI k = nI w
  · rw [if_pos c, if_pos (Q.mpr (Or.inl c))]
  · rw [if_neg c]
    by_cases c1 : nI w = 1
    · rw [if_pos c1]
      by_cases c2 : nI k = 2
      · rw [if_pos c2, if_pos (Q.mpr (Or.inr (Or.inl ⟨c1, c2⟩)))]
      · have c5 : ¬ nI w = 5 := fun e => by rw [c1] at e; exact absurd e (by decide)
        rw [if_neg c2, if_neg c5, if_neg (fun e => by
          rcases Q.mp e with e | e | e
          · exact c e
          · exact c2 e.2
          · exact c5 e.1)]
    · rw [if_neg c1]
      by_cases c5 : nI w = 5
      · rw [if_pos c5]
        by_cases c6 : nI k = 6
        · rw [if_pos c6, if_pos (Q.mpr (Or.inr (Or.inr ⟨c5, c6⟩)))]
        · rw [if_neg c6, if_neg (fun e => by
            rcases Q.mp e with e | e | e
            · exact c e
            · exact c1 e.1
            · exact c6 e.2)]
      · rw [if_neg c5, if_neg (fun e => by
          rcases Q.mp e with e | e | e
          · exact c e
          · exact c1 e.1
          · exact c5 e.1)]
def ent (M : Nat → Nat → Int32) (s k : Nat) : Bool := decide (M 86 k = M 67 s ∧ M 87 k = M 66 s)
theorem mm_rg2 (h : z_Hp) : mm h 86 = hI h 86 ∧ mm h 87 = hI h 87 ∧ mm h 67 = hI h 67 ∧ mm h 66 = hI h 66 ∧ mm h 71 = hI h 71 := ⟨rfl, rfl, rfl, rfl, rfl⟩
theorem ent_y {s k : Nat} (a : hI h 86 k = hI h 67 s) (b : hI h 87 k = hI h 66 s) : ent (mm h) s k = true := decide_eq_true ⟨a, b⟩
theorem ent_n1 {s k : Nat} (a : ¬ hI h 86 k = hI h 67 s) : ent (mm h) s k = false := decide_eq_false (fun e => a e.1)
theorem ent_n2 {s k : Nat} (a : ¬ hI h 87 k = hI h 66 s) : ent (mm h) s k = false := decide_eq_false (fun e => a e.2)
theorem fb_y {f : Nat → Bool} {k : Nat} (e : f k = true) : fb_ct f (k + 1) = fb_ct f k + 1 := by rw [fb_ct_succ, if_pos e]
theorem fb_n {f : Nat → Bool} {k : Nat} (e : f k = false) : fb_ct f (k + 1) = fb_ct f k := by rw [fb_ct_succ, e]; rfl
theorem x_entries (I : Ifx h) (hF : 5000 ≤ F) {q s : Nat} (hq : q ≤ 40) (h1 : hI h 34 4 = nI q) (h3 : ∀ k, k < q → hI h 35 k = hI h 86 k ∧ hI h 36 k = hI h 87 k) (x y : Int32) (ex : x = hI h 67 s) (ey : y = hI h 66 s) : c_X2_entriesOf F 34 x y h = some (nI (fb_ct (ent (mm h) s) q), h) := by
  subst ex; subst ey
  unfold c_X2_entriesOf
  refine lpS (L := fun m (u : Int32 × Int32) => c_X2_entriesOf_L5 F 34 (hI h 67 s) (hI h 66 s) m u.1 u.2 h) (fun k => (nI (fb_ct (ent (mm h) s) k), nI k)) q (fun m k hk => ?_) (fun m => ?_) F (by omega)
  · show c_X2_entriesOf_L5 F 34 (hI h 67 s) (hI h 66 s) (m + 1) (nI (fb_ct (ent (mm h) s) k)) (nI k) h = c_X2_entriesOf_L5 F 34 (hI h 67 s) (hI h 66 s) m (nI (fb_ct (ent (mm h) s) (k + 1))) (nI (k + 1)) h
    have b1 : okA h 35 20 (nI k) = true := okA_n (fT35 I) (fN35 I) (by omega) (by decide)
    have b2 : okA h 36 20 (nI k) = true := okA_n (fT36 I) (fN36 I) (by omega) (by decide)
    rw [c_X2_entriesOf_L5]
    simp only [fT34 I, fR34_0 I, fR34_1 I, if_true, h1, if_neg (nI_ge hk (show q < 2 ^ 31 by omega)), ltq, nnq, b1, b2, ix_n (show k < 2147483648 by omega), (h3 k hk).1, (h3 k hk).2, nI_1]
    by_cases c : hI h 86 k = hI h 67 s
    · rw [if_pos c]
      by_cases c2 : hI h 87 k = hI h 66 s
      · rw [if_pos c2, fb_y (ent_y c c2)]
      · rw [if_neg c2, fb_n (ent_n2 c2)]
    · rw [if_neg c, fb_n (ent_n1 c)]
  · show c_X2_entriesOf_L5 F 34 _ _ (m + 1) _ (nI q) h = _
    rw [c_X2_entriesOf_L5, fT34 I, if_pos rfl, h1, if_pos (nI_le (Nat.le_refl q) (by omega))]
theorem m_entries (I : Ifx h) (hF : 5000 ≤ F) {q s : Nat} (hs : s < 20) (hq : q ≤ 40) (h1 : hI h 46 49 = nI q) : c_X10_mark_L215 F 46 (nI s) F 0 0 h = some (nI (fb_ct (ent (mm h) s) q), h) := by
  refine lpS (L := fun m (u : Int32 × Int32) => c_X10_mark_L215 F 46 (nI s) m u.1 u.2 h) (fun k => (nI (fb_ct (ent (mm h) s) k), nI k)) q (fun m k hk => ?_) (fun m => ?_) F (by omega)
  · show c_X10_mark_L215 F 46 (nI s) (m + 1) (nI (fb_ct (ent (mm h) s) k)) (nI k) h = c_X10_mark_L215 F 46 (nI s) m (nI (fb_ct (ent (mm h) s) (k + 1))) (nI (k + 1)) h
    have b1 : okA h 86 20 (nI k) = true := okA_n (fT86 I) (fN86 I) (by omega) (by decide)
    have b2 : okA h 87 20 (nI k) = true := okA_n (fT87 I) (fN87 I) (by omega) (by decide)
    have b3 : okA h 67 20 (nI s) = true := okA_n (fT67 I) (fN67 I) (by omega) (by decide)
    have b4 : okA h 66 20 (nI s) = true := okA_n (fT66 I) (fN66 I) (by omega) (by decide)
    have z0 : nI (fb_ct (ent (mm h) s) k) + 0 = nI (fb_ct (ent (mm h) s) k) := by rw [show (0 : Int32) = nI 0 from rfl, nI_add]; rfl
    rw [c_X10_mark_L215]
    simp only [fT46 I, fR46_50 I, fR46_51 I, fR46_28 I, fR46_29 I, if_true, h1, if_neg (nI_ge hk (show q < 2 ^ 31 by omega)), ltq, nnq, b1, b2, b3, b4, ix_n (show k < 2147483648 by omega), ix_n (show s < 2147483648 by omega), nI_1, z0]
    by_cases c : hI h 86 k = hI h 67 s
    · rw [if_pos c]
      by_cases c2 : hI h 87 k = hI h 66 s
      · rw [if_pos c2, fb_y (ent_y c c2)]
      · rw [if_neg c2, fb_n (ent_n2 c2)]
    · rw [if_neg c, fb_n (ent_n1 c)]
  · show c_X10_mark_L215 F 46 (nI s) (m + 1) _ (nI q) h = _
    rw [c_X10_mark_L215, fT46 I, if_pos rfl, h1, if_pos (nI_le (Nat.le_refl q) (by omega))]
/-- t shares enough slips with s -/
def shr_ (M : Nat → Nat → Int32) (s t : Nat) : Bool := !(decide (t = s)) && !(decide (nI (pcn (ix (M 71 s) &&& ix (M 71 t)) 20) < now M 2))
theorem x_sharing (I : Ifx h) (hF : 5000 ≤ F) (hq : q ≤ 20) (h1 : hI h 14 1 = nI q) (h3 : ∀ s, s < q → ∃ a, hR h 15 s = some a ∧ shAt ow h s a) {s : Nat} (hs : s < q) : c_X6_sharing F 14 (nI s) (now (mm h) 2) h = some (nI (fb_ct (shr_ (mm h) s) q), h) := by
  unfold c_X6_sharing
  obtain ⟨a, ha, g⟩ := h3 s hs
  obtain ⟨k, hk, ek⟩ := g.2.2.2.2.2.2.2.2.2.2.2.2.2.2.2.2.2.2.2.2.1
  have e8 : hI h a 8 = nI k := g.2.2.2.2.2.2.2.2.2.2.1.trans ek
  have b1 : okA h 15 26 (nI s) = true := okA_n (fT15 I) (fN15 I) (by omega) (by decide)
  refine lpS (L := fun m (u : Int32 × Int32) => c_X6_sharing_L5 F 14 (nI s) (now (mm h) 2) m u.1 u.2 h) (fun t => (nI (fb_ct (shr_ (mm h) s) t), nI t)) q (fun m t ht => ?_) (fun m => ?_) F (by omega)
  · show c_X6_sharing_L5 F 14 (nI s) (now (mm h) 2) (m + 1) (nI (fb_ct (shr_ (mm h) s) t)) (nI t) h = c_X6_sharing_L5 F 14 (nI s) (now (mm h) 2) m (nI (fb_ct (shr_ (mm h) s) (t + 1))) (nI (t + 1)) h
    obtain ⟨b, hb, g'⟩ := h3 t ht
    obtain ⟨l, hl, el⟩ := g'.2.2.2.2.2.2.2.2.2.2.2.2.2.2.2.2.2.2.2.2.1
    have e8' : hI h b 8 = nI l := g'.2.2.2.2.2.2.2.2.2.2.1.trans el
    have b2 : okA h 15 26 (nI t) = true := okA_n (fT15 I) (fN15 I) (by omega) (by decide)
    have hkl : k &&& l < 65536 := Nat.and_lt_two_pow (n := 16) k hl
    have sv : shr_ (mm h) s t = (!(decide (t = s)) && !(decide (nI (pcn (k &&& l) 20) < now (mm h) 2))) := by
      unfold shr_; rw [(mm_rg2 h).2.2.2.2, ek, el, ix_n (by omega), ix_n (by omega)]
    rw [c_X6_sharing_L5]
    simp only [fT14 I, fR14_0 I, if_true, h1, if_neg (nI_ge ht (show q < 2 ^ 31 by omega)), ltq, nnq, b1, b2, ix_n (show s < 2147483648 by omega), ix_n (show t < 2147483648 by omega), ha, hb, g.1, g'.1, e8, e8', fa_and, bitc F (show k &&& l < 1048576 by omega), bIq, nI_1]
    by_cases c : t = s
    · subst c
      rw [if_pos rfl, fb_n (by rw [sv, decide_eq_true (rfl : t = t)]; rfl)]
    · rw [if_neg (fun e => c ((nI_eq (by omega) (by omega)).mp e))]
      by_cases c2 : nI (pcn (k &&& l) 20) < now (mm h) 2
      · rw [if_pos c2, fb_n (by rw [sv, decide_eq_true c2, Bool.not_true, Bool.and_false])]
      · rw [if_neg c2, fb_y (by rw [sv, decide_eq_false c2, decide_eq_false c]; rfl)]
  · show c_X6_sharing_L5 F 14 (nI s) _ (m + 1) _ (nI q) h = _
    rw [c_X6_sharing_L5, fT14 I, if_pos rfl, h1, if_pos (nI_le (Nat.le_refl q) (by omega))]
theorem m_areTaken (I : Ifx h) (R : Rrul h) (hF : 5000 ≤ F) {s t k l : Nat} (hs : s < 20) (ht : t < 20) (hk : k < 65536) (hl : l < 65536) (ek : hI h 71 s = nI k) (el : hI h 71 t = nI l) : c_X10_areTaken F 46 (nI s) (nI t) h = some (if nI (pcn (k &&& l) 20) < now (mm h) 2 then 0 else 1, h) := by
  have d1 : okA h 71 20 (nI s) = true := okA_n (fT71 I) (fN71 I) (by omega) (by decide)
  have d2 : okA h 71 20 (nI t) = true := okA_n (fT71 I) (fN71 I) (by omega) (by decide)
  have hkl : k &&& l < 65536 := Nat.and_lt_two_pow (n := 16) k hl
  unfold c_X10_areTaken
  simp only [fT46 I, if_true, lt_, nn, fR46_33 I, d1, d2, ix_n (show s < 2147483648 by omega), ix_n (show t < 2147483648 by omega), ek, el, fa_and, m_bits F (show k &&& l < 2147483648 by omega) hF, bI_some, m_now F I R hF 2 2 rfl (by decide)]
  by_cases z : nI (pcn (k &&& l) 20) < now (mm h) 2
  · rw [if_pos z, if_pos z]
  · rw [if_neg z, if_neg z]
theorem m_sharing (I : Ifx h) (R : Rrul h) (hF : 5000 ≤ F) (hq : q ≤ 20) (h1 : hI h 46 26 = nI q) (h3 : ∀ s, s < q → ∃ k, k < 65536 ∧ hI h 71 s = nI k) {s : Nat} (hs : s < q) : c_X10_mark_L132 F 46 (nI s) F 0 0 h = some (nI (fb_ct (shr_ (mm h) s) q), h) := by
  obtain ⟨k, hk, ek⟩ := h3 s hs
  refine lpS (L := fun m (u : Int32 × Int32) => c_X10_mark_L132 F 46 (nI s) m u.1 u.2 h) (fun t => (nI (fb_ct (shr_ (mm h) s) t), nI t)) q (fun m t ht => ?_) (fun m => ?_) F (by omega)
  · show c_X10_mark_L132 F 46 (nI s) (m + 1) (nI (fb_ct (shr_ (mm h) s) t)) (nI t) h = c_X10_mark_L132 F 46 (nI s) m (nI (fb_ct (shr_ (mm h) s) (t + 1))) (nI (t + 1)) h
    obtain ⟨l, hl, el⟩ := h3 t ht
    have sv : shr_ (mm h) s t = (!(decide (t = s)) && !(decide (nI (pcn (k &&& l) 20) < now (mm h) 2))) := by
      unfold shr_; rw [(mm_rg2 h).2.2.2.2, ek, el, ix_n (by omega), ix_n (by omega)]
    have z0 : nI (fb_ct (shr_ (mm h) s) t) + 0 = nI (fb_ct (shr_ (mm h) s) t) := by rw [show (0 : Int32) = nI 0 from rfl, nI_add]; rfl
    rw [c_X10_mark_L132]
    simp only [fT46 I, if_true, h1, if_neg (nI_ge ht (show q < 2 ^ 31 by omega)), ltq, nI_1, z0, m_areTaken F I R hF (show s < 20 by omega) (show t < 20 by omega) hk hl ek el, bIq]
    by_cases c : t = s
    · subst c
      rw [if_pos rfl, fb_n (by rw [sv, decide_eq_true (rfl : t = t)]; rfl)]
    · rw [if_neg (fun e => c ((nI_eq (by omega) (by omega)).mp e))]
      by_cases c2 : nI (pcn (k &&& l) 20) < now (mm h) 2
      · rw [if_pos c2, ite00, fb_n (by rw [sv, decide_eq_true c2, Bool.not_true, Bool.and_false])]
      · rw [if_neg c2, ite10, fb_y (by rw [sv, decide_eq_false c2, decide_eq_false c]; rfl)]
  · show c_X10_mark_L132 F 46 (nI s) (m + 1) _ (nI q) h = _
    rw [c_X10_mark_L132, fT46 I, if_pos rfl, h1, if_pos (nI_le (Nat.le_refl q) (by omega))]
theorem op_mark (hF : 5000 ≤ F) (J : Inv h) : OkI h (c_X9_mark F 5 x1 x2 h) (c_X10_mark F 46 x1 x2) := by
  obtain ⟨ow, J⟩ := J
  have o := J.1
  have I := J.2.1
  have S := J.sta
  obtain ⟨q, hq, h1, h2, h3, h4, h5⟩ := J.she
  unfold c_X9_mark c_X10_mark
  by_cases c1 : 0 ≤ x1.toInt ∧ x1.toInt ≤ (q : Int) - 1
  · by_cases c2 : 1 ≤ x2.toInt ∧ x2.toInt ≤ 6
    · obtain ⟨s, hs, rfl⟩ := rng (x := x1) (n := 19) ⟨c1.1, by omega⟩
      have hsq : s < q := by have := c1; rw [toI_n (by omega)] at this; omega
      obtain ⟨w, hw, rfl⟩ := rng (x := x2) (n := 6) ⟨by omega, by omega⟩
      have hw1 : 1 ≤ w := by have := c2.1; rw [toI_n (by omega)] at this; omega
      obtain ⟨a, ha, g⟩ := h3 s hsq
      obtain ⟨k, hk, ek⟩ := g.2.2.2.2.2.2.2.2.2.2.2.2.2.2.1
      have b1 : okA h 15 26 (nI s) = true := okA_n (fT15 I) (fN15 I) (by omega) (by decide)
      have w0 : ¬ nI w ≤ 0 := by rw [show (0 : Int32) = nI 0 from rfl]; exact nI_ge (by omega) (by omega)
      have w7 : nI w < 7 := nI_lt (b := 7) (by omega) (by decide)
      have w1' : ¬ nI w < 1 := nI_nlt (b := 1) (by omega) (by omega)
      have w6 : ¬ (6 : Int32) < nI w := nI_nlt (a := 6) (by omega) (by omega)
      -- the reference's way to the kind, on a heap like this one
      have mk : ∀ h1 : z_Hp, Ifx h1 → hI h1 46 26 = nI q → hI h1 65 s = nI k → c_X10_mark F 46 (nI s) (nI w) h1 = (fun (x10 : Int32) (h11 : z_Hp) => (if x10 = 0 then (if hT h11 46 = 10 then (bI (c_X10_meets F 46 3 h11) (fun x60 h59 => (some (x60, h59)))) else none) else (if (nI w : Int32).toInt < 1 ∨ 5 < (nI w : Int32).toInt then (c_X10_mark_L215 F 46 (nI s) F 0 0 h11) else (if nI w = 1 then (if hT h11 46 = 10 then (bI (c_X10_copiesLike F 46 (nI s) h11) (fun x33 h32 => (some (x33, h32)))) else none) else (if nI w = 2 then (if hT h11 46 = 10 then (lt_ (hR h11 46 37) (fun o34 => (nn o34 (fun a35 => (if okA h11 a35 20 (nI s) = true then (some (hI h11 a35 (ix (nI s)), h11)) else none))))) else none) else (if nI w = 3 then (c_X10_mark_L132 F 46 (nI s) F 0 0 h11) else (if nI w = 4 then (if hT h11 46 = 10 then (lt_ (hR h11 46 36) (fun o50 => (nn o50 (fun a51 => (if okA h11 a51 20 (nI s) = true then (some (hI h11 a51 (ix (nI s)), h11)) else none))))) else none) else (if nI w = 5 then (if hT h11 46 = 10 then (lt_ (hR h11 46 29) (fun o52 => (nn o52 (fun a53 => (if okA h11 a53 20 (nI s) = true then (if hT h11 46 = 10 then (lt_ (fun (x55 : Int32) (h56 : z_Hp) => (if hT h56 46 = 10 then (bI (c_X10_sellersWith F 46 (hI h11 a53 (ix (nI s))) x55 h56) (fun x58 h57 => (some (x58, h57)))) else none)) (fun (j208_54 : Int32 → z_Hp → Option (Int32 × z_Hp)) => (if 100 ≤ (hI h11 46 6) then (j208_54 99 h11) else (if hT h11 46 = 10 then (j208_54 (hI h11 46 6) h11) else none)))) else none) else none))))) else none) else none)))))))) (if isOfk k (nI w) then 1 else 0) h1 := by
        intro h1 I1 e1 e2
        have b2 : okA h1 65 20 (nI s) = true := okA_n (fT65 I1) (fN65 I1) (by omega) (by decide)
        unfold c_X10_mark
        rw [fT46 I1, if_pos rfl, m_isSheet I1 hq e1, bI_some, if_pos c1, ite10]
        unfold c_X10_in
        rw [if_neg w1', if_neg w6, bI_some, ite10, if_pos (fT46 I1), fR46_27 I1, ltq, nnq, if_pos b2, m_kindT I1 (show s < 20 by omega) hk hw1 (by omega) e2]
      have xk : c_X5_isOf F a (nI w) h = some (if isOfk k (nI w) then 1 else 0, h) := x_isOf F S g ek hk (nI w)
      by_cases kc : isOfk k (nI w)
      · have hc : w = 1 ∨ w = 2 ∨ w = 3 ∨ w = 4 ∨ w = 5 ∨ w = 6 := by omega
        rcases hc with rfl | rfl | rfl | rfl | rfl | rfl
        · refine OkI.same (nI (clk (mm h) q s)) ⟨ow, J⟩ ?_ ?_
          · rw [fT5 I, if_pos rfl, x_isSheet I hq h1, bI_some, if_pos c1, ite10, if_neg w0, if_pos w7]
            simp only [fT5 I, fR5_6 I, fR5_10 I, fR5_11 I, fT14 I, fR14_0 I, fT34 I, fT39 I, if_true, if_false, ltq, nnq, b1, ix_n (show s < 2147483648 by omega), ha, g.1, xk, if_pos kc, one0, show (nI 1 = (1 : Int32)) = True from by decide, show (nI 1 = (2 : Int32)) = False from by decide, show (nI 1 = (3 : Int32)) = False from by decide, show (nI 1 = (4 : Int32)) = False from by decide, show (nI 1 = (5 : Int32)) = False from by decide, show ((nI 1 : Int32).toInt < 1 ∨ 5 < (nI 1 : Int32).toInt) = False from by decide, bIq, x_left F I S hF hq h1 h3 g]
          · have := mk h I h2 ek
            unfold c_X10_mark at this
            rw [this, if_pos kc]
            simp only [fT46 I, fR46_29 I, fR46_36 I, fR46_37 I, if_true, if_false, ltq, nnq, ix_n (show s < 2147483648 by omega), one0, show (nI 1 = (1 : Int32)) = True from by decide, show (nI 1 = (2 : Int32)) = False from by decide, show (nI 1 = (3 : Int32)) = False from by decide, show (nI 1 = (4 : Int32)) = False from by decide, show (nI 1 = (5 : Int32)) = False from by decide, show ((nI 1 : Int32).toInt < 1 ∨ 5 < (nI 1 : Int32).toInt) = False from by decide, bIq, m_clk F I hF hq h2 (show s < 20 by omega)]
        · obtain ⟨b, n, f1, f2, f3, f4, f5, -⟩ := shcut20 S g
          have b75 : okA h 75 20 (nI s) = true := okA_n (fT75 I) (fN75 I) (by omega) (by decide)
          refine OkI.same (hI h 75 s) ⟨ow, J⟩ ?_ ?_
          · rw [fT5 I, if_pos rfl, x_isSheet I hq h1, bI_some, if_pos c1, ite10, if_neg w0, if_pos w7]
            simp only [fT5 I, fR5_6 I, fR5_10 I, fR5_11 I, fT14 I, fR14_0 I, fT34 I, fT39 I, if_true, if_false, ltq, nnq, b1, ix_n (show s < 2147483648 by omega), ha, g.1, xk, if_pos kc, one0, show (nI 2 = (1 : Int32)) = False from by decide, show (nI 2 = (2 : Int32)) = True from by decide, show (nI 2 = (3 : Int32)) = False from by decide, show (nI 2 = (4 : Int32)) = False from by decide, show (nI 2 = (5 : Int32)) = False from by decide, show ((nI 2 : Int32).toInt < 1 ∨ 5 < (nI 2 : Int32).toInt) = False from by decide, bIq, f1, f5, f2, f4]
          · have := mk h I h2 ek
            unfold c_X10_mark at this
            rw [this, if_pos kc]
            simp only [fT46 I, fR46_29 I, fR46_36 I, fR46_37 I, if_true, if_false, ltq, nnq, ix_n (show s < 2147483648 by omega), one0, show (nI 2 = (1 : Int32)) = False from by decide, show (nI 2 = (2 : Int32)) = True from by decide, show (nI 2 = (3 : Int32)) = False from by decide, show (nI 2 = (4 : Int32)) = False from by decide, show (nI 2 = (5 : Int32)) = False from by decide, show ((nI 2 : Int32).toInt < 1 ∨ 5 < (nI 2 : Int32).toInt) = False from by decide, bIq, b75]
        · refine OkI.same (nI (fb_ct (shr_ (mm h) s) q)) ⟨ow, J⟩ ?_ ?_
          · rw [fT5 I, if_pos rfl, x_isSheet I hq h1, bI_some, if_pos c1, ite10, if_neg w0, if_pos w7]
            simp only [fT5 I, fR5_6 I, fR5_10 I, fR5_11 I, fT14 I, fR14_0 I, fT34 I, fT39 I, if_true, if_false, ltq, nnq, b1, ix_n (show s < 2147483648 by omega), ha, g.1, xk, if_pos kc, one0, show (nI 3 = (1 : Int32)) = False from by decide, show (nI 3 = (2 : Int32)) = False from by decide, show (nI 3 = (3 : Int32)) = True from by decide, show (nI 3 = (4 : Int32)) = False from by decide, show (nI 3 = (5 : Int32)) = False from by decide, show ((nI 3 : Int32).toInt < 1 ∨ 5 < (nI 3 : Int32).toInt) = False from by decide, bIq, x_now F I S J.rul J.tod hF 2 2 rfl (by decide), x_sharing F I hF hq h1 h3 hsq]
          · have := mk h I h2 ek
            unfold c_X10_mark at this
            rw [this, if_pos kc]
            simp only [fT46 I, fR46_29 I, fR46_36 I, fR46_37 I, if_true, if_false, ltq, nnq, ix_n (show s < 2147483648 by omega), one0, show (nI 3 = (1 : Int32)) = False from by decide, show (nI 3 = (2 : Int32)) = False from by decide, show (nI 3 = (3 : Int32)) = True from by decide, show (nI 3 = (4 : Int32)) = False from by decide, show (nI 3 = (5 : Int32)) = False from by decide, show ((nI 3 : Int32).toInt < 1 ∨ 5 < (nI 3 : Int32).toInt) = False from by decide, bIq, m_sharing F I J.rul hF hq h2 (fun t ht => by obtain ⟨b, hb, g'⟩ := h3 t ht; exact g'.2.2.2.2.2.2.2.2.2.2.2.2.2.2.2.2.2.2.2.2.1) hsq]
        · have b74 : okA h 74 20 (nI s) = true := okA_n (fT74 I) (fN74 I) (by omega) (by decide)
          refine OkI.same (hI h 74 s) ⟨ow, J⟩ ?_ ?_
          · rw [fT5 I, if_pos rfl, x_isSheet I hq h1, bI_some, if_pos c1, ite10, if_neg w0, if_pos w7]
            simp only [fT5 I, fR5_6 I, fR5_10 I, fR5_11 I, fT14 I, fR14_0 I, fT34 I, fT39 I, if_true, if_false, ltq, nnq, b1, ix_n (show s < 2147483648 by omega), ha, g.1, xk, if_pos kc, one0, show (nI 4 = (1 : Int32)) = False from by decide, show (nI 4 = (2 : Int32)) = False from by decide, show (nI 4 = (3 : Int32)) = False from by decide, show (nI 4 = (4 : Int32)) = True from by decide, show (nI 4 = (5 : Int32)) = False from by decide, show ((nI 4 : Int32).toInt < 1 ∨ 5 < (nI 4 : Int32).toInt) = False from by decide, bIq, g.2.2.2.2.2.2.1]
          · have := mk h I h2 ek
            unfold c_X10_mark at this
            rw [this, if_pos kc]
            simp only [fT46 I, fR46_29 I, fR46_36 I, fR46_37 I, if_true, if_false, ltq, nnq, ix_n (show s < 2147483648 by omega), one0, show (nI 4 = (1 : Int32)) = False from by decide, show (nI 4 = (2 : Int32)) = False from by decide, show (nI 4 = (3 : Int32)) = False from by decide, show (nI 4 = (4 : Int32)) = True from by decide, show (nI 4 = (5 : Int32)) = False from by decide, show ((nI 4 : Int32).toInt < 1 ∨ 5 < (nI 4 : Int32).toInt) = False from by decide, bIq, b74]
        · obtain ⟨td, htd, t1, t2⟩ := J.tod
          obtain ⟨d, hd, dx, dm⟩ : ∃ d, d < 100 ∧ (if (99 : Int32) < nI td then (99 : Int32) else nI td) = nI d ∧ ((¬ (100 : Int32) ≤ nI td ∧ td = d) ∨ ((100 : Int32) ≤ nI td ∧ d = 99)) := by
            by_cases e : td < 100
            · exact ⟨td, e, if_neg (nI_nlt (a := 99) (by omega) (by omega)), Or.inl ⟨nI_ge (b := 100) e (by decide), rfl⟩⟩
            · exact ⟨99, by decide, if_pos (nI_lt (a := 99) (by omega) (by omega)), Or.inr ⟨nI_le (a := 100) (by omega) (by omega), rfl⟩⟩
          obtain ⟨h1', e1, e2⟩ := x_havers F J hF hd (hI h 67 s)
          obtain ⟨s1, m1⟩ := c44_st J e2
          have J1 := J.sc s1
          have I1 := J1.2.1
          obtain ⟨h2', e3, e4, -⟩ := m_whoCan F J1 hF hd (hI h 67 s) (-9) (Or.inl rfl)
          have J2 := J1.sc (e4.st J1.2.1 J1.1 A60_sc)
          rw [m1] at e3
          have lt := hv_lt (mm h) (pfv (mm h) (hI h 67 s) (ix (mm h 46 55))) (d + 1)
          have f67 : hI h1' 67 s = hI h 67 s := e2.1 67 s (by omega)
          have f6 : hI h1' 46 6 = nI td := (e2.1 46 6 (by omega)).trans t2
          have b67 : okA h1' 67 20 (nI s) = true := okA_n (fT67 I1) (fN67 I1) (by omega) (by decide)
          have sw : c_X10_sellersWith F 46 (hI h 67 s) (nI d) h1' = some (nI (pcn (hv (mm h) (pfv (mm h) (hI h 67 s) (ix (mm h 46 55))) (d + 1)) 20), h2') := by
            unfold c_X10_sellersWith
            rw [fT46 I1, if_pos rfl, e3, bI_some, m_bits F (by omega) hF, bI_some]
          refine ⟨nI (pcn (hv (mm h) (pfv (mm h) (hI h 67 s) (ix (mm h 46 55))) (d + 1)) 20), h1', h2', ?_, ?_, ⟨ow, J2⟩, ?_, ?_⟩
          · rw [fT5 I, if_pos rfl, x_isSheet I hq h1, bI_some, if_pos c1, ite10, if_neg w0, if_pos w7]
            simp only [fT5 I, fR5_6 I, fR5_10 I, fR5_11 I, fT14 I, fR14_0 I, fT34 I, fT39 I, if_true, if_false, ltq, nnq, b1, ix_n (show s < 2147483648 by omega), ha, g.1, xk, if_pos kc, one0, show (nI 5 = (1 : Int32)) = False from by decide, show (nI 5 = (2 : Int32)) = False from by decide, show (nI 5 = (3 : Int32)) = False from by decide, show (nI 5 = (4 : Int32)) = False from by decide, show (nI 5 = (5 : Int32)) = True from by decide, show ((nI 5 : Int32).toInt < 1 ∨ 5 < (nI 5 : Int32).toInt) = False from by decide, bIq, g.2.2.2.2.2.1, t1, x_min, dx, e1, bitc F lt]
          · have := mk h1' I1 ((e2.1 46 26 (by omega)).trans h2) ((e2.1 65 s (by omega)).trans ek)
            unfold c_X10_mark at this
            dsimp only
            rw [this, if_pos kc]
            simp only [fT46 I1, fR46_29 I1, if_true, if_false, ltq, nnq, ix_n (show s < 2147483648 by omega), one0, b67, f67, f6, show (nI 5 = (1 : Int32)) = False from by decide, show (nI 5 = (2 : Int32)) = False from by decide, show (nI 5 = (3 : Int32)) = False from by decide, show (nI 5 = (4 : Int32)) = False from by decide, show (nI 5 = (5 : Int32)) = True from by decide, show ((nI 5 : Int32).toInt < 1 ∨ 5 < (nI 5 : Int32).toInt) = False from by decide]
            rcases dm with ⟨y1, y2⟩ | ⟨y1, y2⟩
            · rw [if_neg y1, y2, sw, bI_some]
            · rw [if_pos y1]; subst y2; rw [show (99 : Int32) = nI 99 from rfl, sw, bI_some]
          · have := e4.Z.1; have := e2.Z.1; omega
          · have := e4.Z.2; have := e2.Z.2; omega
        · obtain ⟨r, hr, r1, r2, r3, -⟩ := J.reg
          refine OkI.same (nI (fb_ct (ent (mm h) s) r)) ⟨ow, J⟩ ?_ ?_
          · rw [fT5 I, if_pos rfl, x_isSheet I hq h1, bI_some, if_pos c1, ite10, if_neg w0, if_pos w7]
            simp only [fT5 I, fR5_6 I, fR5_10 I, fR5_11 I, fT14 I, fR14_0 I, fT34 I, fT39 I, if_true, if_false, ltq, nnq, b1, ix_n (show s < 2147483648 by omega), ha, g.1, xk, if_pos kc, one0, show (nI 6 = (1 : Int32)) = False from by decide, show (nI 6 = (2 : Int32)) = False from by decide, show (nI 6 = (3 : Int32)) = False from by decide, show (nI 6 = (4 : Int32)) = False from by decide, show (nI 6 = (5 : Int32)) = False from by decide, show ((nI 6 : Int32).toInt < 1 ∨ 5 < (nI 6 : Int32).toInt) = True from by decide, bIq, x_entries F I hF hr r1 (fun k hk => ⟨(r3 k hk).1, (r3 k hk).2.1⟩) _ _ g.2.2.2.2.2.1 g.2.2.2.2.1]
          · have := mk h I h2 ek
            unfold c_X10_mark at this
            rw [this, if_pos kc]
            simp only [fT46 I, fR46_29 I, fR46_36 I, fR46_37 I, if_true, if_false, ltq, nnq, ix_n (show s < 2147483648 by omega), one0, show (nI 6 = (1 : Int32)) = False from by decide, show (nI 6 = (2 : Int32)) = False from by decide, show (nI 6 = (3 : Int32)) = False from by decide, show (nI 6 = (4 : Int32)) = False from by decide, show (nI 6 = (5 : Int32)) = False from by decide, show ((nI 6 : Int32).toInt < 1 ∨ 5 < (nI 6 : Int32).toInt) = True from by decide, bIq, m_entries F I hF (show s < 20 by omega) hr r2]
      · refine OkI.found0 3 (by decide) J (F := F) ?_ ?_
        · rw [fT5 I, if_pos rfl, x_isSheet I hq h1, bI_some, if_pos c1, ite10, if_neg w0, if_pos w7]
          simp only [fT5 I, fR5_6 I, fT14 I, fR14_0 I, if_true, ltq, nnq, b1, ix_n (show s < 2147483648 by omega), ha, g.1, xk, if_neg kc, bIq, bI_id]; rfl
        · intro h' s'
          have I' := I.st o s' (by decide)
          have := mk h' I' ((s'.fam I o (c := 66) (by decide) 46 26 (by omega) rfl).1.trans h2) ((s'.fam I o (c := 66) (by decide) 65 s (by omega) rfl).1.trans ek)
          unfold c_X10_mark at this
          rw [this, if_neg kc]
          dsimp only
          rw [if_pos rfl, fT46 I', if_pos rfl, bI_id]; rfl
    · have cc : nI 0 = (0 : Int32) := rfl
      refine OkI.same (-1) ⟨ow, J⟩ ?_ ?_
      · rw [fT5 I, if_pos rfl, x_isSheet I hq h1, bI_some, if_pos c1, ite10]
        by_cases d : x2 ≤ 0
        · rw [if_pos d]
        · rw [if_neg d, if_neg]
          intro e
          rw [Int32.le_iff_toInt_le] at d
          rw [Int32.lt_iff_toInt_lt] at e
          have : (7 : Int32).toInt = 7 := rfl
          have : (0 : Int32).toInt = 0 := rfl
          omega
      · rw [fT46 I, if_pos rfl, m_isSheet I hq h2, bI_some, if_pos c1, ite10]
        unfold c_X10_in
        by_cases d : x2 < 1
        · rw [if_pos d, bI_some, ite00]
        · rw [if_neg d, if_pos, bI_some, ite00]
          rw [Int32.lt_iff_toInt_lt] at d ⊢
          have : (1 : Int32).toInt = 1 := rfl
          have : (6 : Int32).toInt = 6 := rfl
          omega
  · exact OkI.same (-1) ⟨ow, J⟩ (by rw [fT5 I, if_pos rfl, x_isSheet I hq h1, bI_some, if_neg c1, ite00]) (by rw [fT46 I, if_pos rfl, m_isSheet I hq h2, bI_some, if_neg c1, ite00])
end OpsT
