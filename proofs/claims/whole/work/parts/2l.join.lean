section OpsG
variable {h : z_Hp} (F : Nat) (x1 x2 x3 x4 x5 : Int32)
theorem cmp_lt (x y : Int64) : (lg_cmp x y < 0) ↔ x.toInt < y.toInt := by
  unfold lg_cmp
  by_cases c1 : x > y
  · rw [if_pos c1]
    have := (fa_lt64 y x).mp c1
    exact ⟨fun g => absurd g (by decide), fun g => by omega⟩
  · rw [if_neg c1]
    have c1' : ¬ y.toInt < x.toInt := fun g => c1 ((fa_lt64 y x).mpr g)
    by_cases c2 : x = y
    · rw [if_pos c2]
      subst c2
      exact ⟨fun g => absurd g (by decide), fun g => by omega⟩
    · rw [if_neg c2]
      have : x.toInt ≠ y.toInt := fun e => c2 (Int64.toInt_inj.mp e)
      exact ⟨fun _ => by omega, fun _ => by decide⟩
theorem cmp_ge (x y : Int64) : (0 ≤ lg_cmp x y) ↔ y.toInt ≤ x.toInt := by
  have a := cmp_lt x y
  constructor
  · intro g
    apply Int.not_lt.mp
    intro g2
    have := a.mpr g2
    rw [fa_lt] at this; rw [fa_le] at g; omega
  · intro g
    rw [fa_le]
    have : ¬ lg_cmp x y < 0 := fun g2 => by have := a.mp g2; omega
    rw [fa_lt] at this; omega
def offk (u v : Nat → Int32) (k : Nat) : Int64 := (((u k).toInt64 + (v k).toInt64) - (u 0).toInt64) - (v 0).toInt64
def ab64 (b : Int64) : Int64 := if b.toInt < 0 then -b else b
def stO (b y : Int64) : Int64 := if y.toInt < (ab64 b).toInt then ab64 b else y
theorem off_rng (u v : Nat → Int32) (k : Nat) : -10000000000 ≤ (offk u v k).toInt ∧ (offk u v k).toInt ≤ 10000000000 := by
  unfold offk
  have a := fb_rng (u k)
  have b := fb_rng (v k)
  have c := fb_rng (u 0)
  have d := fb_rng (v 0)
  have e1 := sum64 (u k) (v k)
  have e2 : (((u k).toInt64 + (v k).toInt64) - (u 0).toInt64).toInt = (u k).toInt + (v k).toInt - (u 0).toInt := by
    rw [fb_subL (by rw [e1, Int32.toInt_toInt64]; omega) (by rw [e1, Int32.toInt_toInt64]; omega), e1, Int32.toInt_toInt64]
  rw [fb_subL (by rw [e2, Int32.toInt_toInt64]; omega) (by rw [e2, Int32.toInt_toInt64]; omega), e2, Int32.toInt_toInt64]
  omega
theorem neg64 {b : Int64} (h : -10000000000 ≤ b.toInt ∧ b.toInt ≤ 10000000000) : (-b).toInt = -b.toInt := by
  have e : -b = 0 - b := by simp
  rw [e, fb_subL (by show _ ≤ (0 : Int) - _; omega) (by show (0 : Int) - _ < _; omega)]
  show (0 : Int) - b.toInt = _
  omega
theorem x_max64 (u v : Int64) : c_J9_max_f86c9 F u v h = some (if u.toInt < v.toInt then v else u, h) := by
  unfold c_J9_max_f86c9
  simp only [cmp_lt]
  split <;> rfl
theorem mxab {b : Int64} (h : -10000000000 ≤ b.toInt ∧ b.toInt ≤ 10000000000) : (if b.toInt < (-b).toInt then -b else b) = ab64 b := by
  unfold ab64
  rw [neg64 h]
  by_cases c : b.toInt < 0
  · rw [if_pos c, if_pos (by omega)]
  · rw [if_neg c, if_neg (by omega)]
theorem shcut20 {ow : Ow} {s a : Nat} (S : Rsta h) (g : shAt ow h s a) : ∃ b n, hR h a 4 = some b ∧ hN h b = n ∧ n ≤ 40 ∧ hI h 75 s = nI n ∧ okL h b = true ∧ (0 < n → hT h b = 20) ∧ ∀ k, k < n → hI h b k = hI h 76 (40 * s + k) := by
  obtain ⟨b, n, k1, k2, k3, k4, k5, k6, k7⟩ := g.2.2.2.2.2.2.2.2.2.2.2.2.2.1
  refine ⟨b, n, k1, k3, k4, k5, okL_n k2 (by split <;> decide) (by split <;> decide), fun hn => ?_, k7⟩
  have : b ≠ 1 := fun e => by
    rw [e, S.2.2.1] at k3
    omega
  rw [k2, if_neg this]
theorem x_isOf {ow : Ow} {s a k : Nat} (S : Rsta h) (g : shAt ow h s a) (hk : hI h 65 s = nI k) (hk7 : k < 7) (x : Int32) : c_X5_isOf F a x h = some (if nI k = x ∨ z_tab 0 k = x then 1 else 0, h) := by
  have e0 : hI h a 0 = nI k := g.2.2.2.1.trans hk
  unfold c_X5_isOf
  rw [g.1, if_pos rfl, e0]
  by_cases c : nI k = x
  · rw [if_pos c, if_pos (Or.inl c)]
  · rw [if_neg c, if_pos rfl, S.2.1, if_pos (inb_n hk7 (by decide)), ix_n (by omega), S.2.2.2.2.2 0 k (by decide)]
    by_cases c2 : z_tab 0 k = x
    · rw [if_pos c2, if_pos (Or.inr c2)]
    · rw [if_neg c2, if_neg (fun e => e.elim c c2)]
theorem tab02 {k : Nat} (hk : k < 7) : ¬ z_tab 0 k = 2 := by
  rcases (show k = 0 ∨ k = 1 ∨ k = 2 ∨ k = 3 ∨ k = 4 ∨ k = 5 ∨ k = 6 by omega) with rfl | rfl | rfl | rfl | rfl | rfl | rfl <;> decide
theorem x_isHalf {ow : Ow} {s a : Nat} (S : Rsta h) (g : shAt ow h s a) : c_X5_isOf F a 2 h = some (if hI h 65 s = 2 then 1 else 0, h) := by
  obtain ⟨k, hk7, hk⟩ := g.2.2.2.2.2.2.2.2.2.2.2.2.2.2.1
  rw [x_isOf F S g hk hk7, hk]
  by_cases c : nI k = 2
  · rw [if_pos (Or.inl c), if_pos c]
  · rw [if_neg (fun e => e.elim c (tab02 hk7)), if_neg c]
theorem x_cutOff {ow : Ow} {s t a b n : Nat} (S : Rsta h) (hF : 5000 ≤ F) (g : shAt ow h s a) (g' : shAt ow h t b) (e1 : hI h 75 s = nI n) (e2 : hI h 75 t = nI n) (hn : n ≤ 40) : c_X5_cutOff F a (some b) h = some (itr (fun k y => stO (offk (fun k => hI h 76 (40 * s + k)) (fun k => hI h 76 (40 * t + k)) k) y) 0 n, h) := by
  obtain ⟨c, m, k1, k2, k3, k4, k5, k6, k7⟩ := shcut20 S g
  obtain ⟨d, m', l1, l2, l3, l4, l5, l6, l7⟩ := shcut20 S g'
  have hm : m = n := by rw [e1, nI_eq (by omega) (by omega)] at k4; omega
  have hm' : m' = n := by rw [e2, nI_eq (by omega) (by omega)] at l4; omega
  subst hm; subst hm'
  unfold c_X5_cutOff
  refine lpS (L := fun z (s : Int64 × Int32) => c_X5_cutOff_L5 F a (some b) z s.1 s.2 h) (fun k => (itr (fun k y => stO (offk (fun k => hI h 76 (40 * s + k)) (fun k => hI h 76 (40 * t + k)) k) y) 0 k, nI k)) m' (fun z k hk => ?_) (fun z => ?_) F (by omega)
  · show c_X5_cutOff_L5 F a (some b) (z + 1) _ (nI k) h = _
    have b1 : okA h c 20 (nI k) = true := okA_n (k6 (by omega)) k2 (by omega) (by omega)
    have b2 : okA h d 20 (nI k) = true := okA_n (l6 (by omega)) l2 (by omega) (by omega)
    have b3 : okA h c 20 0 = true := okA_n (k := 0) (k6 (by omega)) k2 (by omega) (by omega)
    have b4 : okA h d 20 0 = true := okA_n (k := 0) (l6 (by omega)) l2 (by omega) (by omega)
    have i0 : ix (0 : Int32) = 0 := rfl
    have rr := off_rng (fun k => hI h 76 (40 * s + k)) (fun k => hI h 76 (40 * t + k)) k
    have ro : (((hI h c k).toInt64 + (hI h d k).toInt64) - (hI h c 0).toInt64) - (hI h d 0).toInt64 = offk (fun k => hI h 76 (40 * s + k)) (fun k => hI h 76 (40 * t + k)) k := by
      unfold offk
      rw [k7 k (by omega), k7 0 (by omega), l7 k (by omega), l7 0 (by omega)]
    rw [c_X5_cutOff_L5]
    simp only [g.1, g'.1, if_true, lt_, nn, k1, l1, k5, l5, k2, l2, if_neg (nI_ge hk (show m' < 2 ^ 31 by omega)), b1, b2, b3, b4, ix_n (show k < 2147483648 by omega), i0, ro, x_max64, bL_some, mxab rr, nI_1]
    rfl
  · show c_X5_cutOff_L5 F a (some b) (z + 1) _ (nI m') h = _
    rw [c_X5_cutOff_L5]
    simp only [g.1, if_true, lt_, nn, k1, k5, k2, if_pos (nI_le (Nat.le_refl m') (show m' < 2 ^ 31 by omega))]
theorem m_join_L86 (I : Ifx h) {s t n N : Nat} (hs : s < 20) (ht : t < 20) (e1 : hI h 75 s = nI n) (hn : n ≤ 40) (hN : n < N) (K : Int64 → z_Hp → Option (Int32 × z_Hp)) : c_X10_join_L86 F 46 (nI s) (nI t) K N 0 0 h = K (itr (fun k y => stO (offk (fun k => hI h 76 (40 * s + k)) (fun k => hI h 76 (40 * t + k)) k) y) 0 n) h := by
  have b0 : okA h 75 20 (nI s) = true := okA_n (fT75 I) (fN75 I) (by omega) (by decide)
  refine lpS (L := fun z (q : Int64 × Int32) => c_X10_join_L86 F 46 (nI s) (nI t) K z q.1 q.2 h) (fun k => (itr (fun k y => stO (offk (fun k => hI h 76 (40 * s + k)) (fun k => hI h 76 (40 * t + k)) k) y) 0 k, nI k)) n (fun z k hk => ?_) (fun z => ?_) N hN
  · show c_X10_join_L86 F 46 (nI s) (nI t) K (z + 1) (itr (fun k y => stO (offk (fun k => hI h 76 (40 * s + k)) (fun k => hI h 76 (40 * t + k)) k) y) 0 k) (nI k) h = c_X10_join_L86 F 46 (nI s) (nI t) K z (stO (offk (fun k => hI h 76 (40 * s + k)) (fun k => hI h 76 (40 * t + k)) k) (itr (fun k y => stO (offk (fun k => hI h 76 (40 * s + k)) (fun k => hI h 76 (40 * t + k)) k) y) 0 k)) (nI (k + 1)) h
    generalize itr (fun k y => stO (offk (fun k => hI h 76 (40 * s + k)) (fun k => hI h 76 (40 * t + k)) k) y) 0 k = acc
    have f1 : (40 : Int32) * nI s + nI k = nI (40 * s + k) := by rw [show (40 : Int32) = nI 40 from rfl, nI_mul, nI_add]
    have f2 : (40 : Int32) * nI t + nI k = nI (40 * t + k) := by rw [show (40 : Int32) = nI 40 from rfl, nI_mul, nI_add]
    have f3 : (40 : Int32) * nI s = nI (40 * s) := by rw [show (40 : Int32) = nI 40 from rfl, nI_mul]
    have f4 : (40 : Int32) * nI t = nI (40 * t) := by rw [show (40 : Int32) = nI 40 from rfl, nI_mul]
    have b1 : okA h 76 20 (nI (40 * s + k)) = true := okA_n (fT76 I) (fN76 I) (by omega) (by decide)
    have b2 : okA h 76 20 (nI (40 * t + k)) = true := okA_n (fT76 I) (fN76 I) (by omega) (by decide)
    have b3 : okA h 76 20 (nI (40 * s)) = true := okA_n (fT76 I) (fN76 I) (by omega) (by decide)
    have b4 : okA h 76 20 (nI (40 * t)) = true := okA_n (fT76 I) (fN76 I) (by omega) (by decide)
    have rr := off_rng (fun k => hI h 76 (40 * s + k)) (fun k => hI h 76 (40 * t + k)) k
    have ro : (((hI h 76 (40 * s + k)).toInt64 + (hI h 76 (40 * t + k)).toInt64) - (hI h 76 (40 * s)).toInt64) - (hI h 76 (40 * t)).toInt64 = offk (fun k => hI h 76 (40 * s + k)) (fun k => hI h 76 (40 * t + k)) k := rfl
    rw [c_X10_join_L86]
    simp only [fT46 I, if_true, lt_, nn, fR46_37 I, fR46_38 I, b0, ix_n (show s < 2147483648 by omega), e1, if_neg (nI_ge hk (show n < 2 ^ 31 by omega)), f1, f2, b1, b2]
    simp only [f3, f4, b3, b4, if_true, ix_n (show 40 * s + k < 2147483648 by omega), ix_n (show 40 * t + k < 2147483648 by omega), ix_n (show 40 * s < 2147483648 by omega), ix_n (show 40 * t < 2147483648 by omega), ro, nI_1]
    generalize offk (fun k => hI h 76 (40 * s + k)) (fun k => hI h 76 (40 * t + k)) k = b at rr
    have st : ∀ c : Int64, (if lg_cmp c acc ≤ 0 then c_X10_join_L86 F 46 (nI s) (nI t) K z acc (nI (k + 1)) h else c_X10_join_L86 F 46 (nI s) (nI t) K z c (nI (k + 1)) h) = c_X10_join_L86 F 46 (nI s) (nI t) K z (if acc.toInt < c.toInt then c else acc) (nI (k + 1)) h := fun c => by
      by_cases e : acc.toInt < c.toInt
      · rw [if_pos e, if_neg (by rw [cmp_le]; omega)]
      · rw [if_neg e, if_pos (by rw [cmp_le]; omega)]
    unfold stO ab64
    by_cases e : b.toInt < 0
    · rw [if_neg (by rw [cmp_ge]; show ¬ (0 : Int) ≤ _; omega), if_pos e]; exact st _
    · rw [if_pos (by rw [cmp_ge]; show (0 : Int) ≤ _; omega), if_neg e]; exact st _
  · show c_X10_join_L86 F 46 (nI s) (nI t) K (z + 1) _ (nI n) h = _
    rw [c_X10_join_L86]
    simp only [fT46 I, if_true, lt_, nn, fR46_37 I, b0, ix_n (show s < 2147483648 by omega), e1, if_pos (nI_le (Nat.le_refl n) (show n < 2 ^ 31 by omega))]
theorem op_join (hF : 5000 ≤ F) (J : Inv h) : OkI h (c_X9_join F 5 x1 x2 h) (c_X10_join F 46 x1 x2) := by
  obtain ⟨ow, J⟩ := J
  have o := J.1
  have I := J.2.1
  have S := J.sta
  obtain ⟨q, hq, h1, h2, h3, h4, h5⟩ := J.she
  unfold c_X9_join c_X10_join
  by_cases c : (0 ≤ x1.toInt ∧ x1.toInt ≤ (q : Int) - 1) ∧ (0 ≤ x2.toInt ∧ x2.toInt ≤ (q : Int) - 1) ∧ ¬ x1 = x2
  · obtain ⟨s, hs, rfl⟩ := rng (x := x1) (n := 19) ⟨c.1.1, by omega⟩
    obtain ⟨t, ht, rfl⟩ := rng (x := x2) (n := 19) ⟨c.2.1.1, by omega⟩
    have hsq : s < q := by have := c.1; rw [toI_n (by omega)] at this; omega
    have htq : t < q := by have := c.2.1; rw [toI_n (by omega)] at this; omega
    obtain ⟨a, ha, g⟩ := h3 s hsq
    obtain ⟨b, hb, g'⟩ := h3 t htq
    have b1 : okA h 15 26 (nI s) = true := okA_n (fT15 I) (fN15 I) (by omega) (by decide)
    have b2 : okA h 15 26 (nI t) = true := okA_n (fT15 I) (fN15 I) (by omega) (by decide)
    have d1 : okA h 65 20 (nI s) = true := okA_n (fT65 I) (fN65 I) (by omega) (by decide)
    have d2 : okA h 65 20 (nI t) = true := okA_n (fT65 I) (fN65 I) (by omega) (by decide)
    have d3 : okA h 75 20 (nI s) = true := okA_n (fT75 I) (fN75 I) (by omega) (by decide)
    have d4 : okA h 75 20 (nI t) = true := okA_n (fT75 I) (fN75 I) (by omega) (by decide)
    have d5 : okA h 67 20 (nI s) = true := okA_n (fT67 I) (fN67 I) (by omega) (by decide)
    have d6 : okA h 67 20 (nI t) = true := okA_n (fT67 I) (fN67 I) (by omega) (by decide)
    have d7 : okA h 70 20 (nI s) = true := okA_n (fT70 I) (fN70 I) (by omega) (by decide)
    have d8 : okA h 70 20 (nI t) = true := okA_n (fT70 I) (fN70 I) (by omega) (by decide)
    obtain ⟨u, n, k1, k2, k3, k4, k5, k6, k7⟩ := shcut20 S g
    obtain ⟨v, n', l1, l2, l3, l4, l5, l6, l7⟩ := shcut20 S g'
    by_cases e1 : hI h 65 s = 2 ∧ hI h 65 t = 2
    · have X : c_X9_join F 5 (nI s) (nI t) h = (if hI h 67 s = hI h 67 t then (if nI n = nI n' then bL (c_X5_cutOff F a (some b) h) (fun y30 h29 => (if lg_cmp y30 0 = 0 then (if hI h29 a 7 = hI h29 b 7 then some (2, h29) else (bI (c_X9_inForceToday F 5 4 h29) (fun x34 h33 => (if 0 < (lg_cmp y30 ((x34 : Int32).toInt64)) then (some (0, h33)) else (some (1, h33)))))) else (bI (c_X9_inForceToday F 5 4 h29) (fun x34 h33 => (if 0 < (lg_cmp y30 ((x34 : Int32).toInt64)) then (some (0, h33)) else (some (1, h33))))))) else some (0, h)) else some (0, h)) := by
        unfold c_X9_join
        rw [fT5 I, if_pos rfl, x_two F _ _ I hq h1, bI_some, if_pos c, ite10]
        simp only [fT5 I, fT6 I, fT7 I, fT8 I, fT9 I, fT10 I, fT11 I, fT12 I, fT13 I, fT14 I, fT15 I, fT16 I, fT17 I, fT18 I, fT19 I, fT20 I, fT21 I, fT22 I, fT23 I, fT24 I, fT25 I, fT26 I, fT27 I, fT28 I, fT29 I, fT30 I, fT31 I, fT32 I, fT33 I, fT34 I, fT35 I, fT36 I, fT37 I, fT38 I, fT39 I, fT40 I, fT41 I, fT42 I, fT43 I, fT44 I, fT45 I, fR5_0 I, fR5_1 I, fR5_2 I, fR5_3 I, fR5_5 I, fR5_6 I, fR5_7 I, fR5_8 I, fR5_9 I, fR5_10 I, fR5_11 I, fR5_13 I, fR10_0 I, fR10_1 I, fR10_2 I, fR14_0 I, fR16_0 I, fR16_1 I, fR20_0 I, fR20_1 I, fR20_2 I, fR20_3 I, fR20_4 I, fR20_5 I, fR20_6 I, fR28_0 I, fR28_1 I, fR28_2 I, fR28_3 I, fR28_4 I, fR34_0 I, fR34_1 I, fR34_2 I, fR34_3 I, fR39_0 I, fR39_1 I, fR39_2 I, fR39_3 I, fR39_4 I, if_true, lt_, nn, b1, b2, ix_n (show s < 2147483648 by omega), ix_n (show t < 2147483648 by omega), ha, hb, g.1, g'.1, x_isHalf F S g, x_isHalf F S g', if_pos e1.1, if_pos e1.2, bI_some, ite10, k1, l1, k5, l5, k2, l2, g.2.2.2.2.2.1, g'.2.2.2.2.2.1]
        by_cases e3 : hI h 67 s = hI h 67 t
        · rw [if_pos e3, if_pos e3]
          by_cases e4 : nI n = nI n'
          · rw [if_pos e4, if_pos e4]
            obtain ⟨_, _⟩ : True ∧ True := ⟨trivial, trivial⟩
            have en : n' = n := by rw [nI_eq (by omega) (by omega)] at e4; omega
            rw [x_cutOff F S hF g g' k4 (by rw [l4, en]) k3, bL_some, bL_some]
            simp only [fT5 I, g.1, g'.1, if_true]
          · rw [if_neg e4, if_neg e4]
        · rw [if_neg e3, if_neg e3]
      have M : c_X10_join F 46 (nI s) (nI t) h = (if nI n = nI n' then (if hI h 67 s = hI h 67 t then c_X10_join_L86 F 46 (nI s) (nI t) (fun y49 h50 => (lt_ (fun (h52 : z_Hp) => (if hT h52 46 = 10 then (bI (c_X10_nowInForce F 46 4 h52) (fun x54 h53 => (if 0 < (lg_cmp y49 ((x54 : Int32).toInt64)) then (some (0, h53)) else (some (1, h53))))) else none)) (fun (j210_51 : z_Hp → Option (Int32 × z_Hp)) => (if (lg_cmp y49 0) = 0 then (if hT h50 46 = 10 then (lt_ (hR h50 46 32) (fun o55 => (nn o55 (fun a56 => (if okA h50 a56 20 (nI s) = true then (if hT h50 46 = 10 then (lt_ (hR h50 46 32) (fun o57 => (nn o57 (fun a58 => (if okA h50 a58 20 (nI t) = true then (if (hI h50 a56 (ix (nI s))) = (hI h50 a58 (ix (nI t))) then (some (2, h50)) else (j210_51 h50)) else none))))) else none) else none))))) else none) else (j210_51 h50))))) F 0 0 h else some (0, h)) else some (0, h)) := by
        unfold c_X10_join
        rw [fT46 I, if_pos rfl, m_isSheet I hq h2, bI_some, if_pos c.1, ite10, fT46 I, if_pos rfl, m_isSheet I hq h2, bI_some, if_pos c.2.1, ite10, if_neg c.2.2]
        rw [fT46 I, if_pos rfl, fR46_27 I]
        dsimp only [lt_, nn]
        rw [if_pos d1, ix_n (by omega), if_pos e1.1, if_pos rfl, if_pos d2, ix_n (by omega), if_pos e1.2, if_pos rfl, fR46_37 I]
        dsimp only
        rw [if_pos d3, if_pos rfl, if_pos d4, k4, l4]
        by_cases e4 : nI n = nI n'
        · rw [if_pos e4, if_pos e4, if_pos rfl, fR46_29 I]
          dsimp only
          rw [if_pos d5, if_pos rfl, if_pos d6]
        · rw [if_neg e4, if_neg e4]
      by_cases e3 : hI h 67 s = hI h 67 t
      · by_cases e4 : nI n = nI n'
        · have en : n' = n := by rw [nI_eq (by omega) (by omega)] at e4; omega
          generalize hy : itr (fun k y => stO (offk (fun k => hI h 76 (40 * s + k)) (fun k => hI h 76 (40 * t + k)) k) y) 0 n = y
          refine OkI.same (if lg_cmp y 0 = 0 then (if hI h 70 s = hI h 70 t then 2 else if 0 < lg_cmp y (now (mm h) 4).toInt64 then 0 else 1) else if 0 < lg_cmp y (now (mm h) 4).toInt64 then 0 else 1) ⟨ow, J⟩ ?_ ?_
          · refine Eq.trans X ?_
            rw [if_pos e3, if_pos e4, x_cutOff F S hF g g' k4 (by rw [l4, en]) k3, bL_some, hy, x_now F I S J.rul J.tod hF 4 4 rfl (by decide), bI_some, g.2.2.2.2.2.2.2.2.2.1, g'.2.2.2.2.2.2.2.2.2.1]
            by_cases z1 : lg_cmp y 0 = 0
            · rw [if_pos z1, if_pos z1]
              by_cases z2 : hI h 70 s = hI h 70 t
              · rw [if_pos z2, if_pos z2]
              · rw [if_neg z2, if_neg z2]
                by_cases z3 : 0 < lg_cmp y (now (mm h) 4).toInt64
                · rw [if_pos z3, if_pos z3]
                · rw [if_neg z3, if_neg z3]
            · rw [if_neg z1, if_neg z1]
              by_cases z3 : 0 < lg_cmp y (now (mm h) 4).toInt64
              · rw [if_pos z3, if_pos z3]
              · rw [if_neg z3, if_neg z3]
          · refine Eq.trans M ?_
            rw [if_pos e4, if_pos e3, m_join_L86 F I (by omega) (by omega) k4 k3 (by omega), hy]
            simp only [fT46 I, if_true, lt_, nn, fR46_32 I, d7, d8, ix_n (show s < 2147483648 by omega), ix_n (show t < 2147483648 by omega), m_now F I J.rul hF 4 4 rfl (by decide), bI_some]
            by_cases z1 : lg_cmp y 0 = 0
            · rw [if_pos z1, if_pos z1]
              by_cases z2 : hI h 70 s = hI h 70 t
              · rw [if_pos z2, if_pos z2]
              · rw [if_neg z2, if_neg z2]
                by_cases z3 : 0 < lg_cmp y (now (mm h) 4).toInt64
                · rw [if_pos z3, if_pos z3]
                · rw [if_neg z3, if_neg z3]
            · rw [if_neg z1, if_neg z1]
              by_cases z3 : 0 < lg_cmp y (now (mm h) 4).toInt64
              · rw [if_pos z3, if_pos z3]
              · rw [if_neg z3, if_neg z3]
        · exact OkI.same 0 ⟨ow, J⟩ (by refine Eq.trans X ?_; rw [if_pos e3, if_neg e4]) (by refine Eq.trans M ?_; rw [if_neg e4])
      · refine OkI.same 0 ⟨ow, J⟩ (by refine Eq.trans X ?_; rw [if_neg e3]) ?_
        refine Eq.trans M ?_
        rw [if_neg e3]
        split <;> rfl
    · refine OkI.found0 (F := F) 3 (by decide) J ?_ (fun h' w => ?_)
      · show _ = c_X9_found F 5 3 h
        rw [fT5 I, if_pos rfl, x_two F _ _ I hq h1, bI_some, if_pos c, ite10]
        simp only [fT5 I, fT6 I, fT7 I, fT8 I, fT9 I, fT10 I, fT11 I, fT12 I, fT13 I, fT14 I, fT15 I, fT16 I, fT17 I, fT18 I, fT19 I, fT20 I, fT21 I, fT22 I, fT23 I, fT24 I, fT25 I, fT26 I, fT27 I, fT28 I, fT29 I, fT30 I, fT31 I, fT32 I, fT33 I, fT34 I, fT35 I, fT36 I, fT37 I, fT38 I, fT39 I, fT40 I, fT41 I, fT42 I, fT43 I, fT44 I, fT45 I, fR5_0 I, fR5_1 I, fR5_2 I, fR5_3 I, fR5_5 I, fR5_6 I, fR5_7 I, fR5_8 I, fR5_9 I, fR5_10 I, fR5_11 I, fR5_13 I, fR10_0 I, fR10_1 I, fR10_2 I, fR14_0 I, fR16_0 I, fR16_1 I, fR20_0 I, fR20_1 I, fR20_2 I, fR20_3 I, fR20_4 I, fR20_5 I, fR20_6 I, fR28_0 I, fR28_1 I, fR28_2 I, fR28_3 I, fR28_4 I, fR34_0 I, fR34_1 I, fR34_2 I, fR34_3 I, fR39_0 I, fR39_1 I, fR39_2 I, fR39_3 I, fR39_4 I, if_true, lt_, nn, b1, b2, ix_n (show s < 2147483648 by omega), ix_n (show t < 2147483648 by omega), ha, hb, g.1, g'.1, x_isHalf F S g, x_isHalf F S g', bI_some, bI_id]
        by_cases e2 : hI h 65 s = 2
        · rw [if_pos e2, ite10, if_neg (fun e => e1 ⟨e2, e⟩), ite00]
        · rw [if_neg e2, ite00]
      · have I' := I.st o w (by decide)
        have h2' : hI h' 46 26 = nI q := (w.fam I o (c := 66) (by decide) 46 26 (by omega) rfl).1.trans h2
        have p1 : hI h' 65 s = hI h 65 s := (w.fam I o (c := 66) (by decide) 65 s (by omega) rfl).1
        have p2 : hI h' 65 t = hI h 65 t := (w.fam I o (c := 66) (by decide) 65 t (by omega) rfl).1
        have d1' : okA h' 65 20 (nI s) = true := okA_n (fT65 I') (fN65 I') (by omega) (by decide)
        have d2' : okA h' 65 20 (nI t) = true := okA_n (fT65 I') (fN65 I') (by omega) (by decide)
        show _ = c_X10_meets F 46 3 h'
        rw [fT46 I', if_pos rfl, m_isSheet I' hq h2', bI_some, if_pos c.1, ite10, fT46 I', if_pos rfl, m_isSheet I' hq h2', bI_some, if_pos c.2.1, ite10, if_neg c.2.2]
        rw [fT46 I', if_pos rfl, fR46_27 I']
        dsimp only [lt_, nn]
        rw [if_pos d1', ix_n (by omega), p1]
        by_cases e2 : hI h 65 s = 2
        · rw [if_pos e2, if_pos rfl, if_pos d2', ix_n (by omega), p2, if_neg (fun e => e1 ⟨e2, e⟩), fT46 I', if_pos rfl, bI_id]
        · rw [if_neg e2, fT46 I', if_pos rfl, bI_id]
  · refine OkI.same (-1) ⟨ow, J⟩ ?_ ?_
    · rw [fT5 I, if_pos rfl, x_two F _ _ I hq h1, bI_some, if_neg c, ite00]
    · rw [fT46 I, if_pos rfl, m_isSheet I hq h2, bI_some]
      by_cases c1 : 0 ≤ x1.toInt ∧ x1.toInt ≤ (q : Int) - 1
      · rw [if_pos c1, ite10, fT46 I, if_pos rfl, m_isSheet I hq h2, bI_some]
        by_cases c2 : 0 ≤ x2.toInt ∧ x2.toInt ≤ (q : Int) - 1
        · rw [if_pos c2, ite10, if_pos (Classical.byContradiction (fun e => c ⟨c1, c2, e⟩))]
        · rw [if_neg c2, ite00]
      · rw [if_neg c1, ite00]
end OpsG
