section OpsH0
/-! the same rows, not by computation: long texts are walked with these -/
theorem ltq {α β : Type} (v : α) (k : α → β) : lt_ v k = k v := Eq.trans rfl rfl
theorem nnq {α : Type} (a : Nat) (k : Nat → Option α) : nn (some a) k = k a := Eq.trans rfl rfl
theorem nlq {α : Type} (a : Nat) (A : Option α) (k : Nat → Option α) : nl (some a) A k = k a := Eq.trans rfl rfl
theorem nlz {α : Type} (A : Option α) (k : Nat → Option α) : nl none A k = A := Eq.trans rfl rfl
theorem bIq {α : Type} (x : Int32) (h : z_Hp) (k : Int32 → z_Hp → Option α) : bI (some (x, h)) k = k x h := Eq.trans rfl rfl
theorem bLq {α : Type} (x : Int64) (h : z_Hp) (k : Int64 → z_Hp → Option α) : bL (some (x, h)) k = k x h := Eq.trans rfl rfl
theorem bVq {α : Type} (h : z_Hp) (k : z_Hp → Option α) : bV (some h) k = k h := Eq.trans rfl rfl
end OpsH0
section OpsH
variable {h : z_Hp} (F : Nat) (x1 x2 x3 x4 x5 : Int32)
/-! the greatest divisor -/
theorem half_mod {r m : Nat} (h0 : 0 < m) (h1 : m < r) : 2 * (r % m) < r := by
  by_cases c : 2 * m ≤ r
  · have := Nat.mod_lt r h0; omega
  · have : r % m = r - m := by
      rw [Nat.mod_eq_sub_mod (by omega), Nat.mod_eq_of_lt (by omega)]
    omega
theorem cmp0 {a : Nat} (h : a < 2 ^ 63) : lg_cmp (lN a) 0 = 0 ↔ a = 0 := by
  unfold lg_cmp
  have e : lN a = 0 ↔ a = 0 := by rw [show (0 : Int64) = lN 0 from rfl, pk_lEQ h (by decide)]
  by_cases c1 : lN a > 0
  · rw [if_pos c1]
    have : 0 < a := by
      have g : lN 0 < lN a := c1
      rw [pk_lLT (by decide) h] at g; exact g
    exact ⟨fun g => absurd g (by decide), fun g => by omega⟩
  · rw [if_neg c1]
    by_cases c2 : lN a = 0
    · rw [if_pos c2]; exact ⟨fun _ => e.mp c2, fun _ => rfl⟩
    · rw [if_neg c2]; exact ⟨fun g => absurd g (by decide), fun g => absurd (e.mpr g) c2⟩
theorem ne0L {a : Nat} (h : a < 2 ^ 63) (h0 : 0 < a) : ¬ lN a = 0 := by
  rw [show (0 : Int64) = lN 0 from rfl, pk_lEQ h (by decide)]; omega
theorem x_gcd : ∀ (n r d st N : Nat), r < 2 ^ n → n ≤ 40 → d < 2 ^ 62 → st + 2 * n < 100 → 2 * n < N → c_X9_greatestDivisor_L9 F N (lN r) (lN d) (nI st) h = some (lN (Nat.gcd r d), h) := by
  intro n
  induction n with
  | zero =>
    intro r d st N h1 _ h2 h3 h4
    obtain ⟨m, rfl⟩ : ∃ m, N = m + 1 := ⟨N - 1, by omega⟩
    have : r = 0 := by rw [Nat.pow_zero] at h1; omega
    subst this
    rw [c_X9_greatestDivisor_L9, if_neg (show ¬ (100 : Int32) ≤ nI st from nI_ge (b := 100) (by omega) (by decide)), if_pos ((cmp0 (by decide)).mpr rfl), Nat.gcd_zero_left]
  | succ n ih =>
    intro r d st N h1 hn h2 h3 h4
    have hp : 2 ^ (n + 1) = 2 * 2 ^ n := by rw [Nat.pow_succ]; omega
    have hbig : 2 ^ (n + 1) ≤ 2 ^ 40 := Nat.pow_le_pow_right (by decide) hn
    have hr : r < 2 ^ 62 := Nat.lt_of_lt_of_le h1 (Nat.le_trans hbig (by decide))
    obtain ⟨m, rfl⟩ : ∃ m, N = m + 2 := ⟨N - 2, by omega⟩
    rw [c_X9_greatestDivisor_L9, if_neg (show ¬ (100 : Int32) ≤ nI st from nI_ge (b := 100) (by omega) (by decide))]
    by_cases c : r = 0
    · subst c
      rw [if_pos ((cmp0 (by decide)).mpr rfl), Nat.gcd_zero_left]
    · rw [if_neg (fun e => c ((cmp0 (by omega)).mp e)), if_neg (ne0L (by omega) (by omega)), pk_lRem (by omega) (by omega) (by omega), nI_1]
      dsimp only [lt_]
      have hm := Nat.mod_lt d (show r > 0 by omega)
      rw [c_X9_greatestDivisor_L9, if_neg (show ¬ (100 : Int32) ≤ nI (st + 1) from nI_ge (b := 100) (by omega) (by decide)), Nat.gcd_rec r d]
      by_cases c2 : d % r = 0
      · rw [c2, if_pos ((cmp0 (by decide)).mpr rfl), Nat.gcd_zero_left]
      · rw [if_neg (fun e => c2 ((cmp0 (by omega)).mp e)), if_neg (ne0L (by omega) (by omega)), pk_lRem (by omega) (by omega) (by omega), nI_1]
        dsimp only [lt_]
        have hh := half_mod (r := r) (m := d % r) (by omega) hm
        rw [ih (r % (d % r)) (d % r) (st + 1 + 1) m (by omega) (by omega) (by omega) (by omega) (by omega), ← Nat.gcd_rec]
theorem m_gcd (y5 y6 : Int64) (x7 : Int32) (K : Int64 → z_Hp → Option (Int32 × z_Hp)) : ∀ (n y x N : Nat), y < 2 ^ n → n ≤ 40 → x < 2 ^ 62 → 2 * n < N → c_X10_share_L6 F 46 y5 y6 x7 K N (lN x) (lN y) h = K (lN (Nat.gcd y x)) h := by
  intro n
  induction n with
  | zero =>
    intro y x N h1 _ h2 h4
    obtain ⟨m, rfl⟩ : ∃ m, N = m + 1 := ⟨N - 1, by omega⟩
    have : y = 0 := by rw [Nat.pow_zero] at h1; omega
    subst this
    rw [c_X10_share_L6, if_pos ((cmp0 (by decide)).mpr rfl), Nat.gcd_zero_left]
  | succ n ih =>
    intro y x N h1 hn h2 h4
    have hp : 2 ^ (n + 1) = 2 * 2 ^ n := by rw [Nat.pow_succ]; omega
    have hbig : 2 ^ (n + 1) ≤ 2 ^ 40 := Nat.pow_le_pow_right (by decide) hn
    have hr : y < 2 ^ 62 := Nat.lt_of_lt_of_le h1 (Nat.le_trans hbig (by decide))
    obtain ⟨m, rfl⟩ : ∃ m, N = m + 2 := ⟨N - 2, by omega⟩
    rw [c_X10_share_L6]
    by_cases c : y = 0
    · subst c
      rw [if_pos ((cmp0 (by decide)).mpr rfl), Nat.gcd_zero_left]
    · rw [if_neg (fun e => c ((cmp0 (by omega)).mp e)), if_neg (ne0L (by omega) (by omega)), pk_lRem (by omega) (by omega) (by omega)]
      dsimp only [lt_]
      have hm := Nat.mod_lt x (show y > 0 by omega)
      rw [c_X10_share_L6, Nat.gcd_rec y x]
      by_cases c2 : x % y = 0
      · rw [c2, if_pos ((cmp0 (by decide)).mpr rfl), Nat.gcd_zero_left]
      · rw [if_neg (fun e => c2 ((cmp0 (by omega)).mp e)), if_neg (ne0L (by omega) (by omega)), pk_lRem (by omega) (by omega) (by omega)]
        dsimp only [lt_]
        have hh := half_mod (r := y) (m := x % y) (by omega) hm
        rw [ih (y % (x % y)) (x % y) m (by omega) (by omega) (by omega) (by omega), ← Nat.gcd_rec]
theorem x_frac (I : Ifx h) (hF : 5000 ≤ F) {u v : Nat} (hu : u < 2 ^ 40) (hv : v < 2 ^ 40) (h0 : 0 < v) : c_X9_tellFraction F 5 (lN u) (lN v) h = some (sJ (sJ h 5 16 (lN (u / Nat.gcd u v))) 5 17 (lN (v / Nat.gcd u v))) := by
  unfold c_X9_tellFraction c_X9_greatestDivisor
  have g0 : 0 < Nat.gcd u v := Nat.gcd_pos_of_pos_right _ h0
  have g1 : Nat.gcd u v ≤ v := Nat.gcd_le_right _ h0
  rw [show (0 : Int32) = nI 0 from rfl, x_gcd F 40 u v 0 F hu (by omega) (by omega) (by omega) (by omega), bL_some, x_max64, bL_some]
  have e : (if (1 : Int64).toInt < (lN (Nat.gcd u v)).toInt then lN (Nat.gcd u v) else 1) = lN (Nat.gcd u v) := by
    rw [pk_lT (by omega)]
    by_cases c : (1 : Int64).toInt < (Nat.gcd u v : Int)
    · rw [if_pos c]
    · rw [if_neg c]
      have : Nat.gcd u v = 1 := by
        have c' : ¬ (1 : Int) < (Nat.gcd u v : Int) := c
        omega
      rw [this]; rfl
  rw [e, if_neg (ne0L (by omega) g0), fT5 I, if_pos rfl]
  dsimp only [lt_]
  rw [if_neg (ne0L (by omega) g0), hT_sJ, fT5 I, if_pos rfl, pk_lDiv (by omega) g0 (by omega), pk_lDiv (by omega) g0 (by omega)]
theorem m_share (I : Ifx h) (hF : 5000 ≤ F) {u v : Nat} (hu : u < 2 ^ 40) (hv : v < 2 ^ 40) (h0 : 0 < v) (x : Int32) : c_X10_share F 46 (lN u) (lN v) x h = some (x, sJ (sJ h 46 4 (lN (u / Nat.gcd u v))) 46 5 (lN (v / Nat.gcd u v))) := by
  unfold c_X10_share
  have g0 : 0 < Nat.gcd u v := Nat.gcd_pos_of_pos_right _ h0
  have g1 : Nat.gcd u v ≤ v := Nat.gcd_le_right _ h0
  rw [m_gcd F _ _ _ _ 40 v u F hv (by omega) (by omega) (by omega), Nat.gcd_comm v u]
  rw [if_neg (ne0L (by omega) g0), fT46 I, if_pos rfl]
  dsimp only [lt_]
  rw [if_neg (ne0L (by omega) g0), hT_sJ, fT46 I, if_pos rfl, pk_lDiv (by omega) g0 (by omega), pk_lDiv (by omega) g0 (by omega)]
/-! choices -/
def chI (a b : Nat) : Nat → Nat
  | 0 => 1
  | k + 1 => chI a b k * (a - b + (k + 1)) / (k + 1)
def chN (a b : Nat) : Nat := if b ≤ a then chI a b b else 0
theorem ch_le : ∀ a, a < 17 → ∀ b, b < 17 → ∀ k, k < 17 → b ≤ a → k ≤ b → chI a b k ≤ 12870 := by decide +kernel
theorem ch_pos : ∀ b, b < 17 → 0 < chN 16 b := by decide +kernel
theorem chN_le {a b : Nat} (ha : a < 17) (hb : b < 17) : chN a b ≤ 12870 := by
  unfold chN
  split
  · rename_i c; exact ch_le a ha b hb b hb c (Nat.le_refl _)
  · omega
theorem x_ch (hF : 5000 ≤ F) {a b : Nat} (ha : a < 17) (hb : b < 17) : c_X9_choices F (nI a) (nI b) h = some (lN (chN a b), h) := by
  unfold c_X9_choices chN
  rw [if_neg (pnI (by omega))]
  by_cases c : b ≤ a
  · rw [if_pos (nI_le c (by omega)), if_pos c]
    refine lpS (L := fun m (s : Int64 × Int32) => c_X9_choices_L16 F (nI a) (nI b) m s.1 s.2 h) (fun k => (lN (chI a b k), nI (k + 1))) b (fun m k hk => ?_) (fun m => ?_) F (by omega)
    · show c_X9_choices_L16 F (nI a) (nI b) (m + 1) (lN (chI a b k)) (nI (k + 1)) h = c_X9_choices_L16 F (nI a) (nI b) m (lN (chI a b (k + 1))) (nI (k + 1 + 1)) h
      have l := ch_le a ha b hb k (by omega) c (by omega)
      have l2 : chI a b k * (a - b + (k + 1)) ≤ 12870 * 40 := Nat.mul_le_mul l (by omega)
      rw [c_X9_choices_L16, if_neg (nI_nlt (by omega) (by omega)), nI_l (by omega), if_neg (ne0L (by omega) (by omega)), nI_sub c, nI_add, nI_l (by omega), lN_mul, pk_lDiv (by omega) (by omega) (by omega), nI_1]
      rfl
    · show c_X9_choices_L16 F (nI a) (nI b) (m + 1) (lN (chI a b b)) (nI (b + 1)) h = _
      rw [c_X9_choices_L16, if_pos (nI_lt (by omega) (by omega))]
  · rw [if_neg (nI_ge (by omega) (by omega)), if_neg c]; rfl
theorem m_ch (hF : 5000 ≤ F) {a b : Nat} (ha : a < 17) (hb : b < 17) : c_X10_choose F (nI a) (nI b) h = some (lN (chN a b), h) := by
  unfold c_X10_choose chN
  rw [m_in, bI_some, ti_0, toI_n (by omega), toI_n (by omega)]
  by_cases c : b ≤ a
  · rw [if_pos (show (0 : Int) ≤ b ∧ (b : Int) ≤ a by omega), ite10, if_pos c]
    refine lpS (L := fun m (s : Int64 × Int32) => c_X10_choose_L16 F (nI a) (nI b) m s.1 s.2 h) (fun k => (lN (chI a b k), nI (k + 1))) b (fun m k hk => ?_) (fun m => ?_) F (by omega)
    · show c_X10_choose_L16 F (nI a) (nI b) (m + 1) (lN (chI a b k)) (nI (k + 1)) h = c_X10_choose_L16 F (nI a) (nI b) m (lN (chI a b (k + 1))) (nI (k + 1 + 1)) h
      have l := ch_le a ha b hb k (by omega) c (by omega)
      have l2 : chI a b k * (a - b + (k + 1)) ≤ 12870 * 40 := Nat.mul_le_mul l (by omega)
      rw [c_X10_choose_L16, if_neg (nI_nlt (by omega) (by omega)), nI_l (by omega), if_neg (ne0L (by omega) (by omega)), nI_sub c, nI_add, nI_l (by omega), lN_mul, pk_lDiv (by omega) (by omega) (by omega), nI_1]
      rfl
    · show c_X10_choose_L16 F (nI a) (nI b) (m + 1) (lN (chI a b b)) (nI (b + 1)) h = _
      rw [c_X10_choose_L16, if_pos (nI_lt (by omega) (by omega))]
  · rw [if_neg (show ¬ ((0 : Int) ≤ b ∧ (b : Int) ≤ a) by omega), ite00, if_neg c]; rfl
/-- the ways to share c or more -/
def wld (a b c : Nat) (n : Nat) : Nat := fb_sm (fun i => chN a (c + i) * chN (16 - a) (b - (c + i))) n
theorem wld_le {a b c n : Nat} (ha : a < 17) (hb : b < 17) (hn : c + n ≤ b + 1) : wld a b c n < 2 ^ 40 := by
  have : wld a b c n ≤ n * (12870 * 12870) := fb_sm_bound (fun k hk => Nat.mul_le_mul (chN_le ha (by omega)) (chN_le (by omega) (by omega)))
  have h2 : n * (12870 * 12870) ≤ 17 * (12870 * 12870) := Nat.mul_le_mul_right _ (by omega)
  omega
theorem x_wld (hF : 5000 ≤ F) {a b c : Nat} (ha : a < 17) (hb : b < 17) (hc : c ≤ b) (K : Int64 → z_Hp → Option z_Hp) : c_X9_tellWould_L6 F 5 (nI a) (nI b) K F 0 (nI c) h = K (lN (wld a b c (b + 1 - c))) h := by
  refine lpS (L := fun m (s : Int64 × Int32) => c_X9_tellWould_L6 F 5 (nI a) (nI b) K m s.1 s.2 h) (fun i => (lN (wld a b c i), nI (c + i))) (b + 1 - c) (fun m i hi => ?_) (fun m => ?_) F (by omega)
  · show c_X9_tellWould_L6 F 5 (nI a) (nI b) K (m + 1) (lN (wld a b c i)) (nI (c + i)) h = c_X9_tellWould_L6 F 5 (nI a) (nI b) K m (lN (wld a b c (i + 1))) (nI (c + i + 1)) h
    rw [c_X9_tellWould_L6, if_neg (nI_nlt (by omega) (by omega)), x_ch F hF ha (by omega), bL_some, show (16 : Int32) = nI 16 from rfl, nI_sub (by omega), nI_sub (by omega), x_ch F hF (by omega) (by omega), bL_some, lN_mul, lN_add, nI_1]
    rfl
  · show c_X9_tellWould_L6 F 5 (nI a) (nI b) K (m + 1) (lN (wld a b c (b + 1 - c))) (nI (c + (b + 1 - c))) h = _
    rw [c_X9_tellWould_L6, if_pos (nI_lt (by omega) (by omega))]
theorem m_wld (hF : 5000 ≤ F) {a b c : Nat} (ha : a < 17) (hb : b < 17) (hc : c ≤ b) (y1 y2 : Int32) (K : Int64 → z_Hp → Option (Int32 × z_Hp)) : c_X10_taken_L65 F 46 y1 y2 (nI a) (nI b) K F 0 (nI c) h = K (lN (wld a b c (b + 1 - c))) h := by
  refine lpS (L := fun m (s : Int64 × Int32) => c_X10_taken_L65 F 46 y1 y2 (nI a) (nI b) K m s.1 s.2 h) (fun i => (lN (wld a b c i), nI (c + i))) (b + 1 - c) (fun m i hi => ?_) (fun m => ?_) F (by omega)
  · show c_X10_taken_L65 F 46 y1 y2 (nI a) (nI b) K (m + 1) (lN (wld a b c i)) (nI (c + i)) h = c_X10_taken_L65 F 46 y1 y2 (nI a) (nI b) K m (lN (wld a b c (i + 1))) (nI (c + i + 1)) h
    rw [c_X10_taken_L65, if_neg (nI_nlt (by omega) (by omega)), m_ch F hF ha (by omega), bL_some, show (16 : Int32) = nI 16 from rfl, nI_sub (by omega), nI_sub (by omega), m_ch F hF (by omega) (by omega), bL_some, lN_mul, lN_add, nI_1]
    rfl
  · show c_X10_taken_L65 F 46 y1 y2 (nI a) (nI b) K (m + 1) (lN (wld a b c (b + 1 - c))) (nI (c + (b + 1 - c))) h = _
    rw [c_X10_taken_L65, if_pos (nI_lt (by omega) (by omega))]
theorem pcn16 {k : Nat} (hk : k < 65536) : pcn k 20 < 17 := by
  have e : pcn k 20 = pcn k 16 := by
    unfold pcn
    rw [show (20 : Nat) = 16 + 4 from rfl, fb_ct_split]
    have : fb_ct (fun i => k.testBit (16 + i)) 4 = 0 := fb_ct_zero.mpr (fun i _ => tb_big (n := 16) hk (by omega))
    omega
  have := fb_ct_le (fun i => k.testBit i) 16
  unfold pcn at e ⊢
  omega
theorem pcn_and (k l : Nat) : pcn (k &&& l) 20 ≤ pcn l 20 := fb_ct_sub (fun i _ g => by
  rw [Nat.testBit_and, Bool.and_eq_true] at g
  exact g.2)
theorem op_taken (hF : 5000 ≤ F) (J : Inv h) : OkI h (c_X9_taken F 5 x1 x2 h) (c_X10_taken F 46 x1 x2) := by
  obtain ⟨ow, J⟩ := J
  have o := J.1
  have I := J.2.1
  obtain ⟨q, hq, h1, h2, h3, h4, h5⟩ := J.she
  unfold c_X9_taken c_X10_taken
  by_cases c : (0 ≤ x1.toInt ∧ x1.toInt ≤ (q : Int) - 1) ∧ (0 ≤ x2.toInt ∧ x2.toInt ≤ (q : Int) - 1) ∧ ¬ x1 = x2
  · obtain ⟨s, hs, rfl⟩ := rng (x := x1) (n := 19) ⟨c.1.1, by omega⟩
    obtain ⟨t, ht, rfl⟩ := rng (x := x2) (n := 19) ⟨c.2.1.1, by omega⟩
    have hsq : s < q := by have := c.1; rw [toI_n (by omega)] at this; omega
    have htq : t < q := by have := c.2.1; rw [toI_n (by omega)] at this; omega
    obtain ⟨a, ha, g⟩ := h3 s hsq
    obtain ⟨b, hb, g'⟩ := h3 t htq
    obtain ⟨k, hk, ek⟩ := g.2.2.2.2.2.2.2.2.2.2.2.2.2.2.2.2.2.2.2.2.1
    obtain ⟨l, hl, el⟩ := g'.2.2.2.2.2.2.2.2.2.2.2.2.2.2.2.2.2.2.2.2.1
    have e8 : hI h a 8 = nI k := g.2.2.2.2.2.2.2.2.2.2.1.trans ek
    have e8' : hI h b 8 = nI l := g'.2.2.2.2.2.2.2.2.2.2.1.trans el
    have b1 : okA h 15 26 (nI s) = true := okA_n (fT15 I) (fN15 I) (by omega) (by decide)
    have b2 : okA h 15 26 (nI t) = true := okA_n (fT15 I) (fN15 I) (by omega) (by decide)
    have hkl : k &&& l < 65536 := Nat.and_lt_two_pow (n := 16) k hl
    have A := pcn16 hk
    have B := pcn16 hl
    have C := pcn16 hkl
    have CB := pcn_and k l
    have hw := wld_le (a := pcn k 20) (b := pcn l 20) (c := pcn (k &&& l) 20) (n := pcn l 20 + 1 - pcn (k &&& l) 20) A B (by omega)
    have hc16 := ch_pos _ B
    have hcl := chN_le (a := 16) (by decide) B
    generalize hU : wld (pcn k 20) (pcn l 20) (pcn (k &&& l) 20) (pcn l 20 + 1 - pcn (k &&& l) 20) = U at hw
    generalize hW : chN 16 (pcn l 20) = W at hc16 hcl
    generalize hG : Nat.gcd U W = G
    have s1 : St [5] ow h (sJ (sJ h 5 16 (lN (U / G))) 5 17 (lN (W / G))) := ((St.r I).wJ o 5 (by decide) rfl (by decide)).wJ o 5 (by decide) rfl (by decide)
    have I1 := I.st o s1 (by decide)
    have mm1 := mm_st I o s1 (by decide)
    have R1 := J.rul.st I o s1 (by decide) (by decide)
    have S1 := J.sta.st I o s1 (by decide)
    have T1 := J.tod.st I o s1 (by decide) (by decide)
    generalize hh1 : sJ (sJ h 5 16 (lN (U / G))) 5 17 (lN (W / G)) = g1 at s1 I1 mm1 R1 S1 T1
    have s2 : St [5, 55] ow h (sJ (sJ g1 46 4 (lN (U / G))) 46 5 (lN (W / G))) := ((s1.sub (by decide)).wJ o 55 (by decide) rfl (by decide)).wJ o 55 (by decide) rfl (by decide)
    refine ⟨if nI (pcn (k &&& l) 20) < now (mm h) 2 then 0 else 1, g1, sJ (sJ g1 46 4 (lN (U / G))) 46 5 (lN (W / G)), ?_, ?_, ⟨ow, J.fin o s2 (OwX.refl _ _) (by decide) (c5 := fun _ => ?_)⟩, ?_, ?_⟩
    · rw [fT5 I, if_pos rfl, x_two F _ _ I hq h1, bI_some, if_pos c, ite10]
      simp only [fT5 I, fT6 I, fT7 I, fT8 I, fT9 I, fT10 I, fT11 I, fT12 I, fT13 I, fT14 I, fT15 I, fT16 I, fT17 I, fT18 I, fT19 I, fT20 I, fT21 I, fT22 I, fT23 I, fT24 I, fT25 I, fT26 I, fT27 I, fT28 I, fT29 I, fT30 I, fT31 I, fT32 I, fT33 I, fT34 I, fT35 I, fT36 I, fT37 I, fT38 I, fT39 I, fT40 I, fT41 I, fT42 I, fT43 I, fT44 I, fT45 I, fR5_0 I, fR5_1 I, fR5_2 I, fR5_3 I, fR5_5 I, fR5_6 I, fR5_7 I, fR5_8 I, fR5_9 I, fR5_10 I, fR5_11 I, fR5_13 I, fR10_0 I, fR10_1 I, fR10_2 I, fR14_0 I, fR16_0 I, fR16_1 I, fR20_0 I, fR20_1 I, fR20_2 I, fR20_3 I, fR20_4 I, fR20_5 I, fR20_6 I, fR28_0 I, fR28_1 I, fR28_2 I, fR28_3 I, fR28_4 I, fR34_0 I, fR34_1 I, fR34_2 I, fR34_3 I, fR39_0 I, fR39_1 I, fR39_2 I, fR39_3 I, fR39_4 I, if_true, ltq, nnq, b1, b2, ix_n (show s < 2147483648 by omega), ix_n (show t < 2147483648 by omega), ha, hb, g.1, g'.1, e8, e8', fa_and, bitc F (show k &&& l < 1048576 by omega), bitc F (show k < 1048576 by omega), bitc F (show l < 1048576 by omega), bIq]
      unfold c_X9_tellWould
      rw [x_wld F hF A B CB, show (16 : Int32) = nI 16 from rfl, x_ch F hF (by decide) B, bL_some, hU, hW, fT5 I, if_pos rfl, x_frac F I hF hw (by omega) hc16, hG, hh1, bV_some, bV_some, fT5 I1, if_pos rfl, x_now F I1 S1 R1 T1 hF 2 2 rfl (by decide), bI_some, mm1]
      by_cases z : nI (pcn (k &&& l) 20) < now (mm h) 2
      · rw [if_pos z, if_pos z]
      · rw [if_neg z, if_neg z]
    · have d1 : okA g1 71 20 (nI s) = true := okA_n (fT71 I1) (fN71 I1) (by omega) (by decide)
      have d2 : okA g1 71 20 (nI t) = true := okA_n (fT71 I1) (fN71 I1) (by omega) (by decide)
      have h2' : hI g1 46 26 = nI q := (s1.fam I o (c := 66) (by decide) 46 26 (by omega) rfl).1.trans h2
      have ek' : hI g1 71 s = nI k := (s1.fam I o (c := 66) (by decide) 71 s (by omega) rfl).1.trans ek
      have el' : hI g1 71 t = nI l := (s1.fam I o (c := 66) (by decide) 71 t (by omega) rfl).1.trans el
      have at' : c_X10_areTaken F 46 (nI s) (nI t) g1 = some (if nI (pcn (k &&& l) 20) < now (mm h) 2 then 0 else 1, g1) := by
        unfold c_X10_areTaken
        simp only [fT46 I1, if_true, lt_, nn, fR46_33 I1, d1, d2, ix_n (show s < 2147483648 by omega), ix_n (show t < 2147483648 by omega), ek', el', fa_and, m_bits F (show k &&& l < 2147483648 by omega) hF, bI_some, m_now F I1 R1 hF 2 2 rfl (by decide), mm1]
        by_cases z : nI (pcn (k &&& l) 20) < now (mm h) 2
        · rw [if_pos z, if_pos z]
        · rw [if_neg z, if_neg z]
      dsimp only
      rw [fT46 I1, if_pos rfl, m_isSheet I1 hq h2', bI_some, if_pos c.1, ite10, fT46 I1, if_pos rfl, m_isSheet I1 hq h2', bI_some, if_pos c.2.1, ite10, if_neg c.2.2]
      simp only [fT46 I1, if_true, lt_, nn, fR46_33 I1, d1, d2, ix_n (show s < 2147483648 by omega), ix_n (show t < 2147483648 by omega), ek', el', fa_and, m_bits F (show k &&& l < 2147483648 by omega) hF, m_bits F (show k < 2147483648 by omega) hF, m_bits F (show l < 2147483648 by omega) hF, bI_some]
      rw [m_wld F hF A B CB, show (16 : Int32) = nI 16 from rfl, m_ch F hF (by decide) B, bL_some, hU, hW, fT46 I1, if_pos rfl, at', bI_some]
      by_cases z : nI (pcn (k &&& l) 20) < now (mm h) 2
      · rw [if_pos z, if_pos rfl, fT46 I1, if_pos rfl, m_share F I1 hF hw (by omega) hc16, bI_some, hG]
      · rw [if_neg z, if_neg one0, fT46 I1, if_pos rfl, m_share F I1 hF hw (by omega) hc16, bI_some, hG]
    · refine ⟨?_, ?_⟩
      · rw [← hh1]; simp [hJ_sJ]
      · rw [← hh1]; simp [hJ_sJ]
    · show hZ g1 ≤ _; rw [← hh1]; show hZ h ≤ _; omega
    · show hS g1 ≤ _; rw [← hh1]; show hS h ≤ _; omega
  · refine OkI.same (-1) ⟨ow, J⟩ ?_ ?_
    · rw [fT5 I, if_pos rfl, x_two F _ _ I hq h1, bI_some, if_neg c, ite00]
    · rw [fT46 I, if_pos rfl, m_isSheet I hq h2, bI_some]
      by_cases c1 : 0 ≤ x1.toInt ∧ x1.toInt ≤ (q : Int) - 1
      · rw [if_pos c1, ite10, fT46 I, if_pos rfl, m_isSheet I hq h2, bI_some]
        by_cases c2 : 0 ≤ x2.toInt ∧ x2.toInt ≤ (q : Int) - 1
        · rw [if_pos c2, ite10, if_pos (Classical.byContradiction (fun e => c ⟨c1, c2, e⟩))]
        · rw [if_neg c2, ite00]
      · rw [if_neg c1, ite00]
end OpsH
