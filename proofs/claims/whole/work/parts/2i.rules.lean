section OpsD
variable {h : z_Hp} (F : Nat) (x1 x2 x3 x4 x5 : Int32)
def enc : Option Nat → Int32
  | none => -9
  | some k => nI k
/-- of those that count the last with the latest from-day -/
def gv (fr : Nat → Int32) (ok : Nat → Bool) : Nat → Option Nat
  | 0 => none
  | k + 1 => if ok k = true ∧ (∀ b, gv fr ok k = some b → ¬ fr k < fr b) then some k else gv fr ok k
theorem gv_lt (fr : Nat → Int32) (ok : Nat → Bool) : ∀ k b, gv fr ok k = some b → b < k ∧ ok b = true
  | 0, b, h => by cases h
  | k + 1, b, h => by
    unfold gv at h
    split at h
    · rename_i c
      cases h
      exact ⟨by omega, c.1⟩
    · have := gv_lt fr ok k b h
      exact ⟨by omega, this.2⟩
def okR (M : Nat → Nat → Int32) (w : Nat) (day known : Int32) (k : Nat) : Bool := !(decide (known < M 59 k)) && (!(decide (day < M 60 k)) && !(decide (M 61 (5 * k + w) < 0)))
def gov (M : Nat → Nat → Int32) (w : Nat) (day known : Int32) : Option Nat := gv (M 60) (okR M w day known) (ix (M 46 19))
def frc (M : Nat → Nat → Int32) (w : Nat) (day known : Int32) : Int32 := match gov M w day known with
  | none => z_tab 3 w
  | some b => M 61 (5 * b + w)
/-- in force for today as known on it -/
def now (M : Nat → Nat → Int32) (w : Nat) : Int32 := frc M w (M 46 6) (M 46 6)
theorem mm_fn (h : z_Hp) : mm h 59 = hI h 59 ∧ mm h 60 = hI h 60 ∧ mm h 61 = hI h 61 ∧ mm h 46 19 = hI h 46 19 ∧ mm h 46 6 = hI h 46 6 := ⟨rfl, rfl, rfl, rfl, rfl⟩
theorem x_numberOf (I : Ifx h) (S : Rsta h) {k w : Nat} (hk : k < 16) (hw : w < 5) : c_X3_numberOf F 10 (nI k) (nI w) h = some (hI h 13 (5 * k + w), h) := by
  have e1 : nI k * nI 5 + nI w = nI (5 * k + w) := by rw [nI_mul, nI_add, Nat.mul_comm]
  have b1 : okA h 13 20 (nI (5 * k + w)) = true := okA_n (fT13 I) (fN13 I) (by omega) (by decide)
  have b2 : okL h 2 = true := okL_n (S.1 2 (by decide)) (by decide) (by decide)
  unfold c_X3_numberOf
  simp only [fT5 I, fT6 I, fT7 I, fT8 I, fT9 I, fT10 I, fT11 I, fT12 I, fT13 I, fT14 I, fT15 I, fT16 I, fT17 I, fT18 I, fT19 I, fT20 I, fT21 I, fT22 I, fT23 I, fT24 I, fT25 I, fT26 I, fT27 I, fT28 I, fT29 I, fT30 I, fT31 I, fT32 I, fT33 I, fT34 I, fT35 I, fT36 I, fT37 I, fT38 I, fT39 I, fT40 I, fT41 I, fT42 I, fT43 I, fT44 I, fT45 I, fR5_0 I, fR5_1 I, fR5_2 I, fR5_3 I, fR5_5 I, fR5_6 I, fR5_7 I, fR5_8 I, fR5_9 I, fR5_10 I, fR5_11 I, fR5_13 I, fR10_0 I, fR10_1 I, fR10_2 I, fR14_0 I, fR16_0 I, fR16_1 I, fR20_0 I, fR20_1 I, fR20_2 I, fR20_3 I, fR20_4 I, fR20_5 I, fR20_6 I, fR28_0 I, fR28_1 I, fR28_2 I, fR28_3 I, fR28_4 I, fR34_0 I, fR34_1 I, fR34_2 I, fR34_3 I, fR39_0 I, fR39_1 I, fR39_2 I, fR39_3 I, fR39_4 I, if_true, lt_, b2, nn, S.2.2.2.1, e1, b1, ix_n (show 5 * k + w < 2147483648 by omega)]
theorem enc9 {b : Nat} (h : b < 2147483648) : ¬ nI b = -9 := by
  rw [fa_eq, toI_n h, tm_9]; omega
theorem x_gov (I : Ifx h) (S : Rsta h) (R : Rrul h) (hF : 5000 ≤ F) {w : Nat} (hw : w < 5) (day known : Int32) : c_X3_governing F 10 (nI w) day known h = some (enc (gov (mm h) w day known), h) := by
  obtain ⟨q, hq, h1, h2, h3⟩ := R
  unfold c_X3_governing gov
  rw [(mm_fn h).2.2.2.1, h2, ix_n (by omega), (mm_fn h).2.1]
  refine lpS (L := fun m (s : Int32 × Int32) => c_X3_governing_L7 F 10 (nI w) day known m s.1 s.2 h) (fun k => (enc (gv (hI h 60) (okR (mm h) w day known) k), nI k)) q (fun m k hk => ?_) (fun m => ?_) F (by omega)
  · show c_X3_governing_L7 F 10 (nI w) day known (m + 1) (enc (gv (hI h 60) (okR (mm h) w day known) k)) (nI k) h = _
    obtain ⟨g1, g2, g3, g4, g5⟩ := h3 k hk
    obtain ⟨g6, g7⟩ := g5 w hw
    have b1 : okA h 11 20 (nI k) = true := okA_n (fT11 I) (fN11 I) (by omega) (by decide)
    have b2 : okA h 12 20 (nI k) = true := okA_n (fT12 I) (fN12 I) (by omega) (by decide)
    have K : gv (hI h 60) (okR (mm h) w day known) (k + 1) = if okR (mm h) w day known k = true ∧ (∀ b, gv (hI h 60) (okR (mm h) w day known) k = some b → ¬ hI h 60 k < hI h 60 b) then some k else gv (hI h 60) (okR (mm h) w day known) k := rfl
    have O : okR (mm h) w day known k = (!(decide (known < hI h 59 k)) && (!(decide (day < hI h 60 k)) && !(decide (hI h 61 (5 * k + w) < 0)))) := rfl
    have lt := gv_lt (hI h 60) (okR (mm h) w day known) k
    generalize gv (hI h 60) (okR (mm h) w day known) k = best at K lt ⊢
    show _ = c_X3_governing_L7 F 10 (nI w) day known m (enc (gv (hI h 60) (okR (mm h) w day known) (k + 1))) (nI (k + 1)) h
    rw [K, c_X3_governing_L7]
    rw [fT10 I, if_pos rfl, h1, if_neg (nI_ge hk (by omega)), if_pos rfl, fR10_0 I]
    dsimp only [lt_, nn]
    rw [if_pos b1, ix_n (by omega), g1]
    by_cases d1 : known < hI h 59 k
    · rw [if_pos d1, if_neg (by rw [O, decide_eq_true d1]; simp), nI_1]
    · rw [if_neg d1, if_pos rfl, fR10_1 I]
      dsimp only
      rw [if_pos b2, g2]
      by_cases d2 : day < hI h 60 k
      · rw [if_pos d2, if_neg (by rw [O, decide_eq_true d2]; simp), nI_1]
      · rw [if_neg d2, if_pos rfl, x_numberOf F I S (by omega) hw, bI_some, g6]
        by_cases d3 : hI h 61 (5 * k + w) = -9
        · rw [if_pos d3, if_neg (by rw [O, d3]; simp [nlt9]), nI_1]
        · rw [if_neg d3]
          have ok : okR (mm h) w day known k = true := by
            rw [O, decide_eq_false d1, decide_eq_false d2]
            rcases g7 with g7 | ⟨v, hv, g7⟩
            · exact absurd g7 d3
            · rw [g7, decide_eq_false (pnI (by omega))]; rfl
          cases best with
          | none =>
            rw [if_pos (show enc none = -9 from rfl), if_pos ⟨ok, fun b e => by cases e⟩, nI_1]; rfl
          | some b =>
            have hb := (lt b rfl).1
            obtain ⟨k1, k2, -⟩ := h3 b (by omega)
            have b3 : okA h 12 20 (nI b) = true := okA_n (fT12 I) (fN12 I) (by omega) (by decide)
            rw [if_neg (show ¬ enc (some b) = -9 from enc9 (by omega))]
            simp only [fT10 I, if_true, fR10_1 I, b2, ix_n (show k < 2147483648 by omega), show enc (some b) = nI b from rfl, b3, ix_n (show b < 2147483648 by omega), g2, k2, nI_1]
            by_cases d4 : hI h 60 k < hI h 60 b
            · rw [if_pos d4, if_neg (fun e => e.2 b rfl d4)]; rfl
            · rw [if_neg d4, if_pos ⟨ok, fun b' e => by cases e; exact d4⟩]; rfl
  · show c_X3_governing_L7 F 10 (nI w) day known (m + 1) _ (nI q) h = _
    rw [c_X3_governing_L7, fT10 I, if_pos rfl, h1, if_pos (nI_le (Nat.le_refl q) (by omega))]
theorem m_gov (I : Ifx h) (R : Rrul h) (hF : 5000 ≤ F) {w : Nat} (hw : w < 5) (day known : Int32) : c_X10_ruleFor F 46 (nI w) day known h = some (enc (gov (mm h) w day known), h) := by
  obtain ⟨q, hq, h1, h2, h3⟩ := R
  unfold c_X10_ruleFor gov
  rw [(mm_fn h).2.2.2.1, h2, ix_n (by omega), (mm_fn h).2.1]
  refine lpS (L := fun m (s : Int32 × Int32) => c_X10_ruleFor_L7 F 46 (nI w) day known m s.1 s.2 h) (fun k => (enc (gv (hI h 60) (okR (mm h) w day known) k), nI k)) q (fun m k hk => ?_) (fun m => ?_) F (by omega)
  · show c_X10_ruleFor_L7 F 46 (nI w) day known (m + 1) (enc (gv (hI h 60) (okR (mm h) w day known) k)) (nI k) h = _
    have b1 : okA h 59 20 (nI k) = true := okA_n (fT59 I) (fN59 I) (by omega) (by decide)
    have b2 : okA h 60 20 (nI k) = true := okA_n (fT60 I) (fN60 I) (by omega) (by decide)
    have b4 : okA h 61 20 (nI (5 * k + w)) = true := okA_n (fT61 I) (fN61 I) (by omega) (by decide)
    have e1 : (5 : Int32) * nI k + nI w = nI (5 * k + w) := by rw [show (5 : Int32) = nI 5 from rfl, nI_mul, nI_add]
    have K : gv (hI h 60) (okR (mm h) w day known) (k + 1) = if okR (mm h) w day known k = true ∧ (∀ b, gv (hI h 60) (okR (mm h) w day known) k = some b → ¬ hI h 60 k < hI h 60 b) then some k else gv (hI h 60) (okR (mm h) w day known) k := rfl
    have O : okR (mm h) w day known k = (!(decide (known < hI h 59 k)) && (!(decide (day < hI h 60 k)) && !(decide (hI h 61 (5 * k + w) < 0)))) := rfl
    have lt := gv_lt (hI h 60) (okR (mm h) w day known) k
    generalize gv (hI h 60) (okR (mm h) w day known) k = best at K lt ⊢
    show _ = c_X10_ruleFor_L7 F 46 (nI w) day known m (enc (gv (hI h 60) (okR (mm h) w day known) (k + 1))) (nI (k + 1)) h
    rw [K, c_X10_ruleFor_L7]
    rw [fT46 I, if_pos rfl, h2, if_neg (nI_ge hk (by omega)), if_pos rfl, fR46_20 I]
    dsimp only [lt_, nn]
    rw [if_pos b1, ix_n (by omega)]
    by_cases d1 : known < hI h 59 k
    · rw [if_pos d1, if_pos rfl, if_neg (by rw [O, decide_eq_true d1]; simp), nI_1]
    · rw [if_neg d1, if_pos rfl, fR46_21 I]
      dsimp only
      rw [if_pos b2]
      by_cases d2 : day < hI h 60 k
      · rw [if_pos d2, if_pos rfl, if_neg (by rw [O, decide_eq_true d2]; simp), nI_1]
      · rw [if_neg d2, if_pos rfl, fR46_22 I]
        dsimp only
        rw [e1, if_pos b4, ix_n (by omega)]
        by_cases d3 : hI h 61 (5 * k + w) < 0
        · rw [if_pos d3, if_pos rfl, if_neg (by rw [O, decide_eq_true d3]; simp), nI_1]
        · rw [if_neg d3, if_neg one0]
          have ok : okR (mm h) w day known k = true := by
            rw [O, decide_eq_false d1, decide_eq_false d2, decide_eq_false d3]; rfl
          cases best with
          | none =>
            rw [if_pos (show enc none < 0 from nlt9), if_pos ⟨ok, fun b e => by cases e⟩, nI_1]; rfl
          | some b =>
            have hb := (lt b rfl).1
            have b3 : okA h 60 20 (nI b) = true := okA_n (fT60 I) (fN60 I) (by omega) (by decide)
            rw [if_neg (show ¬ enc (some b) < 0 from pnI (by omega))]
            simp only [fT46 I, if_true, fR46_21 I, b2, ix_n (show k < 2147483648 by omega), show enc (some b) = nI b from rfl, b3, ix_n (show b < 2147483648 by omega), nI_1]
            by_cases d4 : hI h 60 k < hI h 60 b
            · rw [if_pos d4, if_neg (fun e => e.2 b rfl d4)]; rfl
            · rw [if_neg d4, if_pos ⟨ok, fun b' e => by cases e; exact d4⟩]; rfl
  · show c_X10_ruleFor_L7 F 46 (nI w) day known (m + 1) _ (nI q) h = _
    rw [c_X10_ruleFor_L7, fT46 I, if_pos rfl, h2, if_pos (nI_le (Nat.le_refl q) (by omega))]
theorem gov_lt (R : Rrul h) {w : Nat} {day known : Int32} {b : Nat} (e : gov (mm h) w day known = some b) : b < 16 ∧ hI h 13 (5 * b + w) = hI h 61 (5 * b + w) ∧ (w < 5 → ∃ v, v ≤ 999 ∧ hI h 61 (5 * b + w) = nI v) ∨ 5 ≤ w := by
  obtain ⟨q, hq, h1, h2, h3⟩ := R
  unfold gov at e
  rw [(mm_fn h).2.2.2.1, h2, ix_n (by omega)] at e
  obtain ⟨a1, a2⟩ := gv_lt _ _ _ _ e
  by_cases hw : w < 5
  · left
    have g := (h3 b a1).2.2.2.2 w hw
    refine ⟨by omega, g.1, fun _ => ?_⟩
    rcases g.2 with g2 | g2
    · have O : okR (mm h) w day known b = (!(decide (known < hI h 59 b)) && (!(decide (day < hI h 60 b)) && !(decide (hI h 61 (5 * b + w) < 0)))) := rfl
      rw [O, g2, decide_eq_true nlt9] at a2
      simp at a2
    · exact g2
  · exact Or.inr (by omega)
theorem x_frc (I : Ifx h) (S : Rsta h) (R : Rrul h) (hF : 5000 ≤ F) {w : Nat} (hw : w < 5) (day known : Int32) : c_X3_inForce F 10 (nI w) day known h = some (frc (mm h) w day known, h) := by
  unfold c_X3_inForce frc
  rw [fT10 I, if_pos rfl, x_gov F I S R hF hw, bI_some]
  cases e : gov (mm h) w day known with
  | none =>
    dsimp only
    rw [if_pos (show enc none = -9 from rfl), S.2.2.2.2.1, if_pos (inb_n hw (by decide)), ix_n (by omega), S.2.2.2.2.2 3 w (by decide)]
  | some b =>
    rcases gov_lt R e with ⟨g1, g2, g3⟩ | g
    · dsimp only
      rw [if_neg (show ¬ enc (some b) = -9 from enc9 (by omega)), fT10 I, if_pos rfl, show enc (some b) = nI b from rfl, x_numberOf F I S g1 hw, bI_some, g2]; rfl
    · omega
theorem m_frc (I : Ifx h) (R : Rrul h) (hF : 5000 ≤ F) {w : Nat} (hw : w < 5) (day known : Int32) : c_X10_inForce F 46 (nI w) day known h = some (frc (mm h) w day known, h) := by
  unfold c_X10_inForce frc
  rw [fT46 I, if_pos rfl, m_gov F I R hF hw, bI_some]
  cases e : gov (mm h) w day known with
  | none =>
    dsimp only
    rw [if_pos (show enc none < 0 from nlt9)]
    rcases (show w = 0 ∨ w = 1 ∨ w = 2 ∨ w = 3 ∨ w = 4 by omega) with rfl | rfl | rfl | rfl | rfl
    · rw [if_pos (by decide)]; rfl
    · rw [if_neg (by decide), if_pos (by decide)]; rfl
    · rw [if_neg (by decide), if_neg (by decide), if_pos (by decide)]; rfl
    · rw [if_neg (by decide), if_neg (by decide), if_neg (by decide), if_pos (by decide)]; rfl
    · rw [if_neg (by decide), if_neg (by decide), if_neg (by decide), if_neg (by decide)]; rfl
  | some b =>
    rcases gov_lt R e with ⟨g1, g2, g3⟩ | g
    · dsimp only
      have e1 : (5 : Int32) * nI b + nI w = nI (5 * b + w) := by rw [show (5 : Int32) = nI 5 from rfl, nI_mul, nI_add]
      have b4 : okA h 61 20 (nI (5 * b + w)) = true := okA_n (fT61 I) (fN61 I) (by omega) (by decide)
      rw [if_neg (show ¬ enc (some b) < 0 from pnI (by omega)), fT46 I, if_pos rfl, fR46_22 I, show enc (some b) = nI b from rfl]
      dsimp only [lt_, nn]
      rw [e1, if_pos b4, ix_n (by omega)]; rfl
    · omega
theorem frc_rng (R : Rrul h) {w : Nat} (hw : w < 5) (day known : Int32) : ∃ v, v ≤ 999 ∧ frc (mm h) w day known = nI v := by
  unfold frc
  cases e : gov (mm h) w day known with
  | none =>
    dsimp only
    rcases (show w = 0 ∨ w = 1 ∨ w = 2 ∨ w = 3 ∨ w = 4 by omega) with rfl | rfl | rfl | rfl | rfl
    · exact ⟨1, by omega, rfl⟩
    · exact ⟨21, by omega, rfl⟩
    · exact ⟨3, by omega, rfl⟩
    · exact ⟨2, by omega, rfl⟩
    · exact ⟨1, by omega, rfl⟩
  | some b =>
    rcases gov_lt R e with ⟨g1, g2, g3⟩ | g
    · exact g3 hw
    · omega
theorem x_now (I : Ifx h) (S : Rsta h) (R : Rrul h) (T : Rtod h) (hF : 5000 ≤ F) (x : Int32) (w : Nat) (ex : x = nI w) (hw : w < 5) : c_X9_inForceToday F 5 x h = some (now (mm h) w, h) := by
  subst ex
  obtain ⟨t, ht, t1, t2⟩ := T
  unfold c_X9_inForceToday now
  simp only [fT5 I, fT6 I, fT7 I, fT8 I, fT9 I, fT10 I, fT11 I, fT12 I, fT13 I, fT14 I, fT15 I, fT16 I, fT17 I, fT18 I, fT19 I, fT20 I, fT21 I, fT22 I, fT23 I, fT24 I, fT25 I, fT26 I, fT27 I, fT28 I, fT29 I, fT30 I, fT31 I, fT32 I, fT33 I, fT34 I, fT35 I, fT36 I, fT37 I, fT38 I, fT39 I, fT40 I, fT41 I, fT42 I, fT43 I, fT44 I, fT45 I, fR5_0 I, fR5_1 I, fR5_2 I, fR5_3 I, fR5_5 I, fR5_6 I, fR5_7 I, fR5_8 I, fR5_9 I, fR5_10 I, fR5_11 I, fR5_13 I, fR10_0 I, fR10_1 I, fR10_2 I, fR14_0 I, fR16_0 I, fR16_1 I, fR20_0 I, fR20_1 I, fR20_2 I, fR20_3 I, fR20_4 I, fR20_5 I, fR20_6 I, fR28_0 I, fR28_1 I, fR28_2 I, fR28_3 I, fR28_4 I, fR34_0 I, fR34_1 I, fR34_2 I, fR34_3 I, fR39_0 I, fR39_1 I, fR39_2 I, fR39_3 I, fR39_4 I, if_true, lt_, nn, t1, (mm_fn h).2.2.2.2, t2, x_frc F I S R hF hw, bI_some]
theorem m_now (I : Ifx h) (R : Rrul h) (hF : 5000 ≤ F) (x : Int32) (w : Nat) (ex : x = nI w) (hw : w < 5) : c_X10_nowInForce F 46 x h = some (now (mm h) w, h) := by
  subst ex
  unfold c_X10_nowInForce now
  simp only [fT46 I, if_true, (mm_fn h).2.2.2.2, m_frc F I R hF hw, bI_some]
theorem x_isForce : c_X9_isForce F x1 x2 x3 h = some (if (0 ≤ x1.toInt ∧ x1.toInt ≤ 4) ∧ (0 ≤ x2.toInt ∧ x2.toInt ≤ 999) ∧ (0 ≤ x3.toInt ∧ x3.toInt ≤ 999) then 1 else 0, h) := by
  unfold c_X9_isForce
  simp only [fa_lt, ti_0, ti_4, x_isDay, bI_some]
  by_cases c1 : x1.toInt < 0
  · rw [if_pos c1, if_neg (by omega)]
  · rw [if_neg c1]
    by_cases c2 : 4 < x1.toInt
    · rw [if_pos c2, if_neg (by omega)]
    · rw [if_neg c2]
      by_cases c3 : 0 ≤ x2.toInt ∧ x2.toInt ≤ 999
      · rw [if_pos c3, ite10]
        by_cases c4 : 0 ≤ x3.toInt ∧ x3.toInt ≤ 999
        · rw [if_pos c4, ite10, if_pos (by omega)]
        · rw [if_neg c4, ite00, if_neg (by omega)]
      · rw [if_neg c3, ite00, if_neg (by omega)]
theorem m_isAsked : c_X10_isAsked F x1 x2 x3 h = some (if (0 ≤ x1.toInt ∧ x1.toInt ≤ 4) ∧ (0 ≤ x2.toInt ∧ x2.toInt ≤ 999) ∧ (0 ≤ x3.toInt ∧ x3.toInt ≤ 999) then 1 else 0, h) := by
  unfold c_X10_isAsked
  simp only [m_in, ti_0, ti_4, m_isDay, bI_some]
  by_cases c1 : 0 ≤ x1.toInt ∧ x1.toInt ≤ 4
  · rw [if_pos c1, ite10]
    by_cases c3 : 0 ≤ x2.toInt ∧ x2.toInt ≤ 999
    · rw [if_pos c3, ite10]
      by_cases c4 : 0 ≤ x3.toInt ∧ x3.toInt ≤ 999
      · rw [if_pos c4, ite10, if_pos (by omega)]
      · rw [if_neg c4, ite00, if_neg (by omega)]
    · rw [if_neg c3, ite00, if_neg (by omega)]
  · rw [if_neg c1, ite00, if_neg (by omega)]
theorem InvO.rul {ow : Ow} (J : InvO ow h) : Rrul h := J.2.2.2.2.2.2.2.2.2.2.2.1
theorem InvO.sta {ow : Ow} (J : InvO ow h) : Rsta h := J.2.2.2.2.2.2.2.2.2.2.2.2.2.2.2.2.2.2
theorem InvO.tod {ow : Ow} (J : InvO ow h) : Rtod h := J.2.2.1
theorem InvO.she {ow : Ow} (J : InvO ow h) : Rshe ow h := J.2.2.2.2.2.2.2.2.2.2.2.2.2.1
theorem InvO.sng {ow : Ow} (J : InvO ow h) : Rsng ow h := J.2.2.2.2.2.2.2.2.2.1
theorem InvO.txt {ow : Ow} (J : InvO ow h) : Rtxt ow h := J.2.2.2.2.2.2.2.2.1
theorem InvO.row {ow : Ow} (J : InvO ow h) : Rrow ow h := J.2.2.2.2.2.2.2.1
theorem InvO.tun {ow : Ow} (J : InvO ow h) : Rtun ow h := J.2.2.2.2.2.2.2.2.2.2.1
theorem InvO.prn {ow : Ow} (J : InvO ow h) : Rprn h := J.2.2.2.2.2.2.2.2.2.2.2.2.1
theorem InvO.reg {ow : Ow} (J : InvO ow h) : Rreg h := J.2.2.2.2.2.2.2.2.2.2.2.2.2.2.1
theorem InvO.wlk {ow : Ow} (J : InvO ow h) : Rwlk ow h := J.2.2.2.2.2.2.2.2.2.2.2.2.2.2.2.1
theorem InvO.sun {ow : Ow} (J : InvO ow h) : Rsun h := J.2.2.2.2.2.2.2.2.2.2.2.2.2.2.2.2.1
theorem InvO.way {ow : Ow} (J : InvO ow h) : Rway ow h := J.2.2.2.2.2.2.2.2.2.2.2.2.2.2.2.2.2.1
theorem op_force (hF : 5000 ≤ F) (J : Inv h) : OkI h (c_X9_force F 5 x1 x2 x3 h) (c_X10_force F 46 x1 x2 x3) := by
  obtain ⟨ow, J⟩ := J
  have I := J.2.1
  unfold c_X9_force c_X10_force
  by_cases c : (0 ≤ x1.toInt ∧ x1.toInt ≤ 4) ∧ (0 ≤ x2.toInt ∧ x2.toInt ≤ 999) ∧ (0 ≤ x3.toInt ∧ x3.toInt ≤ 999)
  · obtain ⟨w, hw, rfl⟩ := rng (x := x1) (n := 4) c.1
    refine OkI.same (frc (mm h) w x2 x3) ⟨ow, J⟩ ?_ ?_
    · rw [x_isForce, bI_some, if_pos c, ite10]
      simp only [fT5 I, fT6 I, fT7 I, fT8 I, fT9 I, fT10 I, fT11 I, fT12 I, fT13 I, fT14 I, fT15 I, fT16 I, fT17 I, fT18 I, fT19 I, fT20 I, fT21 I, fT22 I, fT23 I, fT24 I, fT25 I, fT26 I, fT27 I, fT28 I, fT29 I, fT30 I, fT31 I, fT32 I, fT33 I, fT34 I, fT35 I, fT36 I, fT37 I, fT38 I, fT39 I, fT40 I, fT41 I, fT42 I, fT43 I, fT44 I, fT45 I, fR5_0 I, fR5_1 I, fR5_2 I, fR5_3 I, fR5_5 I, fR5_6 I, fR5_7 I, fR5_8 I, fR5_9 I, fR5_10 I, fR5_11 I, fR5_13 I, fR10_0 I, fR10_1 I, fR10_2 I, fR14_0 I, fR16_0 I, fR16_1 I, fR20_0 I, fR20_1 I, fR20_2 I, fR20_3 I, fR20_4 I, fR20_5 I, fR20_6 I, fR28_0 I, fR28_1 I, fR28_2 I, fR28_3 I, fR28_4 I, fR34_0 I, fR34_1 I, fR34_2 I, fR34_3 I, fR39_0 I, fR39_1 I, fR39_2 I, fR39_3 I, fR39_4 I, if_true, lt_, nn, x_frc F I J.sta J.rul hF (show w < 5 by omega), bI_some]
    · rw [m_isAsked, bI_some, if_pos c, ite10, fT46 I, if_pos rfl, m_frc F I J.rul hF (by omega), bI_some]
  · exact OkI.same (-1) ⟨ow, J⟩ (by rw [x_isForce, bI_some, if_neg c, ite00]) (by rw [m_isAsked, bI_some, if_neg c, ite00])
theorem op_why (hF : 5000 ≤ F) (J : Inv h) : OkI h (c_X9_why F 5 x1 x2 x3 h) (c_X10_why F 46 x1 x2 x3) := by
  obtain ⟨ow, J⟩ := J
  have I := J.2.1
  unfold c_X9_why c_X10_why
  by_cases c : (0 ≤ x1.toInt ∧ x1.toInt ≤ 4) ∧ (0 ≤ x2.toInt ∧ x2.toInt ≤ 999) ∧ (0 ≤ x3.toInt ∧ x3.toInt ≤ 999)
  · obtain ⟨w, hw, rfl⟩ := rng (x := x1) (n := 4) c.1
    refine OkI.same (enc (gov (mm h) w x2 x3)) ⟨ow, J⟩ ?_ ?_
    · rw [x_isForce, bI_some, if_pos c, ite10]
      simp only [fT5 I, fT6 I, fT7 I, fT8 I, fT9 I, fT10 I, fT11 I, fT12 I, fT13 I, fT14 I, fT15 I, fT16 I, fT17 I, fT18 I, fT19 I, fT20 I, fT21 I, fT22 I, fT23 I, fT24 I, fT25 I, fT26 I, fT27 I, fT28 I, fT29 I, fT30 I, fT31 I, fT32 I, fT33 I, fT34 I, fT35 I, fT36 I, fT37 I, fT38 I, fT39 I, fT40 I, fT41 I, fT42 I, fT43 I, fT44 I, fT45 I, fR5_0 I, fR5_1 I, fR5_2 I, fR5_3 I, fR5_5 I, fR5_6 I, fR5_7 I, fR5_8 I, fR5_9 I, fR5_10 I, fR5_11 I, fR5_13 I, fR10_0 I, fR10_1 I, fR10_2 I, fR14_0 I, fR16_0 I, fR16_1 I, fR20_0 I, fR20_1 I, fR20_2 I, fR20_3 I, fR20_4 I, fR20_5 I, fR20_6 I, fR28_0 I, fR28_1 I, fR28_2 I, fR28_3 I, fR28_4 I, fR34_0 I, fR34_1 I, fR34_2 I, fR34_3 I, fR39_0 I, fR39_1 I, fR39_2 I, fR39_3 I, fR39_4 I, if_true, lt_, nn, x_gov F I J.sta J.rul hF (show w < 5 by omega), bI_some]
    · rw [m_isAsked, bI_some, if_pos c, ite10, fT46 I, if_pos rfl, m_gov F I J.rul hF (by omega), bI_some]
  · exact OkI.same (-1) ⟨ow, J⟩ (by rw [x_isForce, bI_some, if_neg c, ite00]) (by rw [m_isAsked, bI_some, if_neg c, ite00])
end OpsD
