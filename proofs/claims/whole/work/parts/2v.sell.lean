section OpsP
variable {h : z_Hp} (F : Nat) (x1 x2 x3 x4 x5 : Int32)
/-- where seller j is on day d; -9: nowhere -/
def plc (M : Nat → Nat → Int32) (j d : Nat) : Int32 := if M 89 j < 0 then -9 else M 90 (40 * j + (if d < ix (M 89 j) then d else ix (M 89 j) - 1))
theorem mm_sl (h : z_Hp) : mm h 89 = hI h 89 ∧ mm h 90 = hI h 90 ∧ mm h 91 = hI h 91 ∧ mm h 92 = hI h 92 ∧ mm h 93 = hI h 93 ∧ mm h 46 55 = hI h 46 55 := ⟨rfl, rfl, rfl, rfl, rfl, rfl⟩
theorem plc_rng {ow : Ow} (W : Rwlk ow h) {j : Nat} (hj : j < 4) (d : Nat) : (hI h 89 j < 0 ∧ plc (mm h) j d = -9) ∨ (¬ hI h 89 j < 0 ∧ ∃ p, p < 10 ∧ plc (mm h) j d = nI p) := by
  obtain ⟨w1, w2, w3⟩ := W j hj
  unfold plc
  rw [(mm_sl h).1, (mm_sl h).2.1]
  by_cases c : hI h 89 j < 0
  · exact Or.inl ⟨c, if_pos c⟩
  · refine Or.inr ⟨c, ?_⟩
    rw [if_neg c]
    rcases w1 with ⟨g1, -⟩ | ⟨n, a, g1, g2, -⟩
    · rw [g1] at c; exact absurd nlt9 c
    · have n0 : n ≠ 0 := fun e => w2 (by rw [g2, e]; rfl)
      rw [g2, ix_n (by omega)]
      exact w3 _ n g2 g1 (by split <;> omega)
theorem x_min (x y : Int32) : c_J9_min_7cf53 F x y h = some (if y < x then y else x, h) := by
  unfold c_J9_min_7cf53
  split <;> rfl
theorem x_placeOf {ow : Ow} (I : Ifx h) (W : Rwlk ow h) {j d : Nat} (hj : j < 4) (hd : d < 100) : c_X4_placeOf F 39 (nI j) (nI d) h = some (plc (mm h) j d, h) := by
  obtain ⟨w1, w2, w3⟩ := W j hj
  have b1 : okA h 40 23 (nI j) = true := okA_n (fT40 I) (fN40 I) (by omega) (by decide)
  unfold c_X4_placeOf plc
  rw [(mm_sl h).1, (mm_sl h).2.1, fT39 I, if_pos rfl, fR39_0 I]
  dsimp only [lt_, nn]
  rw [if_pos b1, ix_n (by omega)]
  rcases w1 with ⟨g1, g2⟩ | ⟨n, a, g1, g2, g3, g4, g5, g6, g7, g8⟩
  · rw [g2, g1, if_pos nlt9]; rfl
  · have n0 : n ≠ 0 := fun e => w2 (by rw [g2, e]; rfl)
    have b2 : okL h a = true := okL_n g4 (by decide) (by decide)
    rw [g3, g2, if_neg (pnI (by omega)), ix_n (by omega)]
    dsimp only [nl]
    rw [if_pos b2, g5, if_neg (nI_ne0 (by omega) (by omega)), if_pos b2, show (1 : Int32) = nI 1 from rfl, nI_sub (by omega), x_min, bI_some]
    by_cases c : d < n
    · rw [if_neg (nI_nlt (by omega) (by omega)), if_pos c, if_pos (okA_n g4 g5 c (by omega)), ix_n (by omega), g8 d c]
    · rw [if_neg c]
      by_cases c2 : n - 1 < d
      · rw [if_pos (nI_lt c2 (by omega)), if_pos (okA_n g4 g5 (by omega) (by omega)), ix_n (by omega), g8 (n - 1) (by omega)]
      · rw [if_neg (nI_nlt (by omega) (by omega)), show d = n - 1 by omega, if_pos (okA_n g4 g5 (by omega) (by omega)), ix_n (by omega), g8 (n - 1) (by omega)]
theorem m_placeOf {ow : Ow} (I : Ifx h) (W : Rwlk ow h) {j d : Nat} (hj : j < 4) (hd : d < 100) : c_X10_placeOf F 46 (nI j) (nI d) h = some (plc (mm h) j d, h) := by
  obtain ⟨w1, w2, w3⟩ := W j hj
  have b1 : okA h 89 20 (nI j) = true := okA_n (fT89 I) (fN89 I) (by omega) (by decide)
  unfold c_X10_placeOf plc
  rw [(mm_sl h).1, (mm_sl h).2.1, fT46 I, if_pos rfl, fR46_53 I]
  dsimp only [lt_, nn]
  rw [if_pos b1, ix_n (by omega)]
  rcases w1 with ⟨g1, g2⟩ | ⟨n, a, g1, g2, g3, g4, g5, g6, g7, g8⟩
  · rw [g1, if_pos nlt9, if_neg nn9]
  · have n0 : n ≠ 0 := fun e => w2 (by rw [g2, e]; rfl)
    rw [g2, if_pos (nge (by omega)), if_pos rfl, fR46_54 I, if_pos rfl, if_pos b1, if_neg (pnI (by omega)), ix_n (show n < 2147483648 by omega)]
    by_cases c : d < n
    · have e1 : (40 : Int32) * nI j + nI d = nI (40 * j + d) := by rw [show (40 : Int32) = nI 40 from rfl, nI_mul, nI_add]
      have b2 : okA h 90 20 (nI (40 * j + d)) = true := okA_n (fT90 I) (fN90 I) (by omega) (by decide)
      rw [if_neg (nI_ge c (by omega)), if_pos c]
      dsimp only
      rw [e1, if_pos b2, ix_n (by omega)]
    · have e1 : (40 : Int32) * nI j + (nI n - 1) = nI (40 * j + (n - 1)) := by rw [show (40 : Int32) = nI 40 from rfl, show (1 : Int32) = nI 1 from rfl, nI_mul, nI_sub (by omega), nI_add]
      have b2 : okA h 90 20 (nI (40 * j + (n - 1))) = true := okA_n (fT90 I) (fN90 I) (by omega) (by decide)
      rw [if_pos (nI_le (by omega) (by omega)), if_neg c, if_pos rfl, if_pos b1]
      dsimp only
      rw [e1, if_pos b2, ix_n (by omega)]
/-! where a song was printed, and from which day on -/
def pfv (M : Nat → Nat → Int32) (sg : Int32) : Nat → Nat → Nat
  | 0, _ => 100
  | k + 1, p => if M 91 k = sg ∧ M 92 k = nI p then (if ix (M 93 k) < pfv M sg k p then ix (M 93 k) else pfv M sg k p) else pfv M sg k p
theorem pfv_le (M : Nat → Nat → Int32) (sg : Int32) : ∀ k p, pfv M sg k p ≤ 100
  | 0, _ => Nat.le_refl _
  | k + 1, p => by
    have := pfv_le M sg k p
    unfold pfv
    split
    · split <;> omega
    · exact this
/-- it was printed there by that day -/
theorem pfv_iff (M : Nat → Nat → Int32) (sg : Int32) {d : Nat} (hd : d < 100) : ∀ k p, pfv M sg k p ≤ d ↔ ∃ i, i < k ∧ M 91 i = sg ∧ M 92 i = nI p ∧ ix (M 93 i) ≤ d
  | 0, p => by
    constructor
    · intro g; have : (100 : Nat) ≤ d := g; omega
    · intro ⟨i, hi, _⟩; omega
  | k + 1, p => by
    have ih := pfv_iff M sg hd k p
    unfold pfv
    by_cases c : M 91 k = sg ∧ M 92 k = nI p
    · rw [if_pos c]
      constructor
      · intro g
        by_cases c2 : ix (M 93 k) ≤ d
        · exact ⟨k, by omega, c.1, c.2, c2⟩
        · have : pfv M sg k p ≤ d := by
            by_cases c3 : ix (M 93 k) < pfv M sg k p
            · rw [if_pos c3] at g; omega
            · rw [if_neg c3] at g; exact g
          obtain ⟨i, g1, g2⟩ := ih.mp this
          exact ⟨i, by omega, g2⟩
      · intro ⟨i, g1, g2, g3, g4⟩
        by_cases e : i = k
        · subst e
          split <;> omega
        · have := ih.mpr ⟨i, by omega, g2, g3, g4⟩
          split <;> omega
    · rw [if_neg c, ih]
      constructor
      · intro ⟨i, g1, g2⟩; exact ⟨i, by omega, g2⟩
      · intro ⟨i, g1, g2, g3, g4⟩
        by_cases e : i = k
        · subst e; exact absurd ⟨g2, g3⟩ c
        · exact ⟨i, by omega, g2, g3, g4⟩
theorem x_findPrinted (I : Ifx h) (S : Rsun h) (hF : 5000 ≤ F) (sg : Int32) : ∃ h', c_X4_findPrinted F 39 sg h = some h' ∧ ChI (fun a _ => a = 44) h h' ∧ ∀ p, p < 10 → hI h' 44 p = nI (pfv (mm h) sg (ix (mm h 46 55)) p) := by
  obtain ⟨q, hq, h1, h2, h3⟩ := S
  rw [(mm_sl h).2.2.2.2.2, h2, ix_n (by omega)]
  have k1 : ∀ K : z_Hp → Option z_Hp, c_X4_findPrinted_L2 F 39 sg K F 0 h = K (fl h 44 0 10 (fun _ => 100)) := by
    intro K
    have key := lpS (L := fun m (u : Int32 × z_Hp) => c_X4_findPrinted_L2 F 39 sg K m u.1 u.2) (R := K (fl h 44 0 10 (fun _ => 100))) (fun k => (nI k, fl h 44 0 k (fun _ => 100))) 10 (fun m k hk => ?_) (fun m => ?_) F (by omega)
    · simp only [fl_0] at key
      exact key
    · show c_X4_findPrinted_L2 F 39 sg K (m + 1) (nI k) (fl h 44 0 k (fun _ => 100)) = c_X4_findPrinted_L2 F 39 sg K m (nI (k + 1)) _
      have b1 : okA (fl h 44 0 k (fun _ => 100)) 44 20 (nI k) = true := okA_n (fT44 I) (fN44 I) (by omega) (by decide)
      rw [c_X4_findPrinted_L2, if_neg (show ¬ (10 : Int32) ≤ nI k from nI_ge (b := 10) hk (by decide)), hT_fl, fT39 I, if_pos rfl, hR_fl, fR39_4 I]
      dsimp only [lt_, nn]
      rw [if_pos b1, ix_n (by omega), nI_1]
      have := fl_s h 44 0 k (fun _ => 100)
      rw [Nat.zero_add] at this
      rw [this]
    · show c_X4_findPrinted_L2 F 39 sg K (m + 1) (nI 10) _ = _
      rw [c_X4_findPrinted_L2, if_pos (by decide)]
  have c0 : ChI (fun a _ => a = 44) h (fl h 44 0 10 (fun _ => 100)) := ⟨fun a i e => by rw [hI_fl, if_neg (fun x => e x.1)], rfl⟩
  have key := lp (L := fun m (u : Int32 × z_Hp) => c_X4_findPrinted_L24 F 39 sg m u.1 u.2) (K := fun u => some u.2) (N := q) (fun k u => u.1 = nI k ∧ ChI (fun a _ => a = 44) h u.2 ∧ ∀ p, p < 10 → hI u.2 44 p = nI (pfv (mm h) sg k p)) (fun m k u hk hP => ?_) (fun m u hP => ?_) q 0 F (nI 0, fl h 44 0 10 (fun _ => 100)) (by omega) (by omega) ⟨rfl, c0, fun p hp => by rw [hI_fl, if_pos ⟨rfl, by omega, by omega⟩]; rfl⟩
  · obtain ⟨⟨u1, g⟩, ⟨e1, e2, e3⟩, e6⟩ := key
    refine ⟨g, ?_, e2, e3⟩
    unfold c_X4_findPrinted
    rw [k1]
    exact e6
  · obtain ⟨u1, g⟩ := u
    obtain ⟨e1, e2, e3⟩ := hP
    dsimp only at e1 e2 e3 ⊢
    subst e1
    have Ig := e2.fx I
    obtain ⟨a1, a2, a3, ⟨v1, b1, a4⟩, ⟨p, hp, a5⟩, ⟨dv, hdv, a6⟩⟩ := h3 k hk
    have f5 : hI g 39 5 = nI q := (e2.1 39 5 (by omega)).trans h1
    have f1 : hI g 41 k = hI h 91 k := (e2.1 41 k (by omega)).trans a1
    have f2 : hI g 42 k = nI p := ((e2.1 42 k (by omega)).trans a2).trans a5
    have f3 : hI g 43 k = nI dv := ((e2.1 43 k (by omega)).trans a3).trans a6
    have o1 : okA g 41 20 (nI k) = true := okA_n (fT41 Ig) (fN41 Ig) (by omega) (by decide)
    have o2 : okA g 42 20 (nI k) = true := okA_n (fT42 Ig) (fN42 Ig) (by omega) (by decide)
    have o3 : okA g 43 20 (nI k) = true := okA_n (fT43 Ig) (fN43 Ig) (by omega) (by decide)
    have o4 : okA g 44 20 (nI p) = true := okA_n (fT44 Ig) (fN44 Ig) (by omega) (by decide)
    have le := pfv_le (mm h) sg k p
    have st : ∀ x, pfv (mm h) sg (k + 1) x = if hI h 91 k = sg ∧ nI p = nI x then (if dv < pfv (mm h) sg k x then dv else pfv (mm h) sg k x) else pfv (mm h) sg k x := fun x => by
      show (if mm h 91 k = sg ∧ mm h 92 k = nI x then (if ix (mm h 93 k) < pfv (mm h) sg k x then ix (mm h 93 k) else pfv (mm h) sg k x) else pfv (mm h) sg k x) = _
      rw [(mm_sl h).2.2.1, (mm_sl h).2.2.2.1, (mm_sl h).2.2.2.2.1, a5, a6, ix_n (by omega)]
    rw [c_X4_findPrinted_L24]
    simp only [fT39 Ig, fR39_1 Ig, fR39_2 Ig, fR39_3 Ig, fR39_4 Ig, if_true, f5, if_neg (nI_ge hk (show q < 2 ^ 31 by omega)), ltq, nnq, o1, o2, o3, ix_n (show k < 2147483648 by omega), f1, f2, f3, o4, ix_n (show p < 2147483648 by omega), e3 p hp, x_min, bIq, nI_1]
    by_cases c : hI h 91 k = sg
    · rw [if_pos c]
      refine ⟨(nI (k + 1), sI g 44 p (nI (pfv (mm h) sg (k + 1) p))), ⟨rfl, e2.set rfl, fun x hx => ?_⟩, ?_⟩
      · rw [hI_sI]
        by_cases e : x = p
        · subst e; rw [if_pos ⟨rfl, rfl⟩]
        · rw [if_neg (fun y => e y.2), st x, if_neg (fun y => e (((nI_eq (by omega) (by omega)).mp y.2).symm))]; exact e3 x hx
      · have sp : pfv (mm h) sg (k + 1) p = if dv < pfv (mm h) sg k p then dv else pfv (mm h) sg k p := by rw [st p]; exact if_pos ⟨c, rfl⟩
        show _ = c_X4_findPrinted_L24 F 39 sg m (nI (k + 1)) (sI g 44 p (nI (pfv (mm h) sg (k + 1) p)))
        rw [sp]
        by_cases c2 : dv < pfv (mm h) sg k p
        · rw [if_pos c2, if_pos (nI_lt c2 (by omega))]
        · rw [if_neg c2, if_neg (nI_nlt (by omega) (by omega))]
    · rw [if_neg c]
      refine ⟨(nI (k + 1), g), ⟨rfl, e2, fun x hx => ?_⟩, rfl⟩
      rw [st x, if_neg (fun y => c y.1)]; exact e3 x hx
  · obtain ⟨u1, g⟩ := u
    obtain ⟨e1, e2, e3⟩ := hP
    dsimp only at e1 e2 e3 ⊢
    subst e1
    have Ig := e2.fx I
    have f5 : hI g 39 5 = nI q := (e2.1 39 5 (by omega)).trans h1
    rw [c_X4_findPrinted_L24, fT39 Ig, if_pos rfl, f5, if_pos (nI_le (Nat.le_refl q) (by omega))]
end OpsP
