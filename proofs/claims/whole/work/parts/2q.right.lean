section OpsK
variable {h : z_Hp} (F : Nat) (x1 x2 x3 x4 x5 : Int32)
/-- an entry of the register comes to the one who has the right, and until when -/
def stR (M : Nat → Nat → Int32) (sg Y L : Int32) (e : Nat) (t : Int32 × Int32) : Int32 × Int32 := if M 86 e = sg ∧ M 88 e ≤ Y ∧ (t.2 ≤ M 88 e ∨ M 87 e = t.1) then (M 87 e, M 88 e + L) else t
def fdR (M : Nat → Nat → Int32) (sg Y L : Int32) (p : Nat → Nat) (U : Int32) (c : Nat) : Int32 × Int32 := itr (fun k t => stR M sg Y L (p k) t) (-9, U) c
theorem mm_rg (h : z_Hp) : mm h 86 = hI h 86 ∧ mm h 87 = hI h 87 ∧ mm h 88 = hI h 88 ∧ mm h 46 49 = hI h 46 49 := ⟨rfl, rfl, rfl, rfl⟩
theorem x_hold (I : Ifx h) (R : Rreg h) (hF : 5000 ≤ F) (sg Y L : Int32) {q : Nat} {p : Nat → Nat} (hq : q ≤ 40) (h1 : hI h 34 4 = nI q) (h3 : ∀ k, k < q → hI h 35 k = hI h 86 k ∧ hI h 36 k = hI h 87 k ∧ hI h 37 k = hI h 88 k) (h4 : ∀ k, k < q → p k < q ∧ hI h 38 k = nI (p k)) (K : Int32 → Int32 → z_Hp → Option (Int32 × z_Hp)) : c_X2_holder_L12 F 34 sg Y L K F (-9) 1500 0 h = K (fdR (mm h) sg Y L p 1500 q).1 (fdR (mm h) sg Y L p 1500 q).2 h := by
  refine lpS (L := fun m (u : (Int32 × Int32) × Int32) => c_X2_holder_L12 F 34 sg Y L K m u.1.1 u.1.2 u.2 h) (fun k => (fdR (mm h) sg Y L p 1500 k, nI k)) q (fun m k hk => ?_) (fun m => ?_) F (by omega)
  · show c_X2_holder_L12 F 34 sg Y L K (m + 1) (fdR (mm h) sg Y L p 1500 k).1 (fdR (mm h) sg Y L p 1500 k).2 (nI k) h = c_X2_holder_L12 F 34 sg Y L K m (stR (mm h) sg Y L (p k) (fdR (mm h) sg Y L p 1500 k)).1 (stR (mm h) sg Y L (p k) (fdR (mm h) sg Y L p 1500 k)).2 (nI (k + 1)) h
    generalize fdR (mm h) sg Y L p 1500 k = t
    obtain ⟨g1, g2⟩ := h4 k hk
    obtain ⟨k1, k2, k3⟩ := h3 (p k) g1
    have b1 : okA h 38 20 (nI k) = true := okA_n (fT38 I) (fN38 I) (by omega) (by decide)
    have b2 : okA h 35 20 (nI (p k)) = true := okA_n (fT35 I) (fN35 I) (by omega) (by decide)
    have b3 : okA h 36 20 (nI (p k)) = true := okA_n (fT36 I) (fN36 I) (by omega) (by decide)
    have b4 : okA h 37 20 (nI (p k)) = true := okA_n (fT37 I) (fN37 I) (by omega) (by decide)
    rw [c_X2_holder_L12]
    simp only [fT34 I, fR34_0 I, fR34_1 I, fR34_2 I, fR34_3 I, if_true, h1, if_neg (nI_ge hk (show q < 2 ^ 31 by omega)), ltq, nnq, b1, b2, b3, b4, ix_n (show k < 2147483648 by omega), g2, ix_n (show p k < 2147483648 by omega), k1, k2, k3, nI_1]
    unfold stR
    rw [(mm_rg h).1, (mm_rg h).2.1, (mm_rg h).2.2.1]
    by_cases c1 : hI h 86 (p k) = sg
    · rw [if_pos c1]
      by_cases c2 : hI h 88 (p k) ≤ Y
      · rw [if_pos c2]
        by_cases c3 : t.2 ≤ hI h 88 (p k)
        · rw [if_pos c3, if_pos ⟨c1, c2, Or.inl c3⟩]
        · rw [if_neg c3]
          by_cases c4 : hI h 87 (p k) = t.1
          · rw [if_pos c4, if_pos ⟨c1, c2, Or.inr c4⟩]
          · rw [if_neg c4, if_neg (fun e => e.2.2.elim c3 c4)]
      · rw [if_neg c2, if_neg (fun e => c2 e.2.1)]
    · rw [if_neg c1, if_neg (fun e => c1 e.1)]
  · show c_X2_holder_L12 F 34 sg Y L K (m + 1) _ _ (nI q) h = _
    rw [c_X2_holder_L12, fT34 I, if_pos rfl, h1, if_pos (nI_le (Nat.le_refl q) (by omega))]
/-- the places of the sorted row that come ahead of (y, k) are the first c -/
def posR (yr : Nat → Nat) (p : Nat → Nat) (q y k c : Nat) : Prop := c ≤ q ∧ ∀ j, j < q → (j < c ↔ (yr (p j) < y ∨ (yr (p j) = y ∧ p j < k)))
theorem posR.next {yr p : Nat → Nat} {q y k c : Nat} (P : posR yr p q y k c) (hk : k < q) (hp : ∀ j, j < q → p j < q) (srt : ∀ i j, i < j → j < q → yr (p i) < yr (p j) ∨ (yr (p i) = yr (p j) ∧ p i < p j)) : if yr k = y then c < q ∧ p c = k ∧ posR yr p q y (k + 1) (c + 1) else posR yr p q y (k + 1) c := by
  by_cases e : yr k = y
  · rw [if_pos e]
    obtain ⟨j, hj, hjk⟩ := fb_onto (f := p) (n := q) hp (fun i j hij hj hne => by have := srt i j hij hj; rw [hne] at this; omega) hk
    have hjc : j = c := by
      have a1 : ¬ j < c := fun g => by
        have := (P.2 j hj).mp g
        rw [hjk] at this; omega
      by_cases a2 : c < j
      · have hcq : c < q := by omega
        have := srt c j a2 hj
        rw [hjk, e] at this
        have : c < c := (P.2 c hcq).mpr (by omega)
        omega
      · omega
    subst hjc
    refine ⟨hj, hjk, by omega, fun i hi => ?_⟩
    have := P.2 i hi
    by_cases a : i = j
    · subst a
      constructor
      · intro _; right; rw [hjk, e]; omega
      · intro _; omega
    · have h2 : ∀ i, i < q → i ≠ j → ¬ (yr (p i) = y ∧ p i = k) := fun i hi hne g => by
        rcases Nat.lt_or_ge i j with g2 | g2
        · have := srt i j g2 hj; rw [hjk, g.2] at this; omega
        · have := srt j i (by omega) hi; rw [hjk, g.2] at this; omega
      have h3 := h2 i hi a
      constructor
      · intro g
        have := this.mp (by omega)
        omega
      · intro g
        have : i < j := this.mpr (by omega)
        omega
  · rw [if_neg e]
    refine ⟨P.1, fun j hj => ?_⟩
    rw [P.2 j hj]
    constructor
    · intro g; omega
    · intro g
      rcases g with g | ⟨g1, g2⟩
      · exact Or.inl g
      · by_cases a : p j = k
        · rw [a] at g1; exact absurd g1 e
        · exact Or.inr ⟨g1, by omega⟩
theorem m_right_L43 (I : Ifx h) (hF : 5000 ≤ F) (sg L : Int32) {Y y : Nat} (hY : Y ≤ 1899) (hy : y ≤ Y) {q : Nat} {yr p : Nat → Nat} (hq : q ≤ 40) (h1 : hI h 46 49 = nI q) (hyr : ∀ k, k < q → 1500 ≤ yr k ∧ yr k ≤ 1899 ∧ hI h 88 k = nI (yr k)) (hp : ∀ j, j < q → p j < q) (srt : ∀ i j, i < j → j < q → yr (p i) < yr (p j) ∨ (yr (p i) = yr (p j) ∧ p i < p j)) (K : Int32 → Int32 → z_Hp → Option (Int32 × z_Hp)) {c : Nat} (P0 : posR yr p q y 0 c) : ∃ c', posR yr p q y q c' ∧ c_X10_right_L43 F 46 sg (nI Y) L (nI y) K F (fdR (mm h) sg (nI Y) L p 0 c).1 (fdR (mm h) sg (nI Y) L p 0 c).2 0 h = K (fdR (mm h) sg (nI Y) L p 0 c').1 (fdR (mm h) sg (nI Y) L p 0 c').2 h := by
  have key := lp (L := fun m (u : (Int32 × Int32) × Int32) => c_X10_right_L43 F 46 sg (nI Y) L (nI y) K m u.1.1 u.1.2 u.2 h) (K := fun u => K u.1.1 u.1.2 h) (N := q) (fun k u => ∃ c, posR yr p q y k c ∧ u = (fdR (mm h) sg (nI Y) L p 0 c, nI k)) (fun m k u hk hP => ?_) (fun m u hP => ?_) q 0 F ((fdR (mm h) sg (nI Y) L p 0 c), nI 0) (by omega) (by omega) ⟨c, P0, rfl⟩
  · obtain ⟨s', ⟨c', P', e'⟩, hs'⟩ := key
    rw [e'] at hs'
    exact ⟨c', P', hs'⟩
  · obtain ⟨c, P, rfl⟩ := hP
    have nx := P.next hk hp srt
    obtain ⟨y1, y2, y3⟩ := hyr k hk
    have b1 : okA h 86 20 (nI k) = true := okA_n (fT86 I) (fN86 I) (by omega) (by decide)
    have b2 : okA h 87 20 (nI k) = true := okA_n (fT87 I) (fN87 I) (by omega) (by decide)
    have b3 : okA h 88 20 (nI k) = true := okA_n (fT88 I) (fN88 I) (by omega) (by decide)
    have run : c_X10_right_L43 F 46 sg (nI Y) L (nI y) K (m + 1) (fdR (mm h) sg (nI Y) L p 0 c).1 (fdR (mm h) sg (nI Y) L p 0 c).2 (nI k) h = if yr k = y then c_X10_right_L43 F 46 sg (nI Y) L (nI y) K m (stR (mm h) sg (nI Y) L k (fdR (mm h) sg (nI Y) L p 0 c)).1 (stR (mm h) sg (nI Y) L k (fdR (mm h) sg (nI Y) L p 0 c)).2 (nI (k + 1)) h else c_X10_right_L43 F 46 sg (nI Y) L (nI y) K m (fdR (mm h) sg (nI Y) L p 0 c).1 (fdR (mm h) sg (nI Y) L p 0 c).2 (nI (k + 1)) h := by
      generalize fdR (mm h) sg (nI Y) L p 0 c = t
      rw [c_X10_right_L43]
      simp only [fT46 I, fR46_50 I, fR46_51 I, fR46_52 I, if_true, h1, if_neg (nI_ge hk (show q < 2 ^ 31 by omega)), ltq, nnq, b1, b2, b3, ix_n (show k < 2147483648 by omega), y3, nI_1]
      unfold stR
      rw [(mm_rg h).1, (mm_rg h).2.1, (mm_rg h).2.2.1, y3]
      by_cases c1 : hI h 86 k = sg
      · rw [if_pos c1]
        by_cases c2 : yr k = y
        · rw [if_pos (show nI (yr k) = nI y by rw [c2]), if_pos c2, c2]
          by_cases c3 : t.2 ≤ nI y
          · rw [if_pos c3, if_pos ⟨c1, nI_le hy (by omega), Or.inl c3⟩]
          · rw [if_neg c3]
            by_cases c4 : hI h 87 k = t.1
            · rw [if_pos c4, if_pos ⟨c1, nI_le hy (by omega), Or.inr c4⟩]
            · rw [if_neg c4, if_neg (fun e => e.2.2.elim c3 c4)]
        · rw [if_neg (show ¬ nI (yr k) = nI y by rw [nI_eq (by omega) (by omega)]; exact c2), if_neg c2]
      · rw [if_neg c1]
        by_cases c2 : yr k = y
        · rw [if_pos c2, if_neg (fun e => c1 e.1)]
        · rw [if_neg c2]
    by_cases e : yr k = y
    · rw [if_pos e] at nx run
      obtain ⟨n1, n2, n3⟩ := nx
      refine ⟨(fdR (mm h) sg (nI Y) L p 0 (c + 1), nI (k + 1)), ⟨c + 1, n3, rfl⟩, ?_⟩
      show c_X10_right_L43 F 46 sg (nI Y) L (nI y) K (m + 1) (fdR (mm h) sg (nI Y) L p 0 c).1 (fdR (mm h) sg (nI Y) L p 0 c).2 (nI k) h = _
      rw [run, show fdR (mm h) sg (nI Y) L p 0 (c + 1) = stR (mm h) sg (nI Y) L (p c) (fdR (mm h) sg (nI Y) L p 0 c) from rfl, n2]
    · rw [if_neg e] at nx run
      exact ⟨(fdR (mm h) sg (nI Y) L p 0 c, nI (k + 1)), ⟨c, nx, rfl⟩, run⟩
  · obtain ⟨c, P, rfl⟩ := hP
    show c_X10_right_L43 F 46 sg (nI Y) L (nI y) K (m + 1) _ _ (nI q) h = _
    rw [c_X10_right_L43, fT46 I, if_pos rfl, h1, if_pos (nI_le (Nat.le_refl q) (by omega))]
theorem m_right_L34 (I : Ifx h) (hF : 5000 ≤ F) (sg L : Int32) {Y : Nat} (hY : Y ≤ 1899) (hY0 : 1500 ≤ Y) {q : Nat} {yr p : Nat → Nat} (hq : q ≤ 40) (h1 : hI h 46 49 = nI q) (hyr : ∀ k, k < q → 1500 ≤ yr k ∧ yr k ≤ 1899 ∧ hI h 88 k = nI (yr k)) (hp : ∀ j, j < q → p j < q) (srt : ∀ i j, i < j → j < q → yr (p i) < yr (p j) ∨ (yr (p i) = yr (p j) ∧ p i < p j)) (K : Int32 → Int32 → z_Hp → Option (Int32 × z_Hp)) : ∃ c', posR yr p q (Y + 1) 0 c' ∧ c_X10_right_L34 F 46 sg (nI Y) L K F (-9) 0 1500 h = K (fdR (mm h) sg (nI Y) L p 0 c').1 (fdR (mm h) sg (nI Y) L p 0 c').2 h := by
  have key := lp (L := fun m (u : (Int32 × Int32) × Int32) => c_X10_right_L34 F 46 sg (nI Y) L K m u.1.1 u.1.2 u.2 h) (K := fun u => K u.1.1 u.1.2 h) (N := Y + 1 - 1500) (fun d u => ∃ c, posR yr p q (1500 + d) 0 c ∧ u = (fdR (mm h) sg (nI Y) L p 0 c, nI (1500 + d))) (fun m d u hd hP => ?_) (fun m u hP => ?_) (Y + 1 - 1500) 0 F ((fdR (mm h) sg (nI Y) L p 0 0), nI 1500) (by omega) (by omega) ⟨0, ⟨Nat.zero_le _, fun j hj => ?_⟩, rfl⟩
  · obtain ⟨s', ⟨c', P', e'⟩, hs'⟩ := key
    rw [e'] at hs'
    rw [show 1500 + (Y + 1 - 1500) = Y + 1 by omega] at P'
    exact ⟨c', P', hs'⟩
  · obtain ⟨c, P, rfl⟩ := hP
    obtain ⟨c2, P2, e2⟩ := m_right_L43 F I hF sg L hY (y := 1500 + d) (by omega) hq h1 hyr hp srt (fun x49 x50 h51 => (lt_ (nI (1500 + d) + 1) (fun x52 => (c_X10_right_L34 F 46 sg (nI Y) L K m x49 x50 x52 h51)))) P
    refine ⟨(fdR (mm h) sg (nI Y) L p 0 c2, nI (1500 + (d + 1))), ⟨c2, ⟨P2.1, fun j hj => ?_⟩, rfl⟩, ?_⟩
    · rw [P2.2 j hj]
      have := hp j hj
      omega
    · show c_X10_right_L34 F 46 sg (nI Y) L K (m + 1) _ _ (nI (1500 + d)) h = _
      rw [c_X10_right_L34, if_neg (nI_nlt (by omega) (by omega)), e2, lt_, nI_1]; rfl
  · obtain ⟨c, P, rfl⟩ := hP
    show c_X10_right_L34 F 46 sg (nI Y) L K (m + 1) _ _ (nI (1500 + (Y + 1 - 1500))) h = _
    rw [c_X10_right_L34, if_pos (nI_lt (by omega) (by omega))]
  · have := hyr (p j) (hp j hj)
    omega
theorem op_right (hF : 5000 ≤ F) (J : Inv h) : OkI h (c_X9_right F 5 x1 x2 h) (c_X10_right F 46 x1 x2) := by
  obtain ⟨ow, J⟩ := J
  have I := J.2.1
  obtain ⟨q, hq, h1, h2, h3, p, h4, h5⟩ := J.reg
  unfold c_X9_right c_X10_right
  by_cases c1 : 0 ≤ x1.toInt ∧ x1.toInt ≤ 9
  · by_cases c2 : 1500 ≤ x2.toInt ∧ x2.toInt ≤ 1899
    · obtain ⟨Y, hY, rfl⟩ := rng (x := x2) (n := 1899) ⟨by omega, by omega⟩
      have c2' := c2
      rw [toI_n (by omega)] at c2'
      have ye : ∀ k, ∃ v, k < q → 1500 ≤ v ∧ v ≤ 1899 ∧ hI h 88 k = nI v := fun k => by
        by_cases e : k < q
        · obtain ⟨v, g⟩ := (h3 k e).2.2.2.2.2; exact ⟨v, fun _ => g⟩
        · exact ⟨0, fun e2 => absurd e2 e⟩
      obtain ⟨yr, hyr⟩ : ∃ f : Nat → Nat, ∀ k, k < q → 1500 ≤ f k ∧ f k ≤ 1899 ∧ hI h 88 k = nI (f k) := ⟨fun k => Classical.choose (ye k), fun k => Classical.choose_spec (ye k)⟩
      have srt : ∀ j k, j < k → k < q → yr (p j) < yr (p k) ∨ (yr (p j) = yr (p k) ∧ p j < p k) := by
        intro j k hj hk
        have a1 := hyr (p j) (h4 j (by omega)).1
        have a2 := hyr (p k) (h4 k hk).1
        have := h5 j k hj hk
        rw [a1.2.2, a2.2.2, nI_ltI (by omega) (by omega), nI_eq (by omega) (by omega)] at this
        exact this
      obtain ⟨lv, hlv, hL⟩ := frc_rng J.rul (w := 1) (by decide) (mm h 46 6) (mm h 46 6)
      obtain ⟨c', P', e'⟩ := m_right_L34 F I hF x1 (now (mm h) 1) hY (by omega) hq h2 hyr (fun j hj => (h4 j hj).1) srt (fun x53 x54 h55 => (if x54 ≤ nI Y then (some ((-9), h55)) else (some (x53, h55))))
      -- the same but for the start
      have sim : ∀ c, c ≤ q → (fdR (mm h) x1 (nI Y) (now (mm h) 1) p 0 c = fdR (mm h) x1 (nI Y) (now (mm h) 1) p 1500 c) ∨ (fdR (mm h) x1 (nI Y) (now (mm h) 1) p 0 c = (-9, 0) ∧ fdR (mm h) x1 (nI Y) (now (mm h) 1) p 1500 c = (-9, 1500)) := by
        intro c
        induction c with
        | zero => intro _; exact Or.inr ⟨rfl, rfl⟩
        | succ c ih =>
          intro hc
          have s0 : ∀ U, fdR (mm h) x1 (nI Y) (now (mm h) 1) p U (c + 1) = stR (mm h) x1 (nI Y) (now (mm h) 1) (p c) (fdR (mm h) x1 (nI Y) (now (mm h) 1) p U c) := fun U => rfl
          rw [s0, s0]
          rcases ih (by omega) with e | ⟨e1, e2⟩
          · rw [e]; exact Or.inl rfl
          · rw [e1, e2]
            have yy := hyr (p c) (h4 c (by omega)).1
            unfold stR
            rw [(mm_rg h).2.2.1, yy.2.2]
            have t1 : (0 : Int32) ≤ nI (yr (p c)) := nge (by omega)
            have t2 : (1500 : Int32) ≤ nI (yr (p c)) := nI_le (a := 1500) (by omega) (by omega)
            by_cases g : mm h 86 (p c) = x1 ∧ nI (yr (p c)) ≤ nI Y
            · rw [if_pos ⟨g.1, g.2, Or.inl t1⟩, if_pos ⟨g.1, g.2, Or.inl t2⟩]; exact Or.inl rfl
            · rw [if_neg (fun e => g ⟨e.1, e.2.1⟩), if_neg (fun e => g ⟨e.1, e.2.1⟩)]; exact Or.inr ⟨rfl, rfl⟩
      have rest : ∀ d, c' + d ≤ q → fdR (mm h) x1 (nI Y) (now (mm h) 1) p 1500 (c' + d) = fdR (mm h) x1 (nI Y) (now (mm h) 1) p 1500 c' := by
        intro d
        induction d with
        | zero => intro _; rfl
        | succ d ih =>
          intro hd
          have s0 : fdR (mm h) x1 (nI Y) (now (mm h) 1) p 1500 (c' + d + 1) = stR (mm h) x1 (nI Y) (now (mm h) 1) (p (c' + d)) (fdR (mm h) x1 (nI Y) (now (mm h) 1) p 1500 (c' + d)) := rfl
          rw [show c' + (d + 1) = c' + d + 1 from rfl, s0, ih (by omega)]
          have yy := hyr (p (c' + d)) (h4 (c' + d) (by omega)).1
          have nn1 := P'.2 (c' + d) (by omega)
          unfold stR
          rw [(mm_rg h).2.2.1, yy.2.2, if_neg (fun e => by
            have := e.2.1
            rw [nI_leI (by omega) (by omega)] at this
            omega)]
      have hc' := P'.1
      have fin : fdR (mm h) x1 (nI Y) (now (mm h) 1) p 1500 q = fdR (mm h) x1 (nI Y) (now (mm h) 1) p 1500 c' := by
        have := rest (q - c') (by omega)
        rw [show c' + (q - c') = q by omega] at this
        exact this
      refine OkI.same (if (fdR (mm h) x1 (nI Y) (now (mm h) 1) p 1500 c').2 ≤ nI Y then -9 else (fdR (mm h) x1 (nI Y) (now (mm h) 1) p 1500 c').1) ⟨ow, J⟩ ?_ ?_
      · rw [x_isSong, bI_some, if_pos c1, ite10, x_isToldYear, bI_some, if_pos c2, ite10, fT5 I, if_pos rfl, fR5_10 I]
        dsimp only [lt_]
        rw [if_pos rfl, x_now F I J.sta J.rul J.tod hF 1 1 rfl (by decide), bI_some]
        dsimp only [nn]
        rw [fT34 I, if_pos rfl, c_X2_holder, x_hold F I J.reg hF x1 (nI Y) (now (mm h) 1) hq h1 (fun k hk => ⟨(h3 k hk).1, (h3 k hk).2.1, (h3 k hk).2.2.1⟩) h4, fin]
        by_cases z : (fdR (mm h) x1 (nI Y) (now (mm h) 1) p 1500 c').2 ≤ nI Y
        · rw [if_pos z, if_pos z, bI_some]
        · rw [if_neg z, if_neg z, bI_some]
      · rw [m_isSong, bI_some, if_pos c1, ite10, m_isYear, bI_some, if_pos c2, ite10, fT46 I, if_pos rfl, m_now F I J.rul hF 1 1 rfl (by decide), bI_some, e']
        rcases sim c' hc' with e | ⟨e1, e2⟩
        · rw [e]
          by_cases z : (fdR (mm h) x1 (nI Y) (now (mm h) 1) p 1500 c').2 ≤ nI Y
          · rw [if_pos z, if_pos z]
          · rw [if_neg z, if_neg z]
        · rw [e1, e2]
          dsimp only
          rw [if_pos (show (0 : Int32) ≤ nI Y from nge (by omega)), if_pos (show (1500 : Int32) ≤ nI Y from nI_le (a := 1500) (by omega) (by omega))]
    · exact OkI.same (-1) ⟨ow, J⟩ (by rw [x_isSong, bI_some, if_pos c1, ite10, x_isToldYear, bI_some, if_neg c2, ite00]) (by rw [m_isSong, bI_some, if_pos c1, ite10, m_isYear, bI_some, if_neg c2, ite00])
  · exact OkI.same (-1) ⟨ow, J⟩ (by rw [x_isSong, bI_some, if_neg c1, ite00]) (by rw [m_isSong, bI_some, if_neg c1, ite00])
end OpsK
