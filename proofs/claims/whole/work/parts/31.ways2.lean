section Ways2
variable {h : z_Hp} (F : Nat)
theorem p2_le {n : Nat} (hn : n ≤ 12) : 2 ^ n ≤ 4096 := Nat.pow_le_pow_right (by decide) hn
def XW (h : z_Hp) (mu : Nat → Nat) (n A : Nat) : Prop := n ≤ 12 ∧ Ifx h ∧ hI h 16 3 = nI n ∧ hR h 16 2 = some A ∧ hT h A = 20 ∧ 2 ^ n ≤ hN h A ∧ hN h A ≤ 100000 ∧ A ≠ 16 ∧ A ≠ 18 ∧ (∀ k, k < n → hI h 18 k = nI (mu k) ∧ mu k < 2147483648)
theorem XW.hn {mu : Nat → Nat} {n A : Nat} (w : XW h mu n A) : n ≤ 12 := w.1
theorem XW.fx {mu : Nat → Nat} {n A : Nat} (w : XW h mu n A) : Ifx h := w.2.1
theorem XW.sz {mu : Nat → Nat} {n A : Nat} (w : XW h mu n A) : hI h 16 3 = nI n := w.2.2.1
theorem XW.rA {mu : Nat → Nat} {n A : Nat} (w : XW h mu n A) : hR h 16 2 = some A := w.2.2.2.1
theorem XW.tA {mu : Nat → Nat} {n A : Nat} (w : XW h mu n A) : hT h A = 20 := w.2.2.2.2.1
theorem XW.nA {mu : Nat → Nat} {n A : Nat} (w : XW h mu n A) : 2 ^ n ≤ hN h A := w.2.2.2.2.2.1
theorem XW.mA {mu : Nat → Nat} {n A : Nat} (w : XW h mu n A) : hN h A ≤ 100000 := w.2.2.2.2.2.2.1
theorem XW.a16 {mu : Nat → Nat} {n A : Nat} (w : XW h mu n A) : A ≠ 16 := w.2.2.2.2.2.2.2.1
theorem XW.a18 {mu : Nat → Nat} {n A : Nat} (w : XW h mu n A) : A ≠ 18 := w.2.2.2.2.2.2.2.2.1
theorem XW.mus {mu : Nat → Nat} {n A : Nat} (w : XW h mu n A) : ∀ k, k < n → hI h 18 k = nI (mu k) ∧ mu k < 2147483648 := w.2.2.2.2.2.2.2.2.2
theorem XW.ch {mu : Nat → Nat} {n A : Nat} (w : XW h mu n A) {g : z_Hp} (c : ChI (fun a _ => a = A) h g) : XW g mu n A := ⟨w.hn, c.fx w.fx, (c.1 16 3 (fun e => w.a16 e.symm)).trans w.sz, (c.R 16 2).trans w.rA, (c.T A).trans w.tA, by rw [c.N]; exact w.nA, by rw [c.N]; exact w.mA, w.a16, w.a18, fun k hk => by rw [c.1 18 k (fun e => w.a18 e.symm)]; exact w.mus k hk⟩
theorem XW.ok {mu : Nat → Nat} {n A : Nat} (w : XW h mu n A) {k : Nat} (hk : k < 2 ^ n) : okA h A 20 (nI k) = true := okA_n w.tA rfl (Nat.lt_of_lt_of_le hk w.nA) w.mA
theorem x_goOn {mu : Nat → Nat} {n A S : Nat} (w : XW h mu n A) (hF : 5000 ≤ F) (hS : S < 2 ^ n) (ha : ∀ T, T < 2 ^ n → hI h A T = nI (psh mu n S 0 T)) : ∃ h', c_X1_goOnFrom F 16 (nI S) h = some h' ∧ ChI (fun a _ => a = A) h h' ∧ ∀ T, T < 2 ^ n → hI h' A T = nI (psh mu n S n T) := by
  have p2 := p2_le w.hn
  have hn := w.hn
  have key := lp (L := fun m (u : Int32 × z_Hp) => c_X1_goOnFrom_L9 F 16 (nI S) (nI (wy mu n S)) m u.1 u.2) (K := fun u => some u.2) (N := n) (fun k u => u.1 = nI k ∧ ChI (fun a _ => a = A) h u.2 ∧ ∀ T, T < 2 ^ n → hI u.2 A T = nI (psh mu n S k T)) (fun m k u hk hP => ?_) (fun m u hP => ?_) n 0 F (nI 0, h) (by omega) (by omega) ⟨rfl, ChI.refl _ _, ha⟩
  · obtain ⟨⟨u1, g⟩, ⟨e1, e2, e3⟩, e6⟩ := key
    refine ⟨g, ?_, e2, e3⟩
    unfold c_X1_goOnFrom
    rw [fT16 w.fx, if_pos rfl, w.rA]
    dsimp only [lt_, nn]
    rw [if_pos (w.ok hS), ix_n (by omega), ha S hS, psh_self mu hn (by omega)]
    exact e6
  · obtain ⟨u1, g⟩ := u
    obtain ⟨e1, e2, e3⟩ := hP
    dsimp only at e1 e2 e3 ⊢
    subst e1
    have wg := w.ch e2
    have Ig := wg.fx
    have b1 : okA g 18 20 (nI k) = true := okA_n (fT18 Ig) (fN18 Ig) (by omega) (by decide)
    have kp : (2 : Nat) ^ k < 2 ^ n := Nat.pow_lt_pow_right (by decide) hk
    have hT2 : S ||| 2 ^ k < 2 ^ n := Nat.or_lt_two_pow hS kp
    obtain ⟨m1, m2⟩ := wg.mus k hk
    rw [c_X1_goOnFrom_L9]
    simp only [fT16 Ig, fR16_1 Ig, wg.rA, if_true, wg.sz, if_neg (nI_ge hk (show n < 2 ^ 31 by omega)), ltq, nnq, shl_1 k (by omega), b1, wg.ok hT2, ix_n (show k < 2147483648 by omega), ix_n (show S ||| 2 ^ k < 2147483648 by omega), fa_or, m1, e3 _ hT2, nI_add, nI_1]
    by_cases c : S.testBit k = false
    · rw [if_pos ((fa_bit (by omega)).mpr c)]
      by_cases c2 : sub_ (mu k) S = true
      · rw [if_pos ((subq m2 (by omega)).mpr c2)]
        refine ⟨(nI (k + 1), sI g A (S ||| 2 ^ k) (nI (psh mu n S k (S ||| 2 ^ k) + wy mu n S))), ⟨rfl, e2.set rfl, fun T hT => ?_⟩, rfl⟩
        dsimp only
        rw [hI_sI, psh_step mu hk]
        obtain ⟨o1, o2⟩ := or_clr c
        by_cases e : T = S ||| 2 ^ k
        · subst e; rw [if_pos ⟨rfl, rfl⟩, o1, o2, c2, decide_eq_true rfl, if_pos (by rfl)]
        · rw [if_neg (fun y => e y.2), if_neg (fun y => by
            rw [Bool.and_eq_true, Bool.and_eq_true, decide_eq_true_iff] at y
            exact e (clr_or y.1.1 y.2).1), Nat.add_zero]
          exact e3 T hT
      · rw [if_neg (fun y => c2 ((subq m2 (by omega)).mp y))]
        refine ⟨(nI (k + 1), g), ⟨rfl, e2, fun T hT => ?_⟩, rfl⟩
        dsimp only
        rw [psh_step mu hk, if_neg (fun y => by
          rw [Bool.and_eq_true, Bool.and_eq_true] at y
          exact c2 y.1.2), Nat.add_zero]
        exact e3 T hT
    · rw [if_neg (fun y => c ((fa_bit (by omega)).mp y))]
      refine ⟨(nI (k + 1), g), ⟨rfl, e2, fun T hT => ?_⟩, rfl⟩
      dsimp only
      rw [psh_step mu hk, if_neg (fun y => by
        rw [Bool.and_eq_true, Bool.and_eq_true, decide_eq_true_iff] at y
        exact c (clr_or y.1.1 y.2).2), Nat.add_zero]
      exact e3 T hT
  · obtain ⟨u1, g⟩ := u
    obtain ⟨e1, e2, e3⟩ := hP
    dsimp only at e1 e2 e3 ⊢
    subst e1
    have wg := w.ch e2
    rw [c_X1_goOnFrom_L9, fT16 wg.fx, if_pos rfl, wg.sz, if_pos (nI_le (Nat.le_refl n) (by omega))]
theorem x_waysL {mu : Nat → Nat} {n A : Nat} (w : XW h mu n A) (hF : 5000 ≤ F) (ha : ∀ T, T < 2 ^ n → hI h A T = nI (psh mu n 0 0 T)) : ∃ h', c_X1_ways_L56 F 16 (nI (2 ^ n - 1)) F 0 h = some (nI (wy mu n (2 ^ n - 1)), h') ∧ ChI (fun a _ => a = A) h h' := by
  have p2 := p2_le w.hn
  have hn := w.hn
  have p0 : 0 < 2 ^ n := Nat.pow_pos (by decide)
  have key := lp (L := fun m (u : Int32 × z_Hp) => c_X1_ways_L56 F 16 (nI (2 ^ n - 1)) m u.1 u.2) (K := fun u => some (nI (wy mu n (2 ^ n - 1)), u.2)) (N := 2 ^ n - 1) (fun k u => u.1 = nI k ∧ ChI (fun a _ => a = A) h u.2 ∧ ∀ T, T < 2 ^ n → hI u.2 A T = nI (psh mu n k 0 T)) (fun m k u hk hP => ?_) (fun m u hP => ?_) (2 ^ n - 1) 0 F (nI 0, h) (by omega) (by omega) ⟨rfl, ChI.refl _ _, ha⟩
  · obtain ⟨⟨u1, g⟩, ⟨e1, e2, e3⟩, e6⟩ := key
    exact ⟨g, e6, e2⟩
  · obtain ⟨u1, g⟩ := u
    obtain ⟨e1, e2, e3⟩ := hP
    dsimp only at e1 e2 e3 ⊢
    subst e1
    have wg := w.ch e2
    have wl := wy_lt mu hn k
    rw [c_X1_ways_L56, if_neg (nI_ge hk (by omega)), fT16 wg.fx, if_pos rfl, wg.rA]
    dsimp only [lt_, nn]
    rw [if_pos (wg.ok (by omega)), ix_n (by omega), e3 k (by omega), psh_self mu hn (by omega), nI_1]
    by_cases c : wy mu n k = 0
    · rw [c, if_pos (show nI 0 = 0 from rfl)]
      refine ⟨(nI (k + 1), g), ⟨rfl, e2, fun T hT => ?_⟩, rfl⟩
      dsimp only
      rw [e3 T hT, psh_next]
      have z : ∀ j, j ≤ n → psh mu n k j T = psh mu n k 0 T := by
        intro j
        induction j with
        | zero => intro _; rfl
        | succ j ih =>
          intro hj
          rw [psh_step mu (by omega), c, ih (by omega)]
          split <;> rfl
      rw [z n (Nat.le_refl _)]
    · obtain ⟨g', f1, f2, f3⟩ := x_goOn F wg hF (show k < 2 ^ n by omega) e3
      rw [if_neg (nI_ne0 (by omega) (by omega)), if_pos rfl, f1, bV_some]
      exact ⟨(nI (k + 1), g'), ⟨rfl, (e2.trans f2).mono (fun a i e => by rcases e with e | e <;> exact e), fun T hT => by dsimp only; rw [f3 T hT, psh_next]⟩, rfl⟩
  · obtain ⟨u1, g⟩ := u
    obtain ⟨e1, e2, e3⟩ := hP
    dsimp only at e1 e2 e3 ⊢
    subst e1
    have wg := w.ch e2
    rw [c_X1_ways_L56, if_pos (nI_le (Nat.le_refl _) (by omega)), fT16 wg.fx, if_pos rfl, wg.rA]
    dsimp only [lt_, nn]
    rw [if_pos (wg.ok (by omega)), ix_n (by omega), e3 _ (by omega), psh_self mu hn (by omega)]
theorem x_waysZ {mu : Nat → Nat} {n A : Nat} (w : XW h mu n A) (hF : 5000 ≤ F) (K : z_Hp → Option (Int32 × z_Hp)) : c_X1_ways_L29 F 16 (nI (2 ^ n - 1)) K F 0 h = K (fl h A 0 (2 ^ n) (fun _ => 0)) := by
  have p2 := p2_le w.hn
  have p0 : 0 < 2 ^ n := Nat.pow_pos (by decide)
  have key := lpS (L := fun m (u : Int32 × z_Hp) => c_X1_ways_L29 F 16 (nI (2 ^ n - 1)) K m u.1 u.2) (R := K (fl h A 0 (2 ^ n) (fun _ => 0))) (fun k => (nI k, fl h A 0 k (fun _ => 0))) (2 ^ n) (fun m k hk => ?_) (fun m => ?_) F (by omega)
  · simp only [fl_0] at key
    exact key
  · show c_X1_ways_L29 F 16 (nI (2 ^ n - 1)) K (m + 1) (nI k) (fl h A 0 k (fun _ => 0)) = c_X1_ways_L29 F 16 (nI (2 ^ n - 1)) K m (nI (k + 1)) _
    rw [c_X1_ways_L29, if_neg (nI_nlt (by omega) (by omega)), hT_fl, fT16 w.fx, if_pos rfl, hR_fl, w.rA]
    dsimp only [lt_, nn]
    rw [if_pos (show okA (fl h A 0 k (fun _ => 0)) A 20 (nI k) = true from w.ok hk), ix_n (by omega), nI_1]
    have := fl_s h A 0 k (fun _ => 0)
    rw [Nat.zero_add] at this
    rw [this]
  · show c_X1_ways_L29 F 16 (nI (2 ^ n - 1)) K (m + 1) (nI (2 ^ n)) _ = _
    rw [c_X1_ways_L29, if_pos (nI_lt (by omega) (by omega))]
theorem x_waysB {mu : Nat → Nat} {n A : Nat} (w : XW h mu n A) (hF : 5000 ≤ F) : ∃ h', c_X1_ways_L29 F 16 (nI (2 ^ n - 1)) (fun h15 => (if hT h15 16 = 1 then (lt_ (hR h15 16 2) (fun o16 => (nn o16 (fun a17 => (if okA h15 a17 20 0 = true then (lt_ (sI h15 a17 (ix 0) 1) (fun h18 => (c_X1_ways_L56 F 16 (nI (2 ^ n - 1)) F 0 h18))) else none))))) else none)) F 0 h = some (nI (wy mu n (2 ^ n - 1)), h') ∧ ChI (fun a _ => a = A) h h' := by
  have p2 := p2_le w.hn
  have p0 : 0 < 2 ^ n := Nat.pow_pos (by decide)
  have c0 : ChI (fun a _ => a = A) h (fl h A 0 (2 ^ n) (fun _ => 0)) := ⟨fun a i e => by rw [hI_fl, if_neg (fun x => e x.1)], rfl⟩
  have c1 : ChI (fun a _ => a = A) h (sI (fl h A 0 (2 ^ n) (fun _ => 0)) A 0 1) := c0.set rfl
  have w0 := w.ch c0
  have w1 := w.ch c1
  obtain ⟨h', e1, e2⟩ := x_waysL F w1 hF (fun T hT => by
    rw [hI_sI, psh_0, hI_fl]
    by_cases e : T = 0
    · subst e; rw [if_pos ⟨rfl, rfl⟩, if_pos rfl]; rfl
    · rw [if_neg (fun y => e y.2), if_pos ⟨rfl, by omega, by omega⟩, if_neg e]; rfl)
  refine ⟨h', ?_, (c1.trans e2).mono (fun a i e => by rcases e with e | e <;> exact e)⟩
  rw [x_waysZ F w hF, hT_fl, fT16 w.fx, if_pos rfl, w0.rA]
  dsimp only [lt_, nn]
  rw [if_pos (show okA (fl h A 0 (2 ^ n) (fun _ => 0)) A 20 0 = true from w0.ok p0), show ix 0 = 0 from rfl]
  exact e1
/-- the ways that x counts, in its own cells -/
theorem x_ways {ow : Ow} {mu : Nat → Nat} {n : Nat} (o : OwOK ow) (I : Ifx h) (W : Rway ow h) (hn : n ≤ 12) (sz : hI h 16 3 = nI n) (hm : ∀ k, k < n → hI h 18 k = nI (mu k) ∧ mu k < 2147483648) (hF : 5000 ≤ F) : ∃ h' ow', c_X1_ways F 16 h = some (nI (wy mu n (2 ^ n - 1)), h') ∧ OwOK ow' ∧ OwX h ow ow' ∧ St [120] ow h h' ∧ Rway ow' h' ∧ hZ h' ≤ hZ h + 1 ∧ hS h' ≤ hS h + 4096 ∧ hI h' 16 3 = nI n := by
  have p2 := p2_le hn
  have p0 : 0 < 2 ^ n := Nat.pow_pos (by decide)
  obtain ⟨A, r1, r2, ⟨r3, r3'⟩, r4, r5⟩ := W
  have i94 := I.2.2.1
  have full : ((1 : Int32) <<< (nI n &&& 31)) - 1 = nI (2 ^ n - 1) := by rw [shl_1 n (by omega), show (1 : Int32) = nI 1 from rfl, nI_sub (by omega)]
  have hAZ : A < hZ h := Classical.byContradiction (fun e => by have := I.2.2.2 A (by omega); rw [r2] at this; exact absurd this (by decide))
  unfold c_X1_ways
  rw [fT16 I, if_pos rfl, sz, full]
  dsimp only [lt_]
  rw [if_pos rfl, r1]
  dsimp only [nn]
  rw [if_pos (okL_n r2 (by decide) (by decide))]
  by_cases c : 2 ^ n - 1 < hN h A
  · have w : XW h mu n A := ⟨hn, I, sz, r1, r2, by omega, by omega, by rcases r5 with e | e <;> omega, by rcases r5 with e | e <;> omega, hm⟩
    obtain ⟨h', e1, e2⟩ := x_waysB F w hF
    have s1 : St [120] ow h h' := (St.r I).ch e2 (fun a i e _ => by rw [e, r4 i]; decide)
    refine ⟨h', ow, ?_, o, OwX.refl _ _, s1, ⟨A, (e2.R 16 2).trans r1, (e2.T A).trans r2, by rw [e2.N]; exact ⟨r3, r3'⟩, r4, r5⟩, by rw [e2.Z.1]; omega, by rw [e2.Z.2]; omega, (e2.1 16 3 (fun e => w.a16 e.symm)).trans sz⟩
    rw [if_pos (nI_lt c (by omega))]
    exact e1
  · generalize hg : sR (nw h 20 (2 ^ n)) 16 2 (some (hZ h)) = g
    have Tg : ∀ a, hT g a = if a = hZ h then 20 else hT h a := fun a => by rw [← hg]; exact hT_nw _ _ _ _
    have Ng : ∀ a, hN g a = if a = hZ h then 2 ^ n else hN h a := fun a => by rw [← hg]; exact hN_nw _ _ _ _
    have s0 : St [120] ow h g := by
      rw [← hg]
      exact (St.r I).gN.gR (by rw [o 16 2 (by decide)]; decide)
    have Ig : Ifx g := I.st o s0 (by decide)
    have sg : hI g 16 3 = nI n := by rw [← hg]; show (if 16 = hZ h then (0 : Int32) else hI h 16 3) = _; rw [if_neg (by omega)]; exact sz
    have rg : hR g 16 2 = some (hZ h) := by rw [← hg, hR_sR, if_pos ⟨rfl, rfl⟩]
    have mg : ∀ k, hI g 18 k = hI h 18 k := fun k => by rw [← hg]; show (if 18 = hZ h then (0 : Int32) else hI h 18 k) = _; rw [if_neg (by omega)]
    have w : XW g mu n (hZ h) := ⟨hn, Ig, sg, rg, by rw [Tg, if_pos rfl], by rw [Ng, if_pos rfl]; exact Nat.le_refl _, by rw [Ng, if_pos rfl]; omega, by omega, by omega, fun k hk => by rw [mg]; exact hm k hk⟩
    obtain ⟨h', e1, e2⟩ := x_waysB F w hF
    have s1 : St [120] ow h h' := s0.ch e2 (fun a i e ha => by omega)
    have zg : hZ g = hZ h + 1 := by rw [← hg]; rfl
    have sgS : hS g = hS h + 2 ^ n := by rw [← hg]; rfl
    refine ⟨h', owN ow (hZ h) 120, ?_, o.new i94, OwX.new _ _ _, s1, ⟨hZ h, (e2.R 16 2).trans rg, by rw [e2.T, Tg, if_pos rfl], by rw [e2.N, Ng, if_pos rfl]; exact ⟨by omega, by omega⟩, fun i => if_pos (Nat.le_refl _), Or.inr i94⟩, by rw [e2.Z.1]; omega, by rw [e2.Z.2]; omega, (e2.1 16 3 (by omega)).trans sg⟩
    have x1 : nI (2 ^ n - 1) + 1 = nI (2 ^ n) := by rw [nI_1]; congr 1; omega
    rw [if_neg (nI_nlt (by omega) (by omega)), x1, if_pos (inb_n (by omega) (Nat.le_refl _))]
    dsimp only [nwo]
    rw [ix_n (by omega), hT_nw, if_neg (show ¬ (16 : Nat) = hZ h by omega), fT16 I, if_pos rfl, hg]
    exact e1
end Ways2
