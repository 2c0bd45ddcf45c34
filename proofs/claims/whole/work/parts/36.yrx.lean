section Yrx
variable {h : z_Hp} (F : Nat)
theorem wr_self (e : Nat → Nat → Bool) (k t : Nat) : wr e (k + 1) k t = wr e k k t := by
  show (wr e k k t || (wr e k k k && wr e k k t)) = _
  cases wr e k k t <;> simp
/-! who is no older, by all steps -/
theorem x_nL19 {ow : Ow} (o : OwOK ow) (I : Ifx h) {q s : Nat} (hq : q ≤ 20) (h1 : hI h 14 1 = nI q) (h3 : Sh ow h q) (hs : s < q) (z : hI h 23 s = nI 0) (K : z_Hp → Option z_Hp) {N : Nat} (hN : q < N) {P : z_Hp → Prop} (k : ∀ h', ChI (fun a i => a = 23 ∧ i = s) h h' → hI h' 23 s = nI (bset (ahd (mm h) s) q) → Wp (K h') P) : Wp (c_X8_findNoOlder_L19 F 20 14 (nI s) K N 0 h) P := by
  refine Wp.loop (L := fun m (u : Int32 × z_Hp) => c_X8_findNoOlder_L19 F 20 14 (nI s) K m u.1 u.2) (N := q) (fun t u => u.1 = nI t ∧ ChI (fun a i => a = 23 ∧ i = s) h u.2 ∧ hI u.2 23 s = nI (bset (ahd (mm h) s) t)) (fun m t u ht hP ih => ?_) (fun m u hP => ?_) N (nI 0, h) hN ⟨rfl, ChI.refl _ _, z⟩
  · obtain ⟨u1, g⟩ := u
    obtain ⟨e1, e2, e3⟩ := hP
    dsimp only at e1 e2 e3 ⊢
    subst e1
    have Ig := e2.fx I
    have sg : St [121] ow h g := e2.st I o (fun a i e => by rw [e.1]; exact ⟨by decide, List.mem_cons_self⟩)
    have Sg := h3.st I o sg (by decide) (by decide) (by decide)
    have mg : mm g = mm h := e2.mm (fun a i e => by rw [e.1]; show ¬ (50 ≤ 121 ∧ 121 < 100); decide)
    have f1 : hI g 14 1 = nI q := (e2.1 14 1 (by omega)).trans h1
    obtain ⟨a, ha, wa⟩ := Sg s hs
    obtain ⟨c, hc, wc⟩ := Sg t ht
    have b1 : okA g 23 20 (nI s) = true := okA_n (fT23 Ig) (fN23 Ig) (by omega) (by decide)
    have b4 : okA g 15 26 (nI s) = true := okA_n (fT15 Ig) (fN15 Ig) (by omega) (by decide)
    have b5 : okA g 15 26 (nI t) = true := okA_n (fT15 Ig) (fN15 Ig) (by omega) (by decide)
    rw [c_X8_findNoOlder_L19]
    simp only [fT20 Ig, fT14 Ig, fR14_0 Ig, fR20_2 Ig, if_true, f1, if_neg (nI_ge ht (show q < 2 ^ 31 by omega)), ltq, nnq, b1, b4, b5, ix_n (show s < 2147483648 by omega), ix_n (show t < 2147483648 by omega), ha, hc, wa.1, x_ahd F wa wc, mg, bIq, e3, nI_1, iteZ]
    have S : bset (ahd (mm h) s) (t + 1) = if ahd (mm h) s t = true then bset (ahd (mm h) s) t ||| 2 ^ t else bset (ahd (mm h) s) t := rfl
    refine Wp.cs (fun c => ?_) (fun c => ?_)
    · rw [shl_1 t (by omega), fa_or]
      exact ih (nI (t + 1), sI g 23 s (nI (bset (ahd (mm h) s) t ||| 2 ^ t))) ⟨rfl, e2.set ⟨rfl, rfl⟩, by rw [hI_sI, if_pos ⟨rfl, rfl⟩, S, if_pos c]⟩
    · exact ih (nI (t + 1), g) ⟨rfl, e2, by rw [S, if_neg c]; exact e3⟩
  · obtain ⟨u1, g⟩ := u
    obtain ⟨e1, e2, e3⟩ := hP
    dsimp only at e1 e2 e3 ⊢
    subst e1
    have Ig := e2.fx I
    have f1 : hI g 14 1 = nI q := (e2.1 14 1 (by omega)).trans h1
    rw [c_X8_findNoOlder_L19, fT14 Ig, if_pos rfl, f1, if_pos (nI_le (Nat.le_refl q) (by omega))]
    exact k g e2 e3
theorem x_nL2 {ow : Ow} (o : OwOK ow) (I : Ifx h) (hF : 5000 ≤ F) {q : Nat} (hq : q ≤ 20) (h1 : hI h 14 1 = nI q) (h3 : Sh ow h q) (K : z_Hp → Option z_Hp) {P : z_Hp → Prop} (k : ∀ h', ChI (fun a _ => a = 23) h h' → (∀ s, s < q → hI h' 23 s = nI (bset (ahd (mm h) s) q)) → Wp (K h') P) : Wp (c_X8_findNoOlder_L2 F 20 (some 14) K F 0 h) P := by
  refine Wp.loop (L := fun m (u : Int32 × z_Hp) => c_X8_findNoOlder_L2 F 20 (some 14) K m u.1 u.2) (N := q) (fun t u => u.1 = nI t ∧ ChI (fun a _ => a = 23) h u.2 ∧ ∀ s, s < t → hI u.2 23 s = nI (bset (ahd (mm h) s) q)) (fun m t u ht hP ih => ?_) (fun m u hP => ?_) F (nI 0, h) (by omega) ⟨rfl, ChI.refl _ _, fun s hs => by omega⟩
  · obtain ⟨u1, g⟩ := u
    obtain ⟨e1, e2, e3⟩ := hP
    dsimp only at e1 e2 e3 ⊢
    subst e1
    have Ig := e2.fx I
    have c0 : ChI (fun a _ => a = 23) h (sI g 23 t 0) := e2.set rfl
    have sg : St [121] ow h (sI g 23 t 0) := c0.st I o (fun a i e => by rw [e]; exact ⟨by decide, List.mem_cons_self⟩)
    have mg : mm (sI g 23 t 0) = mm h := c0.mm (fun a i e => by rw [e]; show ¬ (50 ≤ 121 ∧ 121 < 100); decide)
    have f1 : hI g 14 1 = nI q := (e2.1 14 1 (by omega)).trans h1
    have b1 : okA g 23 20 (nI t) = true := okA_n (fT23 Ig) (fN23 Ig) (by omega) (by decide)
    rw [c_X8_findNoOlder_L2, nI_1]
    refine Wp.rf rfl (Wp.ifT (fT14 Ig) (Wp.ifF (by rw [f1]; exact nI_ge ht (by omega)) (Wp.ifT (fT20 Ig) (Wp.ltO (Wp.rf (fR20_2 Ig) (Wp.ifT b1 (Wp.ltH ?_)))))))
    rw [ix_n (by omega)]
    refine x_nL19 F o (c0.fx I) hq ((c0.1 14 1 (by omega)).trans h1) (h3.st I o sg (by decide) (by decide) (by decide)) ht (by rw [hI_sI, if_pos ⟨rfl, rfl⟩]; rfl) _ (by omega) (fun g' d1 d2 => ?_)
    rw [mg] at d2
    refine ih (nI (t + 1), g') ⟨rfl, (c0.trans d1).mono (fun a i e => by rcases e with e | e; exact e; exact e.1), fun s hs => ?_⟩
    by_cases e : s = t
    · subst e; exact d2
    · show hI g' 23 s = _
      rw [d1.1 23 s (by omega), hI_sI, if_neg (by omega)]; exact e3 s (by omega)
  · obtain ⟨u1, g⟩ := u
    obtain ⟨e1, e2, e3⟩ := hP
    dsimp only at e1 e2 e3 ⊢
    subst e1
    have Ig := e2.fx I
    have f1 : hI g 14 1 = nI q := (e2.1 14 1 (by omega)).trans h1
    rw [c_X8_findNoOlder_L2]
    exact Wp.rf rfl (Wp.ifT (fT14 Ig) (Wp.ifT (by rw [f1]; exact nI_le (Nat.le_refl q) (by omega)) (k g e2 e3)))
theorem x_nL81 (I : Ifx h) (hF : 5000 ≤ F) {q b : Nat} (hq : q ≤ 20) (h1 : hI h 14 1 = nI q) (e : Nat → Nat → Bool) (hb : b < q) (hw : ∀ s, s < q → hI h 23 s = nI (bset (wr e b s) q)) (K : z_Hp → Option z_Hp) {P : z_Hp → Prop} (k : ∀ h', ChI (fun a _ => a = 23) h h' → (∀ s, s < q → hI h' 23 s = nI (bset (wr e (b + 1) s) q)) → Wp (K h') P) : Wp (c_X8_findNoOlder_L81 F 20 14 (nI b) K F 0 h) P := by
  refine Wp.loop (L := fun m (u : Int32 × z_Hp) => c_X8_findNoOlder_L81 F 20 14 (nI b) K m u.1 u.2) (N := q) (fun t u => u.1 = nI t ∧ ChI (fun a _ => a = 23) h u.2 ∧ ∀ s, s < q → hI u.2 23 s = nI (bset (wr e (if s < t then b + 1 else b) s) q)) (fun m t u ht hP ih => ?_) (fun m u hP => ?_) F (nI 0, h) (by omega) ⟨rfl, ChI.refl _ _, fun s hs => by rw [if_neg (by omega)]; exact hw s hs⟩
  · obtain ⟨u1, g⟩ := u
    obtain ⟨e1, e2, e3⟩ := hP
    dsimp only at e1 e2 e3 ⊢
    subst e1
    have Ig := e2.fx I
    have f1 : hI g 14 1 = nI q := (e2.1 14 1 (by omega)).trans h1
    have b1 : okA g 23 20 (nI t) = true := okA_n (fT23 Ig) (fN23 Ig) (by omega) (by decide)
    have b2 : okA g 23 20 (nI b) = true := okA_n (fT23 Ig) (fN23 Ig) (by omega) (by decide)
    have et : hI g 23 t = nI (bset (wr e b t) q) := by rw [e3 t ht, if_neg (by omega)]
    have eb : hI g 23 b = nI (bset (wr e b b) q) := by
      rw [e3 b hb]
      by_cases c : b < t
      · rw [if_pos c]; congr 1; exact bset_cong (fun i _ => wr_self e b i)
      · rw [if_neg c]
    have lt := bset20 (wr e b t) hq
    rw [c_X8_findNoOlder_L81, nI_1]
    refine Wp.ifT (fT14 Ig) (Wp.ifF (by rw [f1]; exact nI_ge ht (by omega)) (Wp.ifT (fT20 Ig) (Wp.ltO (Wp.rf (fR20_2 Ig) (Wp.ifT b1 ?_)))))
    rw [ix_n (show t < 2147483648 by omega), ix_n (show b < 2147483648 by omega), et]
    refine Wp.cIe (x_has F (by omega) (by omega)) (Wp.lj (fun j hj => ?_))
    have go : ∀ g', ChI (fun a _ => a = 23) h g' → (∀ s, s < q → hI g' 23 s = nI (bset (wr e (if s < t + 1 then b + 1 else b) s) q)) → Wp (j g') P := fun g' d1 d2 => by
      rw [hj]
      exact ih (nI (t + 1), g') ⟨rfl, d1, d2⟩
    have tb : (bset (wr e b t) q).testBit b = wr e b t b := by rw [bset_tb, decide_eq_true hb]; rfl
    have other : ∀ s, s < q → s ≠ t → nI (bset (wr e (if s < t then b + 1 else b) s) q) = nI (bset (wr e (if s < t + 1 then b + 1 else b) s) q) := fun s hs n => by
      by_cases c : s < t
      · rw [if_pos c, if_pos (by omega)]
      · rw [if_neg c, if_neg (by omega)]
    by_cases c : wr e b t b = true
    · refine Wp.ifF (by rw [tb, if_pos c]; exact one0) (Wp.ifT (fT20 Ig) (Wp.ltO (Wp.rf (fR20_2 Ig) (Wp.ifT b1 (Wp.ifT (fT20 Ig) (Wp.ltO (Wp.rf (fR20_2 Ig) (Wp.ifT b2 (Wp.ifT b1 (Wp.ltH ?_))))))))))
      rw [et, eb, fa_or, bset_or]
      refine go _ (e2.set rfl) (fun s hs => ?_)
      rw [hI_sI]
      by_cases es : s = t
      · subst es
        rw [if_pos ⟨rfl, rfl⟩, if_pos (by omega)]
        congr 1
        refine bset_cong (fun i _ => ?_)
        show _ = (wr e b s i || (wr e b s b && wr e b b i))
        rw [c, Bool.true_and]
      · rw [if_neg (fun y => es y.2), e3 s hs, other s hs es]
    · refine Wp.ifT (by rw [tb, if_neg c]) (go _ e2 (fun s hs => ?_))
      rw [e3 s hs]
      by_cases es : s = t
      · subst es
        rw [if_neg (by omega), if_pos (by omega)]
        congr 1
        refine bset_cong (fun i _ => ?_)
        show _ = (wr e b s i || (wr e b s b && wr e b b i))
        have cf : wr e b s b = false := by cases x : wr e b s b with | true => exact absurd x c | false => rfl
        rw [cf, Bool.false_and, Bool.or_false]
      · exact other s hs es
  · obtain ⟨u1, g⟩ := u
    obtain ⟨e1, e2, e3⟩ := hP
    dsimp only at e1 e2 e3 ⊢
    subst e1
    have Ig := e2.fx I
    have f1 : hI g 14 1 = nI q := (e2.1 14 1 (by omega)).trans h1
    rw [c_X8_findNoOlder_L81]
    refine Wp.ifT (fT14 Ig) (Wp.ifT (by rw [f1]; exact nI_le (Nat.le_refl q) (by omega)) (k g e2 (fun s hs => ?_)))
    rw [e3 s hs, if_pos hs]
theorem x_no {ow : Ow} (o : OwOK ow) (I : Ifx h) (hF : 5000 ≤ F) {q : Nat} (hq : q ≤ 20) (h1 : hI h 14 1 = nI q) (h3 : Sh ow h q) : Wp (c_X8_findNoOlder F 20 (some 14) h) (fun h' => ChI (fun a _ => a = 23) h h' ∧ ∀ s, s < q → hI h' 23 s = nI (bset (wr (ahd (mm h)) q s) q)) := by
  unfold c_X8_findNoOlder
  refine x_nL2 F o I hF hq h1 h3 _ (fun h' d1 d2 => ?_)
  refine Wp.loop (L := fun m (u : Int32 × z_Hp) => c_X8_findNoOlder_L71 F 20 (some 14) m u.1 u.2) (N := q) (fun t u => u.1 = nI t ∧ ChI (fun a _ => a = 23) h u.2 ∧ ∀ s, s < q → hI u.2 23 s = nI (bset (wr (ahd (mm h)) t s) q)) (fun m t u ht hP ih => ?_) (fun m u hP => ?_) F (nI 0, h') (by omega) ⟨rfl, d1, d2⟩
  · obtain ⟨u1, g⟩ := u
    obtain ⟨e1, e2, e3⟩ := hP
    dsimp only at e1 e2 e3 ⊢
    subst e1
    have Ig := e2.fx I
    have f1 : hI g 14 1 = nI q := (e2.1 14 1 (by omega)).trans h1
    rw [c_X8_findNoOlder_L71, nI_1]
    refine Wp.rf rfl (Wp.ifT (fT14 Ig) (Wp.ifF (by rw [f1]; exact nI_ge ht (by omega)) ?_))
    refine x_nL81 F Ig hF hq f1 (ahd (mm h)) ht e3 _ (fun g' k1 k2 => ?_)
    exact ih (nI (t + 1), g') ⟨rfl, (e2.trans k1).mono (fun a i e => by rcases e with e | e <;> exact e), k2⟩
  · obtain ⟨u1, g⟩ := u
    obtain ⟨e1, e2, e3⟩ := hP
    dsimp only at e1 e2 e3 ⊢
    subst e1
    have Ig := e2.fx I
    have f1 : hI g 14 1 = nI q := (e2.1 14 1 (by omega)).trans h1
    rw [c_X8_findNoOlder_L71]
    exact Wp.rf rfl (Wp.ifT (fT14 Ig) (Wp.ifT (by rw [f1]; exact nI_le (Nat.le_refl q) (by omega)) (Wp.ret ⟨e2, e3⟩)))
/-! the years of one alone -/
theorem y_c1 {A v : Nat} (hA : A ≤ 1999) (hv : v ≤ 1999) : (if nI A < nI v then nI v else nI A) = nI (max A v) := nI_max (by omega) (by omega)
theorem y_c2 {B v : Nat} (hB : B ≤ 1999) (hv : v ≤ 1999) : (if nI v < nI (1999 - B) then nI v else nI (1999 - B)) = nI (1999 - max B (1999 - v)) := by
  rw [nI_min (by omega) (by omega)]
  congr 1
  by_cases c : 1999 - B ≤ v
  · rw [Nat.min_eq_left c, Nat.max_eq_left (by omega)]
  · rw [Nat.min_eq_right (by omega), Nat.max_eq_right (by omega)]; omega
/-- what is known of a sheet's printer and span -/
theorem shy {ow : Ow} {s a : Nat} (w : shAt ow h s a) (R : Rprn h) : ((mm h 66 s = -9 ∨ mm h 63 (ix (mm h 66 s)) = -9) ∨ ∃ p fa tb, p < 8 ∧ hI h 66 s = nI p ∧ 1500 ≤ fa ∧ fa ≤ tb ∧ tb ≤ 1899 ∧ hI h 63 p = nI fa ∧ hI h 64 p = nI tb) ∧ yrs (hI h 72 s) (hI h 73 s) := by
  obtain ⟨a1, a2, a3, b0, b1, b2, b3, b5, b6, b7, b8, b9, b10, _, r1, r2, r3, r4, r5, r6, r7, r8, r9⟩ := w
  refine ⟨?_, r8⟩
  rcases r2 with e | ⟨p, hp, e⟩
  · exact Or.inl (Or.inl e)
  · rcases (R p hp).2.2 with ⟨e1, e2⟩ | ⟨fa, tb, l1, l2, l3, e1, e2⟩
    · left; right
      show hI h 63 (ix (hI h 66 s)) = -9
      rw [e, ix_n (by omega)]; exact e1
    · exact Or.inr ⟨p, fa, tb, hp, e, l1, l2, l3, e1, e2⟩
theorem yLU {ow : Ow} {s a sl : Nat} (w : shAt ow h s a) (R : Rprn h) : (∃ A, A ≤ 1899 ∧ yL (mm h) s = A) ∧ yU (mm h) sl s ≤ 1999 := by
  obtain ⟨c, _⟩ := shy w R
  unfold yL yU
  rcases c with c | ⟨p, fa, tb, hp, e, l1, l2, l3, e1, e2⟩
  · rw [if_pos c, if_pos c]; exact ⟨⟨1500, by decide, rfl⟩, by omega⟩
  · have n : ¬ (mm h 66 s = -9 ∨ mm h 63 (ix (mm h 66 s)) = -9) := by
      intro x
      have e66 : mm h 66 s = nI p := e
      rw [e66, ix_n (by omega)] at x
      rcases x with x | x
      · exact enc9 (by omega) x
      · have : mm h 63 p = nI fa := e1
        rw [this] at x; exact enc9 (by omega) x
    rw [if_neg n, if_neg n]
    refine ⟨⟨fa, by omega, ?_⟩, by omega⟩
    have e66 : mm h 66 s = nI p := e
    have e63 : mm h 63 p = nI fa := e1
    rw [e66, ix_n (by omega), e63, ix_n (by omega)]
theorem y01 {ow : Ow} {s a sl : Nat} (w : shAt ow h s a) (R : Rprn h) (dr : Nat → Bool) : y0 (mm h) dr s ≤ 1999 ∧ y1 (mm h) sl dr s ≤ 1999 := by
  obtain ⟨⟨A, hA, eA⟩, hB⟩ := yLU (sl := sl) w R
  obtain ⟨_, c⟩ := shy w R
  unfold y0 y1
  rw [eA]
  rcases c with ⟨c1, c2⟩ | ⟨fa, tb, l1, l2, l3, c1, c2⟩
  · have : sp (mm h) s = false := by
      unfold sp
      have : mm h 72 s = -9 := c1
      rw [this]; decide
    rw [this, Bool.false_and, if_neg (by decide), if_neg (by decide)]
    exact ⟨by omega, hB⟩
  · have e72 : mm h 72 s = nI fa := c1
    have e73 : mm h 73 s = nI tb := c2
    rw [e72, e73, ix_n (by omega), ix_n (by omega)]
    refine ⟨?_, ?_⟩
    · split
      · exact Nat.max_le.mpr ⟨by omega, by omega⟩
      · omega
    · split
      · exact Nat.max_le.mpr ⟨hB, by omega⟩
      · exact hB
def Ay (s a i : Nat) : Prop := (a = 26 ∨ a = 27) ∧ i = s
theorem x_bA {ow : Ow} (I : Ifx h) (R : Rprn h) {s a sl : Nat} (hs : s < 20) (w : shAt ow h s a) (hsl : sl ≤ 999) {x4 : Int32} (hx : x4 = 0 ∨ x4 = 1) : Wp (c_X8_boundAlone F 20 (nI s) (some a) (nI sl) x4 h) (fun h' => ChI (Ay s) h h' ∧ hI h' 26 s = nI (y0 (mm h) (fun _ => decide (x4 = 0)) s) ∧ hI h' 27 s = nI (1999 - y1 (mm h) sl (fun _ => decide (x4 = 0)) s)) := by
  obtain ⟨cP, cS⟩ := shy w R
  obtain ⟨⟨AL, hAL, eAL⟩, hBU⟩ := yLU (sl := sl) w R
  have a94 : 94 ≤ a := w.2.2.1
  have fa : ∀ g, ChI (Ay s) h g → ∀ i, hI g a i = hI h a i := fun g d i => d.1 a i (by unfold Ay; omega)
  have c10 : ChI (Ay s) h (sI (sI h 26 s 1500) 27 s 1999) := ((ChI.refl _ _).set ⟨Or.inl rfl, rfl⟩).set ⟨Or.inr rfl, rfl⟩
  unfold c_X8_boundAlone
  rw [ix_n (show s < 2147483648 by omega)]
  refine Wp.ifT (fT20 I) (Wp.ltO (Wp.rf (fR20_5 I) (Wp.ifT (okA_n (fT26 I) (fN26 I) hs (by decide)) (Wp.ltH (Wp.ifT (fT20 I) (Wp.ltO (Wp.rf (fR20_6 I) (Wp.ifT (okA_n (fT27 I) (fN27 I) hs (by decide)) (Wp.ltH (Wp.rf rfl (Wp.ifT w.1 (Wp.ltI (Wp.lj (fun j hj => ?_))))))))))))))
  have e1 : hI (sI (sI h 26 s 1500) 27 s 1999) a 1 = hI h 66 s := (fa _ c10 1).trans w.2.2.2.2.1
  rw [e1]
  have jf : ∀ g A B, ChI (Ay s) h g → hI g 26 s = nI A → hI g 27 s = nI (1999 - B) → A ≤ 1999 → B ≤ 1999 → A = yL (mm h) s → B = yU (mm h) sl s → Wp (j g) (fun h' => ChI (Ay s) h h' ∧ hI h' 26 s = nI (y0 (mm h) (fun _ => decide (x4 = 0)) s) ∧ hI h' 27 s = nI (1999 - y1 (mm h) sl (fun _ => decide (x4 = 0)) s)) := by
    intro g A B d e26 e27 hA hB eA eB
    have Ig := d.fx I
    have wg : hT g a = 5 := (d.T a).trans w.1
    have e9 : hI g a 9 = hI h 72 s := (fa g d 9).trans w.2.2.2.2.2.2.2.2.2.2.2.1
    have e10 : hI g a 10 = hI h 73 s := (fa g d 10).trans w.2.2.2.2.2.2.2.2.2.2.2.2.1
    have D0 : sp (mm h) s = decide (¬ hI h 72 s = -9) := rfl
    unfold y0 y1
    rw [← eA, ← eB, hj]
    dsimp only
    refine Wp.cs (fun c => ?_) (fun c => ?_)
    · rw [decide_eq_true c, Bool.not_true, Bool.and_false, if_neg (by decide), if_neg (by decide)]
      exact Wp.ret ⟨d, e26, e27⟩
    · rw [decide_eq_false c, Bool.not_false, Bool.and_true]
      have hsp : c_X5_hasSpan F a g = some (if hI h 72 s = -9 then 0 else 1, g) := by
        unfold c_X5_hasSpan
        rw [wg, if_pos rfl, e9]
        split <;> rfl
      refine Wp.ifT wg (Wp.cIe hsp ?_)
      rcases cS with ⟨c1, c2⟩ | ⟨fa', tb, l1, l2, l3, c1, c2⟩
      · refine Wp.ifT (by rw [if_pos c1]) ?_
        rw [D0, decide_eq_false (fun y => y c1), if_neg (by decide), if_neg (by decide)]
        exact Wp.ret ⟨d, e26, e27⟩
      · have n9 : ¬ hI h 72 s = -9 := by rw [c1]; exact enc9 (by omega)
        have e72 : mm h 72 s = nI fa' := c1
        have e73 : mm h 73 s = nI tb := c2
        refine Wp.ifF (by rw [if_neg n9]; exact one0) (Wp.ifT (fT20 Ig) (Wp.ltO (Wp.ifT (fT20 Ig) (Wp.ltO (Wp.rf (fR20_5 Ig) (Wp.ifT (okA_n (fT26 Ig) (fN26 Ig) hs (by decide)) (Wp.ifT wg (Wp.cIe (x_max F _ _ _) (Wp.rf (fR20_5 Ig) (Wp.ifT (okA_n (fT26 Ig) (fN26 Ig) hs (by decide)) (Wp.ltH (Wp.ifT (fT20 Ig) (Wp.ltO (Wp.ifT (fT20 Ig) (Wp.ltO (Wp.rf (fR20_6 Ig) (Wp.ifT (okA_n (fT27 Ig) (fN27 Ig) hs (by decide)) (Wp.ifT wg (Wp.cIe (x_min F _ _) (Wp.rf (fR20_6 Ig) (Wp.ifT (okA_n (fT27 Ig) (fN27 Ig) hs (by decide)) (Wp.ltH (Wp.ret ?_)))))))))))))))))))))))
        rw [D0, decide_eq_true n9, if_pos rfl, if_pos rfl, e72, e73, ix_n (by omega), ix_n (by omega)]
        refine ⟨(d.set ⟨Or.inl rfl, rfl⟩).set ⟨Or.inr rfl, rfl⟩, ?_, ?_⟩
        · rw [hI_sI, if_neg (by omega), hI_sI, if_pos ⟨rfl, rfl⟩, e26, e9, c1, y_c1 hA (by omega)]
        · have v27 : ∀ X, hI (sI g 26 s X) 27 s = nI (1999 - B) := fun X => by rw [hI_sI, if_neg (by omega)]; exact e27
          have va : ∀ X, hI (sI g 26 s X) a 10 = nI tb := fun X => by rw [hI_sI, if_neg (by omega), e10, c2]
          rw [hI_sI, if_pos ⟨rfl, rfl⟩, v27, va, y_c2 hB (by omega)]
  rcases cP with c | ⟨p, fa', tb, hp, e, l1, l2, l3, p1, p2⟩
  · have q1 : yL (mm h) s = 1500 := if_pos c
    have q2 : yU (mm h) sl s = 0 := if_pos c
    have fin := jf _ 1500 0 c10 (by rw [hI_sI, if_neg (by omega), hI_sI, if_pos ⟨rfl, rfl⟩]; rfl) (by rw [hI_sI, if_pos ⟨rfl, rfl⟩]; rfl) (by decide) (by decide) q1.symm q2.symm
    by_cases c9 : hI h 66 s = -9
    · exact Wp.ifT c9 fin
    · have c' : mm h 63 (ix (mm h 66 s)) = -9 := c.resolve_left c9
      have r2 := w.2.2.2.2.2.2.2.2.2.2.2.2.2.2.2.1
      obtain ⟨p, hp, e⟩ := r2.resolve_left c9
      rw [e]
      have e21 : hI h 21 p = -9 := by
        rw [(R p hp).1]
        have : mm h 66 s = nI p := e
        rw [this, ix_n (by omega)] at c'
        exact c'
      rw [ix_n (show p < 2147483648 by omega)]
      refine Wp.ifF (enc9 (by omega)) (Wp.ifT (fT20 I) (Wp.ltO (Wp.rf (fR20_0 I) (Wp.ifT (okA_n (fT21 I) (fN21 I) hp (by decide)) (Wp.ifT ?_ fin)))))
      rw [hI_sI, if_neg (by omega), hI_sI, if_neg (by omega)]; exact e21
  · have e66 : mm h 66 s = nI p := e
    have e63 : mm h 63 p = nI fa' := p1
    have e64 : mm h 64 p = nI tb := p2
    have n : ¬ (mm h 66 s = -9 ∨ mm h 63 (ix (mm h 66 s)) = -9) := by
      intro x
      rw [e66, ix_n (by omega), e63] at x
      rcases x with x | x
      · exact enc9 (by omega) x
      · exact enc9 (by omega) x
    have q1 : yL (mm h) s = fa' := by unfold yL; rw [if_neg n, e66, ix_n (by omega), e63, ix_n (by omega)]
    have q2 : yU (mm h) sl s = 1999 - (tb + sl) := by unfold yU; rw [if_neg n, e66, ix_n (by omega), e64, ix_n (by omega)]
    have e21 : hI h 21 p = nI fa' := (R p hp).1.trans p1
    have e22 : hI h 22 p = nI tb := (R p hp).2.1.trans p2
    rw [e, ix_n (show p < 2147483648 by omega)]
    have f21 : hI (sI (sI h 26 s 1500) 27 s 1999) 21 p = nI fa' := by rw [hI_sI, if_neg (by omega), hI_sI, if_neg (by omega)]; exact e21
    refine Wp.ifF (enc9 (by omega)) (Wp.ifT (fT20 I) (Wp.ltO (Wp.rf (fR20_0 I) (Wp.ifT (okA_n (fT21 I) (fN21 I) hp (by decide)) (Wp.ifF (by rw [f21]; exact enc9 (by omega)) (Wp.ifT (fT20 I) (Wp.ltO (Wp.ifT (fT20 I) (Wp.ltO (Wp.rf (fR20_0 I) (Wp.ifT (okA_n (fT21 I) (fN21 I) hp (by decide)) (Wp.rf (fR20_5 I) (Wp.ifT (okA_n (fT26 I) (fN26 I) hs (by decide)) (Wp.ltH (Wp.ifT (fT20 I) (Wp.ltO (Wp.ifT (fT20 I) (Wp.ltO (Wp.rf (fR20_1 I) (Wp.ifT (okA_n (fT22 I) (fN22 I) hp (by decide)) (Wp.cIe (x_min F _ _) (Wp.rf (fR20_6 I) (Wp.ifT (okA_n (fT27 I) (fN27 I) hs (by decide)) (Wp.ltH ?_))))))))))))))))))))))))
    refine jf _ fa' (1999 - (tb + sl)) ((c10.set ⟨Or.inl rfl, rfl⟩).set ⟨Or.inr rfl, rfl⟩) ?_ ?_ (by omega) (by omega) q1.symm q2.symm
    · rw [hI_sI, if_neg (by omega), hI_sI, if_pos ⟨rfl, rfl⟩]; exact f21
    · rw [hI_sI, if_pos ⟨rfl, rfl⟩]
      have f22 : hI (sI (sI (sI h 26 s 1500) 27 s 1999) 26 s (hI (sI (sI h 26 s 1500) 27 s 1999) 21 p)) 22 p = nI tb := by rw [hI_sI, if_neg (by omega), hI_sI, if_neg (by omega), hI_sI, if_neg (by omega)]; exact e22
      rw [f22, nI_add, show (1999 : Int32) = nI 1999 from rfl, nI_min (by omega) (by omega)]
      congr 1
      by_cases c : 1999 ≤ tb + sl
      · rw [Nat.min_eq_left c]; omega
      · rw [Nat.min_eq_right (by omega)]; omega
end Yrx
