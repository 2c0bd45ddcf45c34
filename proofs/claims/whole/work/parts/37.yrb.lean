section Yrb
variable {h : z_Hp} (F : Nat)
/-- years by numbers: the least at A, the greatest at B as what it wants to 1999 -/
def Yv (A B : Nat) (g : z_Hp) (q : Nat) (f u : Nat → Nat) : Prop := ∀ v, v < q → hI g A v = nI (f v) ∧ hI g B v = nI (1999 - u v) ∧ f v ≤ 1999 ∧ u v ≤ 1999
theorem rl_f {c : Bool} (hc : ¬ c = true) (s d : Nat) (f : Nat → Nat) : rl c s d f = f := by
  funext v
  unfold rl
  rw [if_neg (fun e => hc e.1)]
theorem y_c3 {a b : Nat} (ha : a ≤ 1999) (hb : b ≤ 1999) : (if nI (1999 - b) < nI (1999 - a) then nI (1999 - b) else nI (1999 - a)) = nI (1999 - max a b) := by
  rw [nI_min (by omega) (by omega)]
  congr 1
  by_cases c : a ≤ b
  · rw [Nat.max_eq_right c, Nat.min_eq_right (by omega)]
  · rw [Nat.max_eq_left (by omega), Nat.min_eq_left (by omega)]
theorem y_c4 {a b : Nat} (ha : a ≤ 1999) (hb : b ≤ 1999) : (if nI a ≤ nI b then nI b else nI a) = nI (max b a) := by
  by_cases c : a ≤ b
  · rw [if_pos (nI_le c (by omega)), Nat.max_eq_left c]
  · rw [if_neg (nI_ge (by omega) (by omega)), Nat.max_eq_right (by omega)]
theorem y_c5 {a b : Nat} (ha : a ≤ 1999) (hb : b ≤ 1999) : (if nI (1999 - a) ≤ nI (1999 - b) then nI (1999 - a) else nI (1999 - b)) = nI (1999 - max a b) := by
  by_cases c : b ≤ a
  · rw [if_pos (nI_le (by omega) (by omega)), Nat.max_eq_left c]
  · rw [if_neg (nI_ge (by omega) (by omega)), Nat.max_eq_right (by omega)]
theorem Yv.step {A B : Nat} {g : z_Hp} {q : Nat} {f u : Nat → Nat} (Y : Yv A B g q f u) (n : A ≠ B) {s t : Nat} (hs : s < q) (ht : t < q) {c : Bool} (hc : c = true) : Yv A B (sI (sI g A t (nI (max (f t) (f s)))) B s (nI (1999 - max (u s) (u t)))) q (rl c s t f) (rl c t s u) := by
  intro v hv
  obtain ⟨e1, e2, e3, e4⟩ := Y v hv
  have ys := Y s hs
  have yt := Y t ht
  have m1 : max (f t) (f s) ≤ 1999 := Nat.max_le.mpr ⟨yt.2.2.1, ys.2.2.1⟩
  have m2 : max (u s) (u t) ≤ 1999 := Nat.max_le.mpr ⟨ys.2.2.2, yt.2.2.2⟩
  unfold rl
  rw [hI_sI, if_neg (fun e => n e.1), hI_sI, hI_sI, hI_sI]
  refine ⟨?_, ?_, ?_, ?_⟩
  · by_cases x : v = t
    · rw [if_pos ⟨rfl, x⟩, if_pos ⟨hc, x⟩]
    · rw [if_neg (fun e => x e.2), if_neg (fun e => x e.2)]; exact e1
  · by_cases x : v = s
    · rw [if_pos ⟨rfl, x⟩, if_pos ⟨hc, x⟩]
    · rw [if_neg (fun e => x e.2), if_neg (fun e => n e.1.symm), if_neg (fun e => x e.2)]; exact e2
  · split
    · exact m1
    · exact e3
  · split
    · exact m2
    · exact e4
theorem Yv.cong {A B : Nat} {g : z_Hp} {q : Nat} {f u f' u' : Nat → Nat} (Y : Yv A B g q f u) (e : ∀ v, v < q → f v = f' v ∧ u v = u' v) : Yv A B g q f' u' := fun v hv => by
  rw [← (e v hv).1, ← (e v hv).2]; exact Y v hv
def A2 (a _i : Nat) : Prop := a = 26 ∨ a = 27
theorem A2.ow {a i : Nat} (e : A2 a i) : a < 94 ∧ ow0 a i ∈ [123] := by
  rcases e with rfl | rfl
  · exact ⟨by decide, List.mem_cons_self⟩
  · exact ⟨by decide, List.mem_cons_self⟩
theorem A2.sc {a i : Nat} (e : A2 a i) : ¬ (50 ≤ ow0 a i ∧ ow0 a i < 100) := by
  have := e.ow.2
  rw [List.mem_singleton] at this
  omega
theorem x_bL3 {ow : Ow} (o : OwOK ow) (I : Ifx h) (R : Rprn h) (hF : 5000 ≤ F) {q sl : Nat} (hq : q ≤ 20) (h1 : hI h 14 1 = nI q) (h3 : Sh ow h q) (hsl : sl ≤ 999) {x4 : Int32} (hx : x4 = 0 ∨ x4 = 1) (K : z_Hp → Option (Int32 × z_Hp)) {P : Int32 × z_Hp → Prop} (k : ∀ h', ChI A2 h h' → Yv 26 27 h' q (y0 (mm h) (fun _ => decide (x4 = 0))) (y1 (mm h) sl (fun _ => decide (x4 = 0))) → Wp (K h') P) : Wp (c_X8_bound_L3 F 20 (some 14) (nI sl) x4 K F 0 h) P := by
  refine Wp.loop (L := fun m (u : Int32 × z_Hp) => c_X8_bound_L3 F 20 (some 14) (nI sl) x4 K m u.1 u.2) (N := q) (fun t u => u.1 = nI t ∧ ChI A2 h u.2 ∧ Yv 26 27 u.2 t (y0 (mm h) (fun _ => decide (x4 = 0))) (y1 (mm h) sl (fun _ => decide (x4 = 0)))) (fun m t u ht hP ih => ?_) (fun m u hP => ?_) F (nI 0, h) (by omega) ⟨rfl, ChI.refl _ _, fun v hv => by omega⟩
  · obtain ⟨u1, g⟩ := u
    obtain ⟨e1, e2, e3⟩ := hP
    dsimp only at e1 e2 e3 ⊢
    subst e1
    have Ig := e2.fx I
    have sg : St [123] ow h g := e2.st I o (fun a i e => e.ow)
    have mg : mm g = mm h := e2.mm (fun a i e => e.sc)
    have f1 : hI g 14 1 = nI q := (e2.1 14 1 (by unfold A2; omega)).trans h1
    obtain ⟨a, ha, wa⟩ := h3.st I o sg (by decide) (by decide) (by decide) t ht
    have Rg : Rprn g := R.st I o sg (by decide) (by decide)
    have b1 : okA g 15 26 (nI t) = true := okA_n (fT15 Ig) (fN15 Ig) (by omega) (by decide)
    rw [c_X8_bound_L3, nI_1]
    refine Wp.rf rfl (Wp.ifT (fT14 Ig) (Wp.ifF (by rw [f1]; exact nI_ge ht (by omega)) (Wp.ifT (fT14 Ig) (Wp.ltO (Wp.rf (fR14_0 Ig) (Wp.ifT b1 (Wp.ltO (Wp.ifT (fT20 Ig) ?_))))))))
    rw [ix_n (by omega), ha]
    refine Wp.cV ((x_bA F Ig Rg (by omega) wa hsl hx).mono (fun g' d => ?_))
    obtain ⟨d1, d2, d3⟩ := d
    rw [mg] at d2 d3
    have y := y01 (sl := sl) wa Rg (fun _ => decide (x4 = 0))
    rw [mg] at y
    refine ih (nI (t + 1), g') ⟨rfl, (e2.trans d1).mono (fun a i e => by rcases e with e | e; exact e; exact e.1), fun v hv => ?_⟩
    by_cases e : v = t
    · subst e; exact ⟨d2, d3, y.1, y.2⟩
    · show hI g' 26 v = _ ∧ hI g' 27 v = _ ∧ _
      rw [d1.1 26 v (by unfold Ay; omega), d1.1 27 v (by unfold Ay; omega)]
      exact e3 v (by omega)
  · obtain ⟨u1, g⟩ := u
    obtain ⟨e1, e2, e3⟩ := hP
    dsimp only at e1 e2 e3 ⊢
    subst e1
    have Ig := e2.fx I
    have f1 : hI g 14 1 = nI q := (e2.1 14 1 (by unfold A2; omega)).trans h1
    rw [c_X8_bound_L3]
    exact Wp.rf rfl (Wp.ifT (fT14 Ig) (Wp.ifT (by rw [f1]; exact nI_le (Nat.le_refl q) (by omega)) (k g e2 e3)))
theorem x_bL48 (I : Ifx h) (hF : 5000 ≤ F) {q s : Nat} (hq : q ≤ 20) (h1 : hI h 14 1 = nI q) (hs : s < q) {C : Nat → Bool} (hC : hI h 23 s = nI (bset C q)) {f u : Nat → Nat} (Y : Yv 26 27 h q f u) (K : z_Hp → Option (Int32 × z_Hp)) {P : Int32 × z_Hp → Prop} (k : ∀ h', ChI A2 h h' → Yv 26 27 h' q (rowp C (fun _ => s) (fun t => t) f q) (rowp C (fun t => t) (fun _ => s) u q) → Wp (K h') P) : Wp (c_X8_bound_L48 F 20 14 (nI s) K F 0 h) P := by
  refine Wp.loop (L := fun m (u : Int32 × z_Hp) => c_X8_bound_L48 F 20 14 (nI s) K m u.1 u.2) (N := q) (fun t v => v.1 = nI t ∧ ChI A2 h v.2 ∧ Yv 26 27 v.2 q (rowp C (fun _ => s) (fun t => t) f t) (rowp C (fun t => t) (fun _ => s) u t)) (fun m t v ht hP ih => ?_) (fun m v hP => ?_) F (nI 0, h) (by omega) ⟨rfl, ChI.refl _ _, Y⟩
  · obtain ⟨u1, g⟩ := v
    obtain ⟨e1, e2, e3⟩ := hP
    dsimp only at e1 e2 e3 ⊢
    subst e1
    have Ig := e2.fx I
    have f1 : hI g 14 1 = nI q := (e2.1 14 1 (by unfold A2; omega)).trans h1
    have fC : hI g 23 s = nI (bset C q) := (e2.1 23 s (by unfold A2; omega)).trans hC
    have b1 : okA g 23 20 (nI s) = true := okA_n (fT23 Ig) (fN23 Ig) (by omega) (by decide)
    have lt := bset20 C hq
    have tb : (bset C q).testBit t = C t := by rw [bset_tb, decide_eq_true ht]; rfl
    have S1 : rowp C (fun _ => s) (fun t => t) f (t + 1) = rl (C t) s t (rowp C (fun _ => s) (fun t => t) f t) := rfl
    have S2 : rowp C (fun t => t) (fun _ => s) u (t + 1) = rl (C t) t s (rowp C (fun t => t) (fun _ => s) u t) := rfl
    generalize rowp C (fun _ => s) (fun t => t) f t = fz at e3 S1
    generalize rowp C (fun t => t) (fun _ => s) u t = uz at e3 S2
    have ys := e3 s hs
    have yt := e3 t ht
    rw [c_X8_bound_L48, nI_1, ix_n (show s < 2147483648 by omega), ix_n (show t < 2147483648 by omega)]
    refine Wp.ifT (fT14 Ig) (Wp.ifF (by rw [f1]; exact nI_ge ht (by omega)) (Wp.ifT (fT20 Ig) (Wp.ltO (Wp.rf (fR20_2 Ig) (Wp.ifT b1 ?_)))))
    rw [fC]
    refine Wp.cIe (x_has F (by omega) (by omega)) (Wp.lj (fun j hj => ?_))
    have go : ∀ g', ChI A2 h g' → Yv 26 27 g' q (rl (C t) s t fz) (rl (C t) t s uz) → Wp (j g') P := fun g' d1 d2 => by
      rw [hj]
      exact ih (nI (t + 1), g') ⟨rfl, d1, by rw [S1, S2]; exact d2⟩
    by_cases c : C t = true
    · refine Wp.ifF (by rw [tb, if_pos c]; exact one0) (Wp.ifT (fT20 Ig) (Wp.ltO (Wp.ifT (fT20 Ig) (Wp.ltO (Wp.rf (fR20_5 Ig) (Wp.ifT (okA_n (fT26 Ig) (fN26 Ig) (show t < 20 by omega) (by decide)) (Wp.ifT (fT20 Ig) (Wp.ltO (Wp.rf (fR20_5 Ig) (Wp.ifT (okA_n (fT26 Ig) (fN26 Ig) (show s < 20 by omega) (by decide)) (Wp.cIe (x_max F _ _ _) (Wp.rf (fR20_5 Ig) (Wp.ifT (okA_n (fT26 Ig) (fN26 Ig) (show t < 20 by omega) (by decide)) (Wp.ltH (Wp.ifT (fT20 Ig) (Wp.ltO (Wp.ifT (fT20 Ig) (Wp.ltO (Wp.rf (fR20_6 Ig) (Wp.ifT (okA_n (fT27 Ig) (fN27 Ig) (show s < 20 by omega) (by decide)) (Wp.ifT (fT20 Ig) (Wp.ltO (Wp.rf (fR20_6 Ig) (Wp.ifT (okA_n (fT27 Ig) (fN27 Ig) (show t < 20 by omega) (by decide)) (Wp.cIe (x_min F _ _) (Wp.rf (fR20_6 Ig) (Wp.ifT (okA_n (fT27 Ig) (fN27 Ig) (show s < 20 by omega) (by decide)) (Wp.ltH ?_))))))))))))))))))))))))))))
      have v27 : ∀ X v, hI (sI g 26 t X) 27 v = hI g 27 v := fun X v => by rw [hI_sI, if_neg (by omega)]
      rw [yt.1, ys.1, nI_max (by omega) (by omega), v27, v27, ys.2.1, yt.2.1, y_c3 ys.2.2.2 yt.2.2.2]
      exact go _ ((e2.set (Or.inl rfl)).set (Or.inr rfl)) (e3.step (by decide) hs ht c)
    · refine Wp.ifT (by rw [tb, if_neg c]) (go _ e2 ?_)
      rw [rl_f c, rl_f c]; exact e3
  · obtain ⟨u1, g⟩ := v
    obtain ⟨e1, e2, e3⟩ := hP
    dsimp only at e1 e2 e3 ⊢
    subst e1
    have Ig := e2.fx I
    have f1 : hI g 14 1 = nI q := (e2.1 14 1 (by unfold A2; omega)).trans h1
    rw [c_X8_bound_L48]
    exact Wp.ifT (fT14 Ig) (Wp.ifT (by rw [f1]; exact nI_le (Nat.le_refl q) (by omega)) (k g e2 e3))
theorem x_bL36 (I : Ifx h) (hF : 5000 ≤ F) {q : Nat} (hq : q ≤ 20) (h1 : hI h 14 1 = nI q) {C : Nat → Nat → Bool} (hC : ∀ s, s < q → hI h 23 s = nI (bset (C s) q)) {f u : Nat → Nat} (Y : Yv 26 27 h q f u) (K : z_Hp → Option (Int32 × z_Hp)) {P : Int32 × z_Hp → Prop} (k : ∀ h', ChI A2 h h' → Yv 26 27 h' q (pass C (fun s _ => s) (fun _ t => t) q f q) (pass C (fun _ t => t) (fun s _ => s) q u q) → Wp (K h') P) : Wp (c_X8_bound_L36 F 20 (some 14) K F 0 h) P := by
  refine Wp.loop (L := fun m (u : Int32 × z_Hp) => c_X8_bound_L36 F 20 (some 14) K m u.1 u.2) (N := q) (fun t v => v.1 = nI t ∧ ChI A2 h v.2 ∧ Yv 26 27 v.2 q (pass C (fun s _ => s) (fun _ t => t) q f t) (pass C (fun _ t => t) (fun s _ => s) q u t)) (fun m t v ht hP ih => ?_) (fun m v hP => ?_) F (nI 0, h) (by omega) ⟨rfl, ChI.refl _ _, Y⟩
  · obtain ⟨u1, g⟩ := v
    obtain ⟨e1, e2, e3⟩ := hP
    dsimp only at e1 e2 e3 ⊢
    subst e1
    have Ig := e2.fx I
    have f1 : hI g 14 1 = nI q := (e2.1 14 1 (by unfold A2; omega)).trans h1
    rw [c_X8_bound_L36, nI_1]
    refine Wp.rf rfl (Wp.ifT (fT14 Ig) (Wp.ifF (by rw [f1]; exact nI_ge ht (by omega)) ?_))
    refine x_bL48 F Ig hF hq f1 ht ((e2.1 23 t (by unfold A2; omega)).trans (hC t ht)) e3 _ (fun g' d1 d2 => ?_)
    exact ih (nI (t + 1), g') ⟨rfl, (e2.trans d1).mono (fun a i e => by rcases e with e | e <;> exact e), d2⟩
  · obtain ⟨u1, g⟩ := v
    obtain ⟨e1, e2, e3⟩ := hP
    dsimp only at e1 e2 e3 ⊢
    subst e1
    have Ig := e2.fx I
    have f1 : hI g 14 1 = nI q := (e2.1 14 1 (by unfold A2; omega)).trans h1
    rw [c_X8_bound_L36]
    exact Wp.rf rfl (Wp.ifT (fT14 Ig) (Wp.ifT (by rw [f1]; exact nI_le (Nat.le_refl q) (by omega)) (k g e2 e3)))
theorem y_ok {f u : Nat} (hf : f ≤ 1999) (hu : u ≤ 1999) : nI f ≤ nI (1999 - u) ↔ f + u ≤ 1999 := by
  rw [nI_leI (by omega) (by omega)]; omega
theorem x_bL138 (I : Ifx h) (hF : 5000 ≤ F) {q : Nat} (hq : q ≤ 20) (h1 : hI h 14 1 = nI q) {f u : Nat → Nat} (Y : Yv 26 27 h q f u) : Wp (c_X8_bound_L138 F 20 (some 14) F 0 h) (fun r => r.2 = h ∧ r.1 = if (decide (∀ v, v < q → f v + u v ≤ 1999)) = true then 1 else 0) := by
  refine Wp.loop (L := fun m (u : Int32) => c_X8_bound_L138 F 20 (some 14) m u h) (N := q) (fun t v => v = nI t ∧ ∀ v, v < t → f v + u v ≤ 1999) (fun m t v ht hP ih => ?_) (fun m v hP => ?_) F (nI 0) (by omega) ⟨rfl, fun v hv => by omega⟩
  · obtain ⟨rfl, e⟩ := hP
    obtain ⟨y1, y2, y3, y4⟩ := Y t ht
    rw [c_X8_bound_L138, nI_1, ix_n (show t < 2147483648 by omega)]
    refine Wp.rf rfl (Wp.ifT (fT14 I) (Wp.ifF (by rw [h1]; exact nI_ge ht (by omega)) (Wp.ifT (fT20 I) (Wp.ltO (Wp.rf (fR20_5 I) (Wp.ifT (okA_n (fT26 I) (fN26 I) (show t < 20 by omega) (by decide)) (Wp.ifT (fT20 I) (Wp.ltO (Wp.rf (fR20_6 I) (Wp.ifT (okA_n (fT27 I) (fN27 I) (show t < 20 by omega) (by decide)) ?_))))))))))
    rw [y1, y2]
    refine Wp.cs (fun c => Wp.ltI ?_) (fun c => Wp.ret ⟨rfl, ?_⟩)
    · refine ih (nI (t + 1)) ⟨rfl, fun v hv => ?_⟩
      by_cases x : v = t
      · subst x; exact (y_ok y3 y4).mp c
      · exact e v (by omega)
    · rw [if_neg]
      rw [decide_eq_true_iff]
      intro x
      exact c ((y_ok y3 y4).mpr (x t ht))
  · obtain ⟨rfl, e⟩ := hP
    rw [c_X8_bound_L138]
    refine Wp.rf rfl (Wp.ifT (fT14 I) (Wp.ifT (by rw [h1]; exact nI_le (Nat.le_refl q) (by omega)) (Wp.ret ⟨rfl, ?_⟩)))
    rw [if_pos (decide_eq_true e)]
theorem x_bound {ow : Ow} (o : OwOK ow) (I : Ifx h) (R : Rprn h) (hF : 5000 ≤ F) {q sl : Nat} (hq : q ≤ 20) (h1 : hI h 14 1 = nI q) (h3 : Sh ow h q) (hsl : sl ≤ 999) {x4 : Int32} (hx : x4 = 0 ∨ x4 = 1) (hC : ∀ s, s < q → hI h 23 s = nI (bset (wr (ahd (mm h)) q s) q)) : Wp (c_X8_bound F 20 (some 14) (nI sl) x4 h) (fun r => (r.1 = if fea (mm h) q sl (fun _ => decide (x4 = 0)) = true then 1 else 0) ∧ ChI A2 h r.2 ∧ Yv 26 27 r.2 q (yl (mm h) q (fun _ => decide (x4 = 0))) (yu (mm h) q sl (fun _ => decide (x4 = 0)))) := by
  unfold c_X8_bound
  refine x_bL3 F o I R hF hq h1 h3 hsl hx _ (fun g d1 d2 => ?_)
  have f1 : hI g 14 1 = nI q := (d1.1 14 1 (by unfold A2; omega)).trans h1
  refine x_bL36 F (d1.fx I) hF hq f1 (C := wr (ahd (mm h)) q) (fun s hs => (d1.1 23 s (by unfold A2; omega)).trans (hC s hs)) d2 _ (fun g' k1 k2 => ?_)
  have f2 : hI g' 14 1 = nI q := (k1.1 14 1 (by unfold A2; omega)).trans f1
  have k3 := k2.cong (f' := yl (mm h) q (fun _ => decide (x4 = 0))) (u' := yu (mm h) q sl (fun _ => decide (x4 = 0))) (fun v hv => ⟨xl_F (mm h) q _ hv, xu_F (mm h) q sl _ hv⟩)
  refine (x_bL138 F (k1.fx (d1.fx I)) hF hq f2 k3).mono (fun r e => ⟨e.2, ?_, ?_⟩)
  · rw [e.1]; exact (d1.trans k1).mono (fun a i e => by rcases e with e | e <;> exact e)
  · rw [e.1]; exact k3
def A3 (a _i : Nat) : Prop := a = 23 ∨ a = 26 ∨ a = 27
theorem A3.ow {a i : Nat} (e : A3 a i) : a < 94 ∧ ow0 a i ∈ [121, 123] := by
  rcases e with rfl | rfl | rfl
  · exact ⟨by decide, List.mem_cons_self⟩
  · exact ⟨by decide, List.mem_cons_of_mem _ List.mem_cons_self⟩
  · exact ⟨by decide, List.mem_cons_of_mem _ List.mem_cons_self⟩
theorem A3.sc {a i : Nat} (e : A3 a i) : ¬ (50 ≤ ow0 a i ∧ ow0 a i < 100) := by
  rcases e with rfl | rfl | rfl
  · show ¬ (50 ≤ 121 ∧ 121 < 100); decide
  · show ¬ (50 ≤ 123 ∧ 123 < 100); decide
  · show ¬ (50 ≤ 123 ∧ 123 < 100); decide
theorem x_work {ow : Ow} (o : OwOK ow) (I : Ifx h) (R : Rprn h) (hF : 5000 ≤ F) {q sl : Nat} (hq : q ≤ 20) (h1 : hI h 14 1 = nI q) (h3 : Sh ow h q) (hsl : sl ≤ 999) : Wp (c_X8_work F 20 (some 14) (nI sl) h) (fun r => (r.1 = if fea (mm h) q sl (fun _ => false) = true then 1 else 0) ∧ ChI A3 h r.2 ∧ (∀ s, s < q → hI r.2 23 s = nI (bset (wr (ahd (mm h)) q s) q)) ∧ Yv 26 27 r.2 q (yl (mm h) q (fun _ => false)) (yu (mm h) q sl (fun _ => false))) := by
  unfold c_X8_work
  refine Wp.ifT (fT20 I) (Wp.cV ((x_no F o I hF hq h1 h3).mono (fun g d => ?_)))
  obtain ⟨d1, d2⟩ := d
  have Ig := d1.fx I
  have sg : St [121] ow h g := d1.st I o (fun a i e => by rw [e]; exact ⟨by decide, List.mem_cons_self⟩)
  have mg : mm g = mm h := d1.mm (fun a i e => by rw [e]; show ¬ (50 ≤ 121 ∧ 121 < 100); decide)
  have f1 : hI g 14 1 = nI q := (d1.1 14 1 (by omega)).trans h1
  refine Wp.ifT (fT20 Ig) (Wp.cI ((x_bound F o Ig (R.st I o sg (by decide) (by decide)) hF hq f1 (h3.st I o sg (by decide) (by decide) (by decide)) hsl (x4 := 1) (Or.inr rfl) (by rw [mg]; exact d2)).mono (fun r e => ?_)))
  obtain ⟨e1, e2, e3⟩ := e
  rw [mg] at e1 e3
  have z : (fun _ : Nat => decide ((1 : Int32) = 0)) = fun _ => false := by funext _; decide
  rw [z] at e1 e3
  refine Wp.ifT (by rw [e1]; split; exact Or.inr rfl; exact Or.inl rfl) (Wp.ret ⟨e1, (d1.trans e2).mono (fun a i e => by unfold A3; rcases e with e | e | e <;> omega), fun s hs => (e2.1 23 s (by unfold A2; omega)).trans (d2 s hs), e3⟩)
end Yrb
