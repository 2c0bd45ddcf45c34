section Dbx
variable {h : z_Hp} (F : Nat)
theorem x_hasSp {ow : Ow} {s a : Nat} (w : shAt ow h s a) : c_X5_hasSpan F a h = some (if sp (mm h) s = true then 1 else 0, h) := by
  have e9 : hI h a 9 = hI h 72 s := w.2.2.2.2.2.2.2.2.2.2.2.1
  have D0 : sp (mm h) s = decide (¬ hI h 72 s = -9) := rfl
  unfold c_X5_hasSpan
  rw [w.1, if_pos rfl, e9, D0]
  by_cases c : hI h 72 s = -9
  · rw [if_pos c, decide_eq_false (fun y => y c), if_neg (by decide)]
  · rw [if_neg c, decide_eq_true c, if_pos rfl]
theorem x_withSpan {ow : Ow} (I : Ifx h) (hF : 5000 ≤ F) {q : Nat} (hq : q ≤ 20) (h1 : hI h 14 1 = nI q) (h3 : Sh ow h q) : c_X6_withSpan F 14 h = some (nI (fb_ct (sp (mm h)) q), h) := by
  unfold c_X6_withSpan
  refine lpS (L := fun m (u : Int32 × Int32) => c_X6_withSpan_L4 F 14 m u.1 u.2 h) (fun k => (nI (fb_ct (sp (mm h)) k), nI k)) q (fun m k hk => ?_) (fun m => ?_) F (by omega)
  · show c_X6_withSpan_L4 F 14 (m + 1) (nI (fb_ct (sp (mm h)) k)) (nI k) h = c_X6_withSpan_L4 F 14 m (nI (fb_ct (sp (mm h)) (k + 1))) (nI (k + 1)) h
    obtain ⟨a, ha, g⟩ := h3 k hk
    have b1 : okA h 15 26 (nI k) = true := okA_n (fT15 I) (fN15 I) (by omega) (by decide)
    rw [c_X6_withSpan_L4]
    simp only [fT14 I, fR14_0 I, if_true, h1, if_neg (nI_ge hk (show q < 2 ^ 31 by omega)), ltq, nnq, b1, ix_n (show k < 2147483648 by omega), ha, g.1, x_hasSp F g, bIq, nI_1]
    by_cases c : sp (mm h) k = true
    · rw [if_pos c, if_neg one0, fb_ct_succ, if_pos c]
    · rw [if_neg c, if_pos rfl, fb_ct_succ, if_neg c]; rfl
  · show c_X6_withSpan_L4 F 14 (m + 1) _ (nI q) h = _
    rw [c_X6_withSpan_L4, fT14 I, if_pos rfl, h1, if_pos (nI_le (Nat.le_refl q) (by omega))]
theorem x_fL18 {ow : Ow} (o : OwOK ow) (I : Ifx h) (hF : 5000 ≤ F) {q : Nat} (hq : q ≤ 20) (h1 : hI h 14 1 = nI q) (h3 : Sh ow h q) (c10 : fb_ct (sp (mm h)) q ≤ 10) (K : Int32 → z_Hp → Option (Int32 × z_Hp)) {P : Int32 × z_Hp → Prop} (k : ∀ h', ChI (fun a _ => a = 24) h h' → (∀ s, s < q → sp (mm h) s = true → hI h' 24 (fb_ct (sp (mm h)) s) = nI s) → Wp (K (nI (fb_ct (sp (mm h)) q)) h') P) : Wp (c_X8_fewestDoubts_L18 F 20 (some 14) K F 0 0 h) P := by
  refine Wp.loop (L := fun m (u : Int32 × Int32 × z_Hp) => c_X8_fewestDoubts_L18 F 20 (some 14) K m u.1 u.2.1 u.2.2) (N := q) (fun t u => u.1 = nI (fb_ct (sp (mm h)) t) ∧ u.2.1 = nI t ∧ ChI (fun a _ => a = 24) h u.2.2 ∧ ∀ s, s < t → sp (mm h) s = true → hI u.2.2 24 (fb_ct (sp (mm h)) s) = nI s) (fun m t u ht hP ih => ?_) (fun m u hP => ?_) F (nI 0, nI 0, h) (by omega) ⟨rfl, rfl, ChI.refl _ _, fun s hs => by omega⟩
  · obtain ⟨u0, u1, g⟩ := u
    obtain ⟨e0, e1, e2, e5⟩ := hP
    dsimp only at e0 e1 e2 e5 ⊢
    subst e0 e1
    have Ig := e2.fx I
    have sg : St [122] ow h g := e2.st I o (fun a i e => by rw [e]; exact ⟨by decide, List.mem_cons_self⟩)
    have mg : mm g = mm h := e2.mm (fun a i e => by rw [e]; show ¬ (50 ≤ 122 ∧ 122 < 100); decide)
    obtain ⟨a, ha, wa⟩ := h3.st I o sg (by decide) (by decide) (by decide) t ht
    have f1 : hI g 14 1 = nI q := (e2.1 14 1 (by omega)).trans h1
    have c20 := fb_ct_le (sp (mm h)) t
    have mo : ∀ j, t ≤ j → fb_ct (sp (mm h)) t ≤ fb_ct (sp (mm h)) j := fun j hj => fb_ct_mono _ hj
    have mq := mo q (by omega)
    rw [c_X8_fewestDoubts_L18, nI_1, nI_1]
    refine Wp.rf rfl (Wp.ifT (fT14 Ig) (Wp.ifF (by rw [f1]; exact nI_ge ht (by omega)) ?_))
    by_cases c1 : 10 ≤ fb_ct (sp (mm h)) t
    · refine Wp.ifT (nI_le (a := 10) c1 (by omega)) ?_
      have eq : fb_ct (sp (mm h)) t = fb_ct (sp (mm h)) q := by omega
      rw [eq]
      refine k g e2 (fun s hs e7 => ?_)
      by_cases c : s < t
      · exact e5 s c e7
      · have t1 := mo s (by omega)
        have t2 : fb_ct (sp (mm h)) (s + 1) = fb_ct (sp (mm h)) s + 1 := by rw [fb_ct_succ, if_pos e7]
        have t3 : fb_ct (sp (mm h)) (s + 1) ≤ fb_ct (sp (mm h)) q := fb_ct_mono _ (by omega)
        omega
    · have b1 : okA g 15 26 (nI t) = true := okA_n (fT15 Ig) (fN15 Ig) (by omega) (by decide)
      refine Wp.ifF (nI_ge (b := 10) (by omega) (by omega)) (Wp.ifT (fT14 Ig) (Wp.ltO (Wp.rf (fR14_0 Ig) (Wp.ifT b1 (Wp.ltO ?_)))))
      rw [ix_n (show t < 2147483648 by omega), ix_n (show fb_ct (sp (mm h)) t < 2147483648 by omega)]
      refine Wp.rf ha (Wp.ifT wa.1 (Wp.cIe (x_hasSp F wa) (Wp.lj (fun j hj => ?_))))
      rw [mg]
      have go : ∀ g' n', (n' = fb_ct (sp (mm h)) (t + 1)) → ChI (fun a _ => a = 24) h g' → (∀ s, s < t + 1 → sp (mm h) s = true → hI g' 24 (fb_ct (sp (mm h)) s) = nI s) → Wp (j (nI n') g') P := fun g' n' d0 d1 d2 => by
        rw [hj]
        exact ih (nI n', nI (t + 1), g') ⟨by rw [d0], rfl, d1, d2⟩
      by_cases c : sp (mm h) t = true
      · have b2 : okA g 24 20 (nI (fb_ct (sp (mm h)) t)) = true := okA_n (fT24 Ig) (fN24 Ig) (by omega) (by decide)
        refine Wp.ifF (by rw [if_pos c]; exact one0) (Wp.ifT (fT20 Ig) (Wp.ltO (Wp.ltI (Wp.rf (fR20_3 Ig) (Wp.ifT b2 (Wp.ltH ?_))))))
        refine go _ _ (by rw [fb_ct_succ, if_pos c]) (e2.set rfl) (fun s hs e7 => ?_)
        rw [hI_sI]
        by_cases e9 : s = t
        · subst e9; rw [if_pos ⟨rfl, rfl⟩]
        · rw [if_neg (fun e => e9 (fb_ct_kth_one e7 c e.2))]
          exact e5 s (by omega) e7
      · refine Wp.ifT (by rw [if_neg c]) (go g _ (by rw [fb_ct_succ, if_neg c]; rfl) e2 (fun s hs e7 => ?_))
        by_cases e9 : s = t
        · subst e9; exact absurd e7 c
        · exact e5 s (by omega) e7
  · obtain ⟨u0, u1, g⟩ := u
    obtain ⟨e0, e1, e2, e5⟩ := hP
    dsimp only at e0 e1 e2 e5 ⊢
    subst e0 e1
    have Ig := e2.fx I
    have f1 : hI g 14 1 = nI q := (e2.1 14 1 (by omega)).trans h1
    rw [c_X8_fewestDoubts_L18]
    exact Wp.rf rfl (Wp.ifT (fT14 Ig) (Wp.ifT (by rw [f1]; exact nI_le (Nat.le_refl q) (by omega)) (k g e2 e5)))
theorem bset_add {f g : Nat → Bool} {n m : Nat} (hm : m < n) (h : ∀ j, j < n → g j = (f j || decide (j = m))) : bset f n ||| 2 ^ m = bset g n := by
  apply Nat.eq_of_testBit_eq
  intro j
  rw [fb_bit_set, bset_tb, bset_tb]
  by_cases c : j < n
  · rw [decide_eq_true c, h j c, Bool.true_and, Bool.true_and]
  · rw [decide_eq_false c, decide_eq_false (show ¬ j = m by omega)]; rfl
/-- what x knows when it looks for clashes -/
def DX (ow : Ow) (h : z_Hp) (q sl n : Nat) : Prop := OwOK ow ∧ Ifx h ∧ q ≤ 20 ∧ Sh ow h q ∧ (∀ s, s < q → hI h 23 s = nI (bset (wr (ahd (mm h)) q s) q)) ∧ Yv 26 27 h q (yl (mm h) q (fun _ => true)) (yu (mm h) q sl (fun _ => true)) ∧ n = fb_ct (sp (mm h)) q ∧ n ≤ 10 ∧ (∀ k, k < n → hI h 24 k = nI (ds (mm h) q k)) ∧ ∀ s, s < q → sp (mm h) s = true → ∃ f t, 1500 ≤ f ∧ f ≤ t ∧ t ≤ 1899 ∧ hI h 72 s = nI f ∧ hI h 73 s = nI t
theorem DX.ch {ow : Ow} {q sl n : Nat} (d : DX ow h q sl n) {g : z_Hp} (c : ChI (fun a _ => a = 25) h g) : DX ow g q sl n ∧ mm g = mm h := by
  obtain ⟨o, I, hq, S, d1, d2, d3, d4, d5, d6⟩ := d
  have sg : St [122] ow h g := c.st I o (fun a i e => by rw [e]; exact ⟨by decide, List.mem_cons_self⟩)
  have mg : mm g = mm h := c.mm (fun a i e => by rw [e]; show ¬ (50 ≤ 122 ∧ 122 < 100); decide)
  refine ⟨⟨o, c.fx I, hq, S.st I o sg (by decide) (by decide) (by decide), fun s hs => ?_, fun v hv => ?_, by rw [mg]; exact d3, d4, fun k hk => ?_, fun s hs e => ?_⟩, mg⟩
  · rw [c.1 23 s (by omega), mg]; exact d1 s hs
  · rw [c.1 26 v (by omega), c.1 27 v (by omega), mg]; exact d2 v hv
  · rw [c.1 24 k (by omega), mg]; exact d5 k hk
  · rw [c.1 72 s (by omega), c.1 73 s (by omega)]; exact d6 s hs (by rw [← mg]; exact e)
theorem ds_ok {M : Nat → Nat → Int32} {q k : Nat} (hk : k < fb_ct (sp M) q) : ds M q k < q ∧ sp M (ds M q k) = true ∧ fb_ct (sp M) (ds M q k) = k := nth_ok hk
theorem x_cL77 {ow : Ow} {q sl n : Nat} (d : DX ow h q sl n) (hF : 5000 ≤ F) {k a : Nat} (hk : k < n) (ea : hR h 15 (ds (mm h) q k) = some a) (hc : hI h 25 k = nI 0) (y : Int32) (K : z_Hp → Option (Int32 × z_Hp)) {P : Int32 × z_Hp → Prop} (kk : ∀ h', ChI (fun a _ => a = 25) h h' → (∀ i, i < k → hI h' 25 i = hI h 25 i) → hI h' 25 k = nI (crow (mm h) q n k) → Wp (K h') P) : Wp (c_X8_findClashes_L77 F 20 14 (nI n) y (nI k) (nI (ds (mm h) q k)) a K F 0 h) P := by
  have kk' : ∀ h', ChI (fun a _ => a = 25) h h' → (∀ i, i < k → hI h' 25 i = hI h 25 i) → hI h' 25 k = nI (bset (fun j => clS (mm h) q (ds (mm h) q k) (ds (mm h) q j)) n) → Wp (K h') P := kk
  clear kk
  generalize hcl : (fun j => clS (mm h) q (ds (mm h) q k) (ds (mm h) q j)) = cl at kk'
  have n10 := d.2.2.2.2.2.2.2.1
  have hq := d.2.2.1
  have en := d.2.2.2.2.2.2.1
  refine Wp.loop (L := fun m (u : Int32 × z_Hp) => c_X8_findClashes_L77 F 20 14 (nI n) y (nI k) (nI (ds (mm h) q k)) a K m u.1 u.2) (N := n) (fun t u => u.1 = nI t ∧ ChI (fun a _ => a = 25) h u.2 ∧ (∀ i, i < k → hI u.2 25 i = hI h 25 i) ∧ hI u.2 25 k = nI (bset cl t)) (fun m t u ht hP ih => ?_) (fun m u hP => ?_) F (nI 0, h) (by omega) ⟨rfl, ChI.refl _ _, fun _ _ => rfl, hc⟩
  · obtain ⟨u1, g⟩ := u
    obtain ⟨e1, e2, e3, e4⟩ := hP
    dsimp only at e1 e2 e3 e4 ⊢
    subst e1
    obtain ⟨⟨o, Ig, _, S, d1, d2, d3, d4, d5, d6⟩, mg⟩ := d.ch e2
    rw [mg] at d1 d5 d6
    obtain ⟨s1, s2, s3⟩ := ds_ok (M := mm h) (q := q) (k := k) (by omega)
    obtain ⟨t1, t2, t3⟩ := ds_ok (M := mm h) (q := q) (k := t) (by omega)
    generalize hs : ds (mm h) q k = s at s1 s2 s3 ea ih
    have et := d5 t ht
    generalize htd : ds (mm h) q t = tt at t1 t2 t3 et
    have ct : cl t = clS (mm h) q s tt := by rw [← hcl]; dsimp only; rw [hs, htd]
    obtain ⟨fs, ts, l1, l2, l3, es1, es2⟩ := d6 s s1 s2
    obtain ⟨ft, tt', l4, l5, l6, et1, et2⟩ := d6 tt t1 t2
    obtain ⟨a', ha', wa⟩ := S s s1
    have ea' : hR g 15 s = some a := (e2.R 15 s).trans ea
    rw [ha'] at ea'
    cases ea'
    obtain ⟨b, hb, wb⟩ := S tt t1
    have m72 : mm h 72 s = nI fs := (e2.1 72 s (by omega)).symm.trans es1
    have m73 : mm h 73 tt = nI tt' := (e2.1 73 tt (by omega)).symm.trans et2
    have hcs : clS (mm h) q s tt = (wr (ahd (mm h)) q s tt && decide (tt' < fs)) := by
      unfold clS
      rw [m72, m73, ix_n (by omega), ix_n (by omega)]
    have a9 : hI g a 9 = nI fs := wa.2.2.2.2.2.2.2.2.2.2.2.1.trans es1
    have b10 : hI g b 10 = nI tt' := wb.2.2.2.2.2.2.2.2.2.2.2.2.1.trans et2
    have lt := bset20 (wr (ahd (mm h)) q s) hq
    have tb : (bset (wr (ahd (mm h)) q s) q).testBit tt = wr (ahd (mm h)) q s tt := by rw [bset_tb, decide_eq_true t1]; rfl
    have o24 : okA g 24 20 (nI t) = true := okA_n (fT24 Ig) (fN24 Ig) (by omega) (by decide)
    have o23 : okA g 23 20 (nI s) = true := okA_n (fT23 Ig) (fN23 Ig) (by omega) (by decide)
    have o15 : okA g 15 26 (nI tt) = true := okA_n (fT15 Ig) (fN15 Ig) (by omega) (by decide)
    have o25k : okA g 25 20 (nI k) = true := okA_n (fT25 Ig) (fN25 Ig) (by omega) (by decide)
    have S1 : bset cl (t + 1) = if cl t = true then bset cl t ||| 2 ^ t else bset cl t := rfl
    rw [c_X8_findClashes_L77, nI_1, ix_n (show t < 2147483648 by omega), ix_n (show k < 2147483648 by omega), ix_n (show s < 2147483648 by omega)]
    refine Wp.ifF (nI_ge ht (by omega)) (Wp.ifT (fT20 Ig) (Wp.ltO (Wp.rf (fR20_3 Ig) (Wp.ifT o24 (Wp.ltI ?_)))))
    rw [et]
    refine Wp.ifT (fT20 Ig) (Wp.ltO (Wp.rf (fR20_2 Ig) (Wp.ifT o23 ?_)))
    rw [d1 s s1, ix_n (show tt < 2147483648 by omega)]
    refine Wp.cIe (x_has F (by omega) (by omega)) (Wp.lj (fun j hj => ?_))
    have go : ∀ g', ChI (fun a _ => a = 25) h g' → (∀ i, i < k → hI g' 25 i = hI h 25 i) → hI g' 25 k = nI (bset cl (t + 1)) → Wp (j g') P := fun g' k1 k2 k3 => by
      rw [hj]
      exact ih (nI (t + 1), g') ⟨rfl, k1, k2, k3⟩
    have goN : ¬ cl t = true → Wp (j g) P := fun c => go g e2 e3 (by rw [e4, S1, if_neg c])
    by_cases c : wr (ahd (mm h)) q s tt = true
    · refine Wp.ifF (by rw [tb, if_pos c]; exact one0) (Wp.ifT wa.1 (Wp.ifT (fT14 Ig) (Wp.ltO (Wp.rf (fR14_0 Ig) (Wp.ifT o15 (Wp.ltO (Wp.rf hb (Wp.ifT wb.1 ?_))))))))
      rw [a9, b10]
      by_cases c2 : tt' < fs
      · have cT : cl t = true := by rw [ct, hcs, c, decide_eq_true c2]; rfl
        refine Wp.ifF (nI_ge c2 (by omega)) (Wp.ifT (fT20 Ig) (Wp.ltO (Wp.rf (fR20_4 Ig) (Wp.ifT o25k (Wp.ifT o25k (Wp.ltH ?_))))))
        rw [e4, shl_1 t (by omega), fa_or]
        refine go _ (e2.set rfl) (fun i hi => ?_) ?_
        · rw [hI_sI, if_neg (fun y => absurd y.2 (by omega))]; exact e3 i hi
        · rw [hI_sI, if_pos ⟨rfl, rfl⟩, S1, if_pos cT]
      · refine Wp.ifT (nI_le (by omega) (by omega)) (goN ?_)
        rw [ct, hcs, decide_eq_false c2, Bool.and_false]; decide
    · refine Wp.ifT (by rw [tb, if_neg c]) (goN ?_)
      rw [ct, hcs]
      intro x
      rw [Bool.and_eq_true] at x
      exact c x.1
  · obtain ⟨u1, g⟩ := u
    obtain ⟨e1, e2, e3, e4⟩ := hP
    dsimp only at e1 e2 e3 e4 ⊢
    subst e1
    rw [c_X8_findClashes_L77]
    exact Wp.ifT (nI_le (Nat.le_refl n) (by omega)) (kk' g e2 e3 e4)
theorem x_clashes {ow : Ow} {q sl n : Nat} (d : DX ow h q sl n) (hF : 5000 ≤ F) : Wp (c_X8_findClashes F 20 (some 14) (nI n) h) (fun r => r.1 = nI (suD (mm h) q sl n) ∧ ChI (fun a _ => a = 25) h r.2 ∧ ∀ i, i < n → hI r.2 25 i = nI (crow (mm h) q n i)) := by
  have I := d.2.1
  have n10 := d.2.2.2.2.2.2.2.1
  have hq := d.2.2.1
  unfold c_X8_findClashes
  refine Wp.loop (L := fun m (u : Int32 × Int32 × z_Hp) => c_X8_findClashes_L5 F 20 (some 14) (nI n) m u.1 u.2.1 u.2.2) (N := n) (fun t u => u.1 = nI (bset (fun k => surS (mm h) q sl (ds (mm h) q k)) t) ∧ u.2.1 = nI t ∧ ChI (fun a _ => a = 25) h u.2.2 ∧ ∀ i, i < t → hI u.2.2 25 i = nI (crow (mm h) q n i)) (fun m t u ht hP ih => ?_) (fun m u hP => ?_) F (nI 0, nI 0, h) (by omega) ⟨rfl, rfl, ChI.refl _ _, fun i hi => by omega⟩
  · obtain ⟨u0, u1, g0⟩ := u
    obtain ⟨e0, e1, f2, f3⟩ := hP
    dsimp only at e0 e1 f2 f3 ⊢
    subst e0 e1
    have I0 := f2.fx I
    have b1 : okA g0 25 20 (nI t) = true := okA_n (fT25 I0) (fN25 I0) (by omega) (by decide)
    rw [c_X8_findClashes_L5, nI_1, ix_n (show t < 2147483648 by omega)]
    refine Wp.ifF (nI_ge ht (by omega)) (Wp.ifT (fT20 I0) (Wp.ltO (Wp.rf (fR20_4 I0) (Wp.ifT b1 (Wp.ltH ?_)))))
    have e2 : ChI (fun a _ => a = 25) h (sI g0 25 t 0) := f2.set rfl
    have e3 : ∀ i, i < t → hI (sI g0 25 t 0) 25 i = nI (crow (mm h) q n i) := fun i hi => by
      rw [hI_sI, if_neg (fun y => absurd y.2 (by omega))]; exact f3 i hi
    have e4 : hI (sI g0 25 t 0) 25 t = nI 0 := by rw [hI_sI, if_pos ⟨rfl, rfl⟩]; rfl
    generalize sI g0 25 t 0 = g at e2 e3 e4
    clear f2 f3 I0 b1
    obtain ⟨dg, mg⟩ := d.ch e2
    have dg' := dg
    obtain ⟨o, Ig, _, S, d1, d2, d3, d4, d5, d6⟩ := dg
    rw [mg] at d2 d3 d5 d6
    obtain ⟨s1, s2, s3⟩ := ds_ok (M := mm h) (q := q) (k := t) (by omega)
    have et := d5 t ht
    obtain ⟨fs, ts, l1, l2, l3, es1, es2⟩ := d6 _ s1 s2
    obtain ⟨a, ha, wa⟩ := S _ s1
    have m72 : mm h 72 (ds (mm h) q t) = nI fs := (e2.1 72 _ (by omega)).symm.trans es1
    have m73 : mm h 73 (ds (mm h) q t) = nI ts := (e2.1 73 _ (by omega)).symm.trans es2
    obtain ⟨y1, y2, y3, y4⟩ := d2 _ s1
    have a9 : hI g a 9 = nI fs := wa.2.2.2.2.2.2.2.2.2.2.2.1.trans es1
    have a10 : hI g a 10 = nI ts := wa.2.2.2.2.2.2.2.2.2.2.2.2.1.trans es2
    have hsu : surS (mm h) q sl (ds (mm h) q t) = decide (1999 < fs + yu (mm h) q sl (fun _ => true) (ds (mm h) q t) ∨ ts < yl (mm h) q (fun _ => true) (ds (mm h) q t)) := by
      unfold surS
      rw [m72, m73, ix_n (by omega), ix_n (by omega)]
    have kk : ∀ x, (x = nI (bset (fun k => surS (mm h) q sl (ds (mm h) q k)) (t + 1))) → Wp (c_X8_findClashes_L77 F 20 14 (nI n) x (nI t) (nI (ds (mm h) q t)) a (fun h52 => (lt_ (nI (t + 1)) (fun x53 => (c_X8_findClashes_L5 F 20 (some 14) (nI n) m x x53 h52)))) F 0 g) (fun r => r.1 = nI (suD (mm h) q sl n) ∧ ChI (fun a _ => a = 25) h r.2 ∧ ∀ i, i < n → hI r.2 25 i = nI (crow (mm h) q n i)) := by
      intro x hx
      have := x_cL77 F dg' hF ht (a := a) (by rw [mg]; exact ha) e4 x (fun h52 => (lt_ (nI (t + 1)) (fun x53 => (c_X8_findClashes_L5 F 20 (some 14) (nI n) m x x53 h52)))) (P := fun r => r.1 = nI (suD (mm h) q sl n) ∧ ChI (fun a _ => a = 25) h r.2 ∧ ∀ i, i < n → hI r.2 25 i = nI (crow (mm h) q n i)) (fun g' k1 k2 k3 => ?_)
      · rw [mg] at this; exact this
      · rw [mg] at k3
        exact ih (x, nI (t + 1), g') ⟨hx, rfl, (e2.trans k1).mono (fun a i e => by rcases e with e | e <;> exact e), fun i hi => by
          by_cases e : i = t
          · rw [e]; exact k3
          · exact (k2 i (by omega)).trans (e3 i (by omega))⟩
    generalize hs : ds (mm h) q t = s at *
    have o24 : okA g 24 20 (nI t) = true := okA_n (fT24 Ig) (fN24 Ig) (by omega) (by decide)
    have o15 : okA g 15 26 (nI s) = true := okA_n (fT15 Ig) (fN15 Ig) (by omega) (by decide)
    have o27 : okA g 27 20 (nI s) = true := okA_n (fT27 Ig) (fN27 Ig) (by omega) (by decide)
    have o26 : okA g 26 20 (nI s) = true := okA_n (fT26 Ig) (fN26 Ig) (by omega) (by decide)
    have S1 : bset (fun k => surS (mm h) q sl (ds (mm h) q k)) (t + 1) = if surS (mm h) q sl s = true then bset (fun k => surS (mm h) q sl (ds (mm h) q k)) t ||| 2 ^ t else bset (fun k => surS (mm h) q sl (ds (mm h) q k)) t := by rw [← hs]; rfl
    refine Wp.ifT (fT20 Ig) (Wp.ltO (Wp.rf (fR20_3 Ig) (Wp.ifT o24 (Wp.ltI ?_))))
    rw [et, ix_n (show s < 2147483648 by omega)]
    refine Wp.rf rfl (Wp.ifT (fT14 Ig) (Wp.ltO (Wp.rf (fR14_0 Ig) (Wp.ifT o15 (Wp.ltO (Wp.rf ha (Wp.ifT wa.1 (Wp.ifT (fT20 Ig) (Wp.ltO (Wp.rf (fR20_6 Ig) (Wp.ifT o27 (Wp.lj (fun j hj => Wp.lj (fun j2 hj2 => ?_))))))))))))))
    have sure : surS (mm h) q sl s = true → Wp (j2 g) (fun r => r.1 = nI (suD (mm h) q sl n) ∧ ChI (fun a _ => a = 25) h r.2 ∧ ∀ i, i < n → hI r.2 25 i = nI (crow (mm h) q n i)) := fun c => by
      rw [hj2]
      dsimp only
      refine Wp.ltI ?_
      rw [hj]
      exact kk _ (by rw [S1, if_pos c, shl_1 t (by omega), fa_or])
    rw [a9, y2]
    by_cases c1 : 1999 < fs + yu (mm h) q sl (fun _ => true) s
    · refine Wp.ifT (nI_lt (by omega) (by omega)) (sure ?_)
      rw [hsu, decide_eq_true (Or.inl c1)]
    · refine Wp.ifF (nI_nlt (by omega) (by omega)) (Wp.ifT wa.1 (Wp.ifT (fT20 Ig) (Wp.ltO (Wp.rf (fR20_5 Ig) (Wp.ifT o26 ?_)))))
      rw [a10, y1]
      by_cases c2 : ts < yl (mm h) q (fun _ => true) s
      · refine Wp.ifF (nI_ge c2 (by omega)) (sure ?_)
        rw [hsu, decide_eq_true (Or.inr c2)]
      · refine Wp.ifT (nI_le (by omega) (by omega)) ?_
        rw [hj]
        exact kk _ (by rw [S1, if_neg (by rw [hsu, decide_eq_true_iff]; omega)])
  · obtain ⟨u0, u1, g⟩ := u
    obtain ⟨e0, e1, e2, e3⟩ := hP
    dsimp only at e0 e1 e2 e3 ⊢
    subst e0 e1
    rw [c_X8_findClashes_L5]
    exact Wp.ifT (nI_le (Nat.le_refl n) (by omega)) (Wp.ret ⟨rfl, e2, e3⟩)
end Dbx
