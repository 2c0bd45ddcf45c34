section Gath
variable {h : z_Hp} (F : Nat)
theorem okA_sI {h : z_Hp} {a i b t : Nat} {x k : Int32} : okA (sI h a i x) b t k = okA h b t k := Eq.trans rfl rfl
/-! x's sheets, all of them -/
def Sh (ow : Ow) (h : z_Hp) (q : Nat) : Prop := ∀ s, s < q → ∃ a, hR h 15 s = some a ∧ shAt ow h s a
theorem Sh.st {fs : List Nat} {ow : Ow} {h g : z_Hp} {q : Nat} (S : Sh ow h q) (I : Ifx h) (o : OwOK ow) (s : St fs ow h g) (h16 : 16 ∉ fs) (h66 : 66 ∉ fs) (h20 : 20 ∉ fs) : Sh ow g q := fun t ht => by
  obtain ⟨a, e, w⟩ := S t ht
  exact ⟨a, ((s.fam I o h16 15 t (by omega) rfl).2.2).trans e, w.st I o s (OwX.refl _ _) h16 h66 h20⟩
def Aga (a i : Nat) : Prop := (a = 16 ∧ i = 3) ∨ a = 17 ∨ a = 18
theorem Aga.ow {a i : Nat} (e : Aga a i) : a < 94 ∧ ow0 a i ∈ [120] := by
  rcases e with ⟨rfl, rfl⟩ | rfl | rfl
  · exact ⟨by decide, by decide⟩
  · exact ⟨by decide, List.mem_cons_self⟩
  · exact ⟨by decide, List.mem_cons_self⟩
theorem Aga.sc {a i : Nat} (e : Aga a i) : ¬ (50 ≤ ow0 a i ∧ ow0 a i < 100) := by
  have := e.ow.2
  rw [List.mem_singleton] at this
  omega
theorem x_gaL7 {ow : Ow} (o : OwOK ow) (I : Ifx h) {q : Nat} (hq : q ≤ 20) (h1 : hI h 14 1 = nI q) (h3 : Sh ow h q) (b : Int32) (c12 : fb_ct (bk (mm h) b) q ≤ 12) (K : z_Hp → Option z_Hp) (h0 : hI h 16 3 = nI 0) {N : Nat} (hN : q < N) : ∃ h', c_X1_gather_L7 F 16 (some 14) b K N 0 h = K h' ∧ ChI Aga h h' ∧ hI h' 16 3 = nI (fb_ct (bk (mm h) b) q) ∧ ∀ s, s < q → bk (mm h) b s = true → hI h' 17 (fb_ct (bk (mm h) b) s) = nI s := by
  have key := lpx (L := fun m (u : Int32 × z_Hp) => c_X1_gather_L7 F 16 (some 14) b K m u.1 u.2) (K := fun u => K u.2) (N := q) (fun k u => u.1 = nI k ∧ ChI Aga h u.2 ∧ hI u.2 16 3 = nI (fb_ct (bk (mm h) b) k) ∧ ∀ s, s < k → bk (mm h) b s = true → hI u.2 17 (fb_ct (bk (mm h) b) s) = nI s) (fun r => ∃ h', r = K h' ∧ ChI Aga h h' ∧ hI h' 16 3 = nI (fb_ct (bk (mm h) b) q) ∧ ∀ s, s < q → bk (mm h) b s = true → hI h' 17 (fb_ct (bk (mm h) b) s) = nI s) (fun m k u hk hP => ?_) (fun m u hP => ?_) q 0 N (nI 0, h) (by omega) hN ⟨rfl, ChI.refl _ _, h0, fun s hs => by omega⟩
  · rcases key with ⟨⟨u1, g⟩, ⟨e1, e2, e3, e4⟩, e6⟩ | e
    · exact ⟨g, e6, e2, e3, e4⟩
    · exact e
  · obtain ⟨u1, g⟩ := u
    obtain ⟨e1, e2, e4, e5⟩ := hP
    dsimp only at e1 e2 e4 e5 ⊢
    subst e1
    have Ig := e2.fx I
    have sg : St [120] ow h g := e2.st I o (fun a i e => e.ow)
    obtain ⟨a, ha, wa⟩ := h3.st I o sg (by decide) (by decide) (by decide) k hk
    have mg : mm g = mm h := e2.mm (fun a i e => e.sc)
    have f1 : hI g 14 1 = nI q := (e2.1 14 1 (by unfold Aga; omega)).trans h1
    have c20 := fb_ct_le (bk (mm h) b) k
    have f68 : hI g a 5 = hI h 68 k := wa.2.2.2.2.2.2.2.1.trans (e2.1 68 k (by unfold Aga; omega))
    have B : bk (mm h) b k = decide (hI h 68 k = b) := rfl
    have b1 : okA g 15 26 (nI k) = true := okA_n (fT15 Ig) (fN15 Ig) (by omega) (by decide)
    by_cases c1 : 12 ≤ fb_ct (bk (mm h) b) k
    · right
      have mo : ∀ j, k ≤ j → fb_ct (bk (mm h) b) k ≤ fb_ct (bk (mm h) b) j := fun j hj => fb_ct_mono _ hj
      have mq := mo q (by omega)
      refine ⟨g, ?_, e2, ?_, fun s hs e7 => ?_⟩
      · have q12 : (12 : Int32) ≤ nI (fb_ct (bk (mm h) b) k) := nI_le (a := 12) c1 (by omega)
        rw [c_X1_gather_L7]
        dsimp only [nn]
        rw [fT14 Ig, if_pos rfl, f1, if_neg (nI_ge hk (by omega)), fT16 Ig, if_pos rfl, e4, if_pos q12]
      · rw [e4]; congr 1; omega
      · by_cases c : s < k
        · exact e5 s c e7
        · have t1 := mo s (by omega)
          have t2 : fb_ct (bk (mm h) b) (s + 1) = fb_ct (bk (mm h) b) s + 1 := by rw [fb_ct_succ, if_pos e7]
          have t3 : fb_ct (bk (mm h) b) (s + 1) ≤ fb_ct (bk (mm h) b) q := fb_ct_mono _ (by omega)
          omega
    · left
      have b2 : okA g 17 20 (nI (fb_ct (bk (mm h) b) k)) = true := okA_n (fT17 Ig) (fN17 Ig) (by omega) (by decide)
      have q12 : ¬ (12 : Int32) ≤ nI (fb_ct (bk (mm h) b) k) := nI_ge (b := 12) (by omega) (by omega)
      rw [c_X1_gather_L7]
      dsimp only [nn]
      rw [fT14 Ig, if_pos rfl, f1, if_neg (nI_ge hk (by omega)), fT16 Ig, if_pos rfl, e4, if_neg q12]
      simp only [if_true, fR14_0 Ig, fR16_0 Ig, ltq, nnq, b1, ix_n (show k < 2147483648 by omega), ha, wa.1, f68, nI_1, okA_sI, b2, ix_n (show fb_ct (bk (mm h) b) k < 2147483648 by omega)]
      by_cases c : hI h 68 k = b
      · rw [if_pos c]
        have kt : bk (mm h) b k = true := by rw [B]; exact decide_eq_true c
        have s1 : fb_ct (bk (mm h) b) (k + 1) = fb_ct (bk (mm h) b) k + 1 := by rw [fb_ct_succ, if_pos kt]
        refine ⟨(nI (k + 1), sI (sI g 16 3 (nI (fb_ct (bk (mm h) b) k + 1))) 17 (fb_ct (bk (mm h) b) k) (nI k)), ⟨rfl, (e2.set (Or.inl ⟨rfl, rfl⟩)).set (Or.inr (Or.inl rfl)), ?_, fun s hs e7 => ?_⟩, rfl⟩
        · rw [hI_sI, if_neg (by omega), hI_sI, if_pos ⟨rfl, rfl⟩, s1]
        · rw [hI_sI]
          by_cases e9 : s = k
          · subst e9; rw [if_pos ⟨rfl, rfl⟩]
          · rw [if_neg (fun e => e9 (fb_ct_kth_one e7 kt e.2)), hI_sI, if_neg (by omega)]
            exact e5 s (by omega) e7
      · rw [if_neg c]
        have kt : ¬ bk (mm h) b k = true := by rw [B]; simp [c]
        refine ⟨(nI (k + 1), g), ⟨rfl, e2, ?_, fun s hs e7 => ?_⟩, rfl⟩
        · rw [fb_ct_succ, if_neg kt]; exact e4
        · by_cases e9 : s = k
          · subst e9; exact absurd e7 kt
          · exact e5 s (by omega) e7
  · obtain ⟨u1, g⟩ := u
    obtain ⟨e1, e2, e4, e5⟩ := hP
    dsimp only at e1 e2 e4 e5 ⊢
    subst e1
    have f1 : hI g 14 1 = nI q := (e2.1 14 1 (by unfold Aga; omega)).trans h1
    rw [c_X1_gather_L7]
    dsimp only [nn]
    rw [fT14 (e2.fx I), if_pos rfl, f1, if_pos (nI_le (Nat.le_refl q) (by omega))]
theorem x_gaL80 {ow : Ow} (o : OwOK ow) (I : Ifx h) {q n k : Nat} (hq : q ≤ 20) (hn : n ≤ 12) (hk : k < n) (h3 : Sh ow h q) (obf : Nat → Nat) (h39 : hI h 16 3 = nI n) (ho : ∀ j, j < n → obf j < q ∧ hI h 17 j = nI (obf j)) (z : hI h 18 k = nI 0) (K : z_Hp → Option z_Hp) {N : Nat} (hNq : n < N) : ∃ h', c_X1_gather_L80 F 16 (some 14) (nI k) K N 0 h = K h' ∧ ChI (fun a i => a = 18 ∧ i = k) h h' ∧ hI h' 18 k = nI (bset (fun j => ahd (mm h) (obf j) (obf k)) n) := by
  have key := lp (L := fun m (u : Int32 × z_Hp) => c_X1_gather_L80 F 16 (some 14) (nI k) K m u.1 u.2) (K := fun u => K u.2) (N := n) (fun j u => u.1 = nI j ∧ ChI (fun a i => a = 18 ∧ i = k) h u.2 ∧ hI u.2 18 k = nI (bset (fun j => ahd (mm h) (obf j) (obf k)) j)) (fun m j u hj hP => ?_) (fun m u hP => ?_) n 0 N (nI 0, h) (by omega) hNq ⟨rfl, ChI.refl _ _, z⟩
  · obtain ⟨⟨u1, g⟩, ⟨e1, e2, e3⟩, e6⟩ := key
    exact ⟨g, e6, e2, e3⟩
  · obtain ⟨u1, g⟩ := u
    obtain ⟨e1, e2, e3⟩ := hP
    dsimp only at e1 e2 e3 ⊢
    subst e1
    have Ig := e2.fx I
    have sg : St [120] ow h g := e2.st I o (fun a i e => by rw [e.1]; exact ⟨by decide, List.mem_cons_self⟩)
    have Sg := h3.st I o sg (by decide) (by decide) (by decide)
    have mg : mm g = mm h := e2.mm (fun a i e => by rw [e.1]; show ¬ (50 ≤ 120 ∧ 120 < 100); decide)
    have f39 : hI g 16 3 = nI n := (e2.1 16 3 (by omega)).trans h39
    have lj := (ho j hj).1
    have lk := (ho k hk).1
    have fj : hI g 17 j = nI (obf j) := (e2.1 17 j (by omega)).trans (ho j hj).2
    have fk : hI g 17 k = nI (obf k) := (e2.1 17 k (by omega)).trans (ho k hk).2
    obtain ⟨a, ha, wa⟩ := Sg (obf j) lj
    obtain ⟨c, hc, wc⟩ := Sg (obf k) lk
    have b1 : okA g 18 20 (nI k) = true := okA_n (fT18 Ig) (fN18 Ig) (by omega) (by decide)
    have b2 : okA g 17 20 (nI j) = true := okA_n (fT17 Ig) (fN17 Ig) (by omega) (by decide)
    have b3 : okA g 17 20 (nI k) = true := okA_n (fT17 Ig) (fN17 Ig) (by omega) (by decide)
    have b4 : okA g 15 26 (nI (obf j)) = true := okA_n (fT15 Ig) (fN15 Ig) (by omega) (by decide)
    have b5 : okA g 15 26 (nI (obf k)) = true := okA_n (fT15 Ig) (fN15 Ig) (by omega) (by decide)
    rw [c_X1_gather_L80]
    simp only [fT16 Ig, fT14 Ig, fR14_0 Ig, fR16_0 Ig, fR16_1 Ig, if_true, f39, if_neg (nI_ge hj (show n < 2 ^ 31 by omega)), ltq, nnq, b1, b2, b3, b4, b5, ix_n (show k < 2147483648 by omega), ix_n (show j < 2147483648 by omega), ix_n (show obf j < 2147483648 by omega), ix_n (show obf k < 2147483648 by omega), fj, fk, ha, hc, wa.1, x_ahd F wa wc, mg, bIq, e3, nI_1, iteZ]
    refine ⟨(nI (j + 1), if ahd (mm h) (obf j) (obf k) = true then sI g 18 k (nI (bset (fun j => ahd (mm h) (obf j) (obf k)) (j + 1))) else g), ⟨rfl, ?_, ?_⟩, ?_⟩
    · dsimp only
      split
      · exact e2.set ⟨rfl, rfl⟩
      · exact e2
    · dsimp only
      by_cases c : ahd (mm h) (obf j) (obf k) = true
      · rw [if_pos c, hI_sI, if_pos ⟨rfl, rfl⟩]
      · rw [if_neg c, e3]
        show _ = nI (if ahd (mm h) (obf j) (obf k) = true then bset (fun j => ahd (mm h) (obf j) (obf k)) j ||| 2 ^ j else bset (fun j => ahd (mm h) (obf j) (obf k)) j)
        rw [if_neg c]
    · have S : bset (fun j => ahd (mm h) (obf j) (obf k)) (j + 1) = if ahd (mm h) (obf j) (obf k) = true then bset (fun j => ahd (mm h) (obf j) (obf k)) j ||| 2 ^ j else bset (fun j => ahd (mm h) (obf j) (obf k)) j := rfl
      by_cases c : ahd (mm h) (obf j) (obf k) = true
      · rw [if_pos c, if_pos c, S, if_pos c, shl_1 j (by omega), fa_or]
      · rw [if_neg c, if_neg c]
  · obtain ⟨u1, g⟩ := u
    obtain ⟨e1, e2, e3⟩ := hP
    dsimp only at e1 e2 e3 ⊢
    subst e1
    have Ig := e2.fx I
    have f39 : hI g 16 3 = nI n := (e2.1 16 3 (by omega)).trans h39
    rw [c_X1_gather_L80, fT16 Ig, if_pos rfl, f39, if_pos (nI_le (Nat.le_refl n) (by omega))]
theorem x_gaL62 {ow : Ow} (o : OwOK ow) (I : Ifx h) (hF : 5000 ≤ F) {q n : Nat} (hq : q ≤ 20) (hn : n ≤ 12) (h3 : Sh ow h q) (obf : Nat → Nat) (h39 : hI h 16 3 = nI n) (ho : ∀ j, j < n → obf j < q ∧ hI h 17 j = nI (obf j)) : ∃ h', c_X1_gather_L62 F 16 (some 14) F 0 h = some h' ∧ ChI (fun a _ => a = 18) h h' ∧ ∀ k, k < n → hI h' 18 k = nI (bset (fun j => ahd (mm h) (obf j) (obf k)) n) := by
  have key := lp (L := fun m (u : Int32 × z_Hp) => c_X1_gather_L62 F 16 (some 14) m u.1 u.2) (K := fun u => some u.2) (N := n) (fun k u => u.1 = nI k ∧ ChI (fun a _ => a = 18) h u.2 ∧ ∀ j, j < k → hI u.2 18 j = nI (bset (fun i => ahd (mm h) (obf i) (obf j)) n)) (fun m k u hk hP => ?_) (fun m u hP => ?_) n 0 F (nI 0, h) (by omega) (by omega) ⟨rfl, ChI.refl _ _, fun j hj => by omega⟩
  · obtain ⟨⟨u1, g⟩, ⟨e1, e2, e3⟩, e6⟩ := key
    exact ⟨g, e6, e2, e3⟩
  · obtain ⟨u1, g⟩ := u
    obtain ⟨e1, e2, e3⟩ := hP
    dsimp only at e1 e2 e3 ⊢
    subst e1
    have Ig := e2.fx I
    have f39 : hI g 16 3 = nI n := (e2.1 16 3 (by omega)).trans h39
    have b1 : okA g 18 20 (nI k) = true := okA_n (fT18 Ig) (fN18 Ig) (by omega) (by decide)
    have c0 : ChI (fun a _ => a = 18) h (sI g 18 k 0) := e2.set rfl
    have sg : St [120] ow h (sI g 18 k 0) := c0.st I o (fun a i e => by rw [e]; exact ⟨by decide, List.mem_cons_self⟩)
    have mg : mm (sI g 18 k 0) = mm h := c0.mm (fun a i e => by rw [e]; show ¬ (50 ≤ 120 ∧ 120 < 100); decide)
    obtain ⟨g', d1, d2, d3⟩ := x_gaL80 F (h := sI g 18 k 0) o (c0.fx I) hq hn hk (h3.st I o sg (by decide) (by decide) (by decide)) obf ((c0.1 16 3 (by omega)).trans h39) (fun j hj => ⟨(ho j hj).1, (c0.1 17 j (by omega)).trans (ho j hj).2⟩) (by rw [hI_sI, if_pos ⟨rfl, rfl⟩]; rfl) (fun h56 => (lt_ (nI k + 1) (fun x57 => (c_X1_gather_L62 F 16 (some 14) m x57 h56)))) (N := F) (by omega)
    rw [mg] at d3
    refine ⟨(nI (k + 1), g'), ⟨rfl, (c0.trans d2).mono (fun a i e => by rcases e with e | e; exact e; exact e.1), fun j hj => ?_⟩, ?_⟩
    · by_cases e : j = k
      · subst e; exact d3
      · rw [d2.1 18 j (by omega), hI_sI, if_neg (by omega)]; exact e3 j (by omega)
    · show c_X1_gather_L62 F 16 (some 14) (m + 1) (nI k) g = _
      rw [c_X1_gather_L62, fT16 Ig, if_pos rfl, f39, if_neg (nI_ge hk (by omega)), if_pos rfl, fR16_1 Ig]
      dsimp only [lt_, nn]
      rw [if_pos b1, ix_n (by omega)]
      dsimp only [lt_] at d1
      rw [d1, nI_1]
  · obtain ⟨u1, g⟩ := u
    obtain ⟨e1, e2, e3⟩ := hP
    dsimp only at e1 e2 e3 ⊢
    subst e1
    have Ig := e2.fx I
    have f39 : hI g 16 3 = nI n := (e2.1 16 3 (by omega)).trans h39
    rw [c_X1_gather_L62, fT16 Ig, if_pos rfl, f39, if_pos (nI_le (Nat.le_refl n) (by omega))]
theorem x_gather {ow : Ow} (o : OwOK ow) (I : Ifx h) (hF : 5000 ≤ F) {q : Nat} (hq : q ≤ 20) (h1 : hI h 14 1 = nI q) (h3 : Sh ow h q) (b : Int32) (c12 : fb_ct (bk (mm h) b) q ≤ 12) : ∃ h', c_X1_gather F 16 (some 14) b h = some h' ∧ ChI Aga h h' ∧ hI h' 16 3 = nI (fb_ct (bk (mm h) b) q) ∧ (∀ j, j < fb_ct (bk (mm h) b) q → hI h' 17 j = nI (ob (mm h) b q j)) ∧ ∀ k, k < fb_ct (bk (mm h) b) q → hI h' 18 k = nI (mus (mm h) b q (fb_ct (bk (mm h) b) q) k) := by
  have c0 : ChI Aga h (sI h 16 3 0) := (ChI.refl _ _).set (Or.inl ⟨rfl, rfl⟩)
  have m0 : mm (sI h 16 3 0) = mm h := c0.mm (fun a i e => e.sc)
  have s0 : St [120] ow h (sI h 16 3 0) := c0.st I o (fun a i e => e.ow)
  obtain ⟨g, d1, d2, d4, d5⟩ := x_gaL7 F (h := sI h 16 3 0) o (c0.fx I) hq ((c0.1 14 1 (by unfold Aga; omega)).trans h1) (h3.st I o s0 (by decide) (by decide) (by decide)) b (by rw [m0]; exact c12) (fun h22 => (c_X1_gather_L62 F 16 (some 14) F 0 h22)) (by rw [hI_sI, if_pos ⟨rfl, rfl⟩]; rfl) (N := F) (by omega)
  rw [m0] at d4 d5
  have c1 : ChI Aga h g := (c0.trans d2).mono (fun a i e => by rcases e with e | e <;> exact e)
  have s1 : St [120] ow h g := c1.st I o (fun a i e => e.ow)
  have mg : mm g = mm h := c1.mm (fun a i e => e.sc)
  have ho : ∀ j, j < fb_ct (bk (mm h) b) q → ob (mm h) b q j < q ∧ hI g 17 j = nI (ob (mm h) b q j) := fun j hj => by
    obtain ⟨k1, k2, k3⟩ := nth_ok hj
    have := d5 (nth (bk (mm h) b) q j) k1 k2
    rw [k3] at this
    exact ⟨k1, this⟩
  obtain ⟨g', f1, f2, f3⟩ := x_gaL62 F (h := g) o (c1.fx I) hF hq c12 (h3.st I o s1 (by decide) (by decide) (by decide)) (ob (mm h) b q) d4 ho
  rw [mg] at f3
  refine ⟨g', ?_, (c1.trans f2).mono (fun a i e => by rcases e with e | e; exact e; exact Or.inr (Or.inr e)), ?_, fun j hj => ?_, f3⟩
  · unfold c_X1_gather
    rw [fT16 I, if_pos rfl]
    dsimp only [lt_]
    rw [d1, f1]
  · rw [f2.1 16 3 (by omega)]; exact d4
  · rw [f2.1 17 j (by omega)]; exact (ho j hj).2
/-! one more that must stand ahead -/
theorem ob_at {M : Nat → Nat → Int32} {b : Int32} {q s j : Nat} (hs : s < q) (e : bk M b s = true) (hj : j < fb_ct (bk M b) q) : ob M b q j = s ↔ j = fb_ct (bk M b) s := by
  constructor
  · intro x
    have := (nth_ok hj).2.2
    unfold ob at x
    rw [x] at this
    exact this.symm
  · intro x
    exact nth_at e x.symm q hs
theorem ob_lt {M : Nat → Nat → Int32} {b : Int32} {q s : Nat} (hs : s < q) (e : bk M b s = true) : fb_ct (bk M b) s < fb_ct (bk M b) q := by
  have t2 : fb_ct (bk M b) (s + 1) = fb_ct (bk M b) s + 1 := by rw [fb_ct_succ, if_pos e]
  have t3 : fb_ct (bk M b) (s + 1) ≤ fb_ct (bk M b) q := fb_ct_mono _ (by omega)
  omega
theorem x_plO (I : Ifx h) (hF : 5000 ≤ F) {n s js : Nat} (hn : n ≤ 12) (hs : s < 20) (hjs : js < n) (h3 : hI h 16 3 = nI n) (obf : Nat → Nat) (ho : ∀ j, j < n → obf j < 20 ∧ hI h 17 j = nI (obf j)) (hat : ∀ j, j < n → (obf j = s ↔ j = js)) : c_X1_placeOf F 16 (nI s) h = some (nI js, h) := by
  unfold c_X1_placeOf
  have key := lpS (L := fun m (u : Int32 × Int32) => c_X1_placeOf_L4 F 16 (nI s) m u.1 u.2 h) (R := some (nI js, h)) (fun k => (nI (if js < k then js else 0), nI k)) n (fun m k hk => ?_) (fun m => ?_) F (by omega)
  · exact key
  · show c_X1_placeOf_L4 F 16 (nI s) (m + 1) (nI (if js < k then js else 0)) (nI k) h = c_X1_placeOf_L4 F 16 (nI s) m (nI (if js < k + 1 then js else 0)) (nI (k + 1)) h
    obtain ⟨o1, o2⟩ := ho k hk
    have b2 : okA h 17 20 (nI k) = true := okA_n (fT17 I) (fN17 I) (by omega) (by decide)
    rw [c_X1_placeOf_L4]
    simp only [fT16 I, fR16_0 I, if_true, h3, if_neg (nI_ge hk (show n < 2 ^ 31 by omega)), ltq, nnq, b2, ix_n (show k < 2147483648 by omega), o2, nI_1]
    by_cases c : obf k = s
    · have ek := (hat k hk).mp c
      rw [if_pos (by rw [c])]
      subst ek
      rw [if_pos (by omega)]
    · have ek : ¬ k = js := fun e => c ((hat k hk).mpr e)
      rw [if_neg (fun e => c ((nI_eq (by omega) (by omega)).mp e))]
      by_cases e : js < k
      · rw [if_pos e, if_pos (by omega)]
      · rw [if_neg e, if_neg (by omega)]
  · show c_X1_placeOf_L4 F 16 (nI s) (m + 1) (nI (if js < n then js else 0)) (nI n) h = _
    rw [c_X1_placeOf_L4, fT16 I, if_pos rfl, h3, if_pos (nI_le (Nat.le_refl n) (by omega)), if_pos hjs]
theorem x_demand (I : Ifx h) (hF : 5000 ≤ F) {n s t js jt : Nat} (hn : n ≤ 12) (hs : s < 20) (ht : t < 20) (hjs : js < n) (hjt : jt < n) (h3 : hI h 16 3 = nI n) (obf : Nat → Nat) (ho : ∀ j, j < n → obf j < 20 ∧ hI h 17 j = nI (obf j)) (has : ∀ j, j < n → (obf j = s ↔ j = js)) (hat : ∀ j, j < n → (obf j = t ↔ j = jt)) (mu : Nat → Nat) (hm : ∀ j, j < n → hI h 18 j = nI (mu j)) : ∃ h', c_X1_demand F 16 (nI s) (nI t) h = some h' ∧ ChI (fun a _ => a = 18) h h' ∧ ∀ j, j < n → hI h' 18 j = nI (if j = jt then mu j ||| 2 ^ js else mu j) := by
  unfold c_X1_demand
  have key := lp (L := fun m (u : Int32 × z_Hp) => c_X1_demand_L2 F 16 (nI s) (nI t) m u.1 u.2) (K := fun u => some u.2) (N := n) (fun k u => u.1 = nI k ∧ ChI (fun a _ => a = 18) h u.2 ∧ ∀ j, j < n → hI u.2 18 j = nI (if j = jt ∧ j < k then mu j ||| 2 ^ js else mu j)) (fun m k u hk hP => ?_) (fun m u hP => ?_) n 0 F (nI 0, h) (by omega) (by omega) ⟨rfl, ChI.refl _ _, fun j hj => by rw [if_neg (by omega)]; exact hm j hj⟩
  · obtain ⟨⟨u1, g⟩, ⟨e1, e2, e3⟩, e6⟩ := key
    refine ⟨g, e6, e2, fun j hj => ?_⟩
    have := e3 j hj
    dsimp only at this
    rw [this]
    by_cases e : j = jt
    · rw [if_pos ⟨e, hj⟩, if_pos e]
    · rw [if_neg (fun x => e x.1), if_neg e]
  · obtain ⟨u1, g⟩ := u
    obtain ⟨e1, e2, e3⟩ := hP
    dsimp only at e1 e2 e3 ⊢
    subst e1
    have Ig := e2.fx I
    have f3 : hI g 16 3 = nI n := (e2.1 16 3 (by omega)).trans h3
    have og : ∀ j, j < n → obf j < 20 ∧ hI g 17 j = nI (obf j) := fun j hj => ⟨(ho j hj).1, (e2.1 17 j (by omega)).trans (ho j hj).2⟩
    have b2 : okA g 17 20 (nI k) = true := okA_n (fT17 Ig) (fN17 Ig) (by omega) (by decide)
    have b3 : okA g 18 20 (nI k) = true := okA_n (fT18 Ig) (fN18 Ig) (by omega) (by decide)
    rw [c_X1_demand_L2]
    simp only [fT16 Ig, fR16_0 Ig, fR16_1 Ig, if_true, f3, if_neg (nI_ge hk (show n < 2 ^ 31 by omega)), ltq, nnq, b2, b3, ix_n (show k < 2147483648 by omega), (og k hk).2, x_plO F Ig hF hn hs hjs f3 obf og has, bIq, nI_1, e3 k hk]
    by_cases c : obf k = t
    · have ek := (hat k hk).mp c
      rw [if_pos (by rw [c]), if_neg (show ¬ (k = jt ∧ k < k) by omega), shl_1 js (by omega), fa_or]
      refine ⟨(nI (k + 1), sI g 18 k (nI (mu k ||| 2 ^ js))), ⟨rfl, e2.set rfl, fun j hj => ?_⟩, rfl⟩
      dsimp only
      rw [hI_sI]
      by_cases e : j = k
      · subst e; rw [if_pos ⟨rfl, rfl⟩, if_pos ⟨ek, by omega⟩]
      · rw [if_neg (fun x => e x.2), e3 j hj, if_neg (by omega), if_neg (by omega)]
    · have ek : ¬ k = jt := fun e => c ((hat k hk).mpr e)
      rw [if_neg (fun e => c ((nI_eq (by have := (og k hk).1; omega) (by omega)).mp e))]
      refine ⟨(nI (k + 1), g), ⟨rfl, e2, fun j hj => ?_⟩, rfl⟩
      dsimp only
      rw [e3 j hj]
      by_cases e : j = jt ∧ j < k
      · rw [if_pos e, if_pos (by omega)]
      · rw [if_neg e, if_neg (by omega)]
  · obtain ⟨u1, g⟩ := u
    obtain ⟨e1, e2, e3⟩ := hP
    dsimp only at e1 e2 e3 ⊢
    subst e1
    have Ig := e2.fx I
    have f3 : hI g 16 3 = nI n := (e2.1 16 3 (by omega)).trans h3
    rw [c_X1_demand_L2, fT16 Ig, if_pos rfl, f3, if_pos (nI_le (Nat.le_refl n) (by omega))]
end Gath
