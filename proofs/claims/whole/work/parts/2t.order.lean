section OpsN
variable {h : z_Hp} (F : Nat) (x1 x2 x3 x4 x5 : Int32)
/-- the j-th below n that has p -/
def nth (p : Nat → Bool) : Nat → Nat → Nat
  | 0, _ => 0
  | s + 1, j => if p s = true ∧ fb_ct p s = j then s else nth p s j
theorem nth_at {p : Nat → Bool} {s j : Nat} (hp : p s = true) (hj : fb_ct p s = j) : ∀ n, s < n → nth p n j = s
  | 0, h => by omega
  | n + 1, h => by
    unfold nth
    by_cases c : s = n
    · subst c; rw [if_pos ⟨hp, hj⟩]
    · rw [if_neg (fun e => c (fb_ct_kth_one hp e.1 (hj.trans e.2.symm)))]
      exact nth_at hp hj n (by omega)
theorem nth_ok {p : Nat → Bool} {n j : Nat} (h : j < fb_ct p n) : nth p n j < n ∧ p (nth p n j) = true ∧ fb_ct p (nth p n j) = j := by
  obtain ⟨i, h1, h2, h3⟩ := fb_ct_kth h
  rw [nth_at h2 h3 n h1]
  exact ⟨h1, h2, h3⟩
/-- the set of those below n that have f -/
def bset (f : Nat → Bool) : Nat → Nat
  | 0 => 0
  | j + 1 => if f j = true then bset f j ||| 2 ^ j else bset f j
theorem bset_tb (f : Nat → Bool) : ∀ n i, (bset f n).testBit i = (decide (i < n) && f i)
  | 0, i => by simp [bset]
  | n + 1, i => by
    have ih := bset_tb f n i
    unfold bset
    by_cases c : f n = true
    · rw [if_pos c, fb_bit_set, ih]
      by_cases e : i = n
      · subst e; simp [c]
      · have : (i < n + 1) = (i < n) := by apply propext; omega
        simp [e, this]
    · rw [if_neg c, ih]
      by_cases e : i = n
      · subst e; simp [c]
      · have : (i < n + 1) = (i < n) := by apply propext; omega
        simp [this]
theorem bset_lt (f : Nat → Bool) : ∀ n, bset f n < 2 ^ n
  | 0 => by simp [bset]
  | n + 1 => by
    have ih := bset_lt f n
    unfold bset
    have h1 : 2 ^ n < 2 ^ (n + 1) := Nat.pow_lt_pow_right (by decide) (by omega)
    split
    · exact Nat.or_lt_two_pow (by omega) h1
    · omega
theorem or_big {a b : Nat} (ha : a < 1048576) (hb : b < 20) : a ||| 2 ^ b < 1048576 := Nat.or_lt_two_pow (n := 20) ha (Nat.pow_lt_pow_right (by decide) hb)
/-! ===== who shows a block ===== -/
def bk (M : Nat → Nat → Int32) (b : Int32) (s : Nat) : Bool := decide (M 68 s = b)
section Wb
variable {ow : Ow} {q : Nat}
theorem x_withBlock (I : Ifx h) (hF : 5000 ≤ F) (hq : q ≤ 20) (h1 : hI h 14 1 = nI q) (h3 : ∀ s, s < q → ∃ a, hR h 15 s = some a ∧ shAt ow h s a) (b : Int32) : c_X6_withBlock F 14 b h = some (nI (fb_ct (bk (mm h) b) q), h) := by
  unfold c_X6_withBlock
  refine lpS (L := fun m (u : Int32 × Int32) => c_X6_withBlock_L4 F 14 b m u.1 u.2 h) (fun k => (nI (fb_ct (bk (mm h) b) k), nI k)) q (fun m k hk => ?_) (fun m => ?_) F (by omega)
  · show c_X6_withBlock_L4 F 14 b (m + 1) (nI (fb_ct (bk (mm h) b) k)) (nI k) h = c_X6_withBlock_L4 F 14 b m (nI (fb_ct (bk (mm h) b) (k + 1))) (nI (k + 1)) h
    obtain ⟨a, ha, g⟩ := h3 k hk
    have b1 : okA h 15 26 (nI k) = true := okA_n (fT15 I) (fN15 I) (by omega) (by decide)
    rw [c_X6_withBlock_L4]
    simp only [fT14 I, fR14_0 I, if_true, h1, if_neg (nI_ge hk (show q < 2 ^ 31 by omega)), ltq, nnq, b1, ix_n (show k < 2147483648 by omega), ha, g.1, g.2.2.2.2.2.2.2.1, nI_1]
    have B : bk (mm h) b k = decide (hI h 68 k = b) := rfl
    by_cases c : hI h 68 k = b
    · rw [if_pos c, fb_ct_succ, B, if_pos (decide_eq_true c)]
    · rw [if_neg c, fb_ct_succ, B, if_neg (by simp [c])]; rfl
  · show c_X6_withBlock_L4 F 14 b (m + 1) _ (nI q) h = _
    rw [c_X6_withBlock_L4, fT14 I, if_pos rfl, h1, if_pos (nI_le (Nat.le_refl q) (by omega))]
end Wb
/-! ===== the reference's order of a block ===== -/
def ob (M : Nat → Nat → Int32) (b : Int32) (q j : Nat) : Nat := nth (bk M b) q j
def mus (M : Nat → Nat → Int32) (b : Int32) (q n k : Nat) : Nat := bset (fun j => ahd M (ob M b q j) (ob M b q k)) n
theorem m_setO_L7 (I : Ifx h) {q : Nat} (hq : q ≤ 20) (h2 : hI h 46 26 = nI q) (b : Int32) (K : z_Hp → Option z_Hp) (h39 : hI h 46 39 = nI 0) {N : Nat} (hNq : q < N) : ∃ h', c_X10_setOrder_L7 F 46 b K N 0 h = K h' ∧ (∀ a i, ¬ (a = 46 ∧ i = 39) → a ≠ 77 → hI h' a i = hI h a i) ∧ h'.2 = h.2 ∧ hI h' 46 39 = nI (fb_ct (bk (mm h) b) q) ∧ ∀ s, s < q → bk (mm h) b s = true → hI h' 77 (fb_ct (bk (mm h) b) s) = nI s := by
  have key := lp (L := fun m (u : Int32 × z_Hp) => c_X10_setOrder_L7 F 46 b K m u.1 u.2) (K := fun u => K u.2) (N := q) (fun k u => u.1 = nI k ∧ (∀ a i, ¬ (a = 46 ∧ i = 39) → a ≠ 77 → hI u.2 a i = hI h a i) ∧ u.2.2 = h.2 ∧ hI u.2 46 39 = nI (fb_ct (bk (mm h) b) k) ∧ ∀ s, s < k → bk (mm h) b s = true → hI u.2 77 (fb_ct (bk (mm h) b) s) = nI s) (fun m k u hk hP => ?_) (fun m u hP => ?_) q 0 N (nI 0, h) (by omega) hNq ⟨rfl, fun _ _ _ _ => rfl, rfl, h39, fun s hs => by omega⟩
  · obtain ⟨⟨u1, g⟩, ⟨e1, e2, e3, e4, e5⟩, e6⟩ := key
    exact ⟨g, e6, e2, e3, e4, e5⟩
  · obtain ⟨u1, g⟩ := u
    obtain ⟨e1, e2, e3, e4, e5⟩ := hP
    dsimp only at e1 e2 e3 e4 e5 ⊢
    subst e1
    have Tg : ∀ a, hT g a = hT h a := fun a => by unfold hT; rw [e3]
    have Ng : ∀ a, hN g a = hN h a := fun a => by unfold hN; rw [e3]
    have Rg : ∀ a i, hR g a i = hR h a i := fun a i => by unfold hR; rw [e3]
    have c20 := fb_ct_le (bk (mm h) b) k
    have f68 : hI g 68 k = hI h 68 k := e2 68 k (by omega) (by decide)
    have f26 : hI g 46 26 = nI q := (e2 46 26 (by omega) (by decide)).trans h2
    have B : bk (mm h) b k = decide (hI h 68 k = b) := rfl
    have b1 : okA g 68 20 (nI k) = true := okA_n ((Tg 68).trans (fT68 I)) ((Ng 68).trans (fN68 I)) (by omega) (by decide)
    have b2 : okA g 77 20 (nI (fb_ct (bk (mm h) b) k)) = true := okA_n ((Tg 77).trans (fT77 I)) ((Ng 77).trans (fN77 I)) (by omega) (by decide)
    rw [c_X10_setOrder_L7]
    simp only [Tg, Rg, fT46 I, fR46_30 I, fR46_40 I, if_true, f26, if_neg (nI_ge hk (show q < 2 ^ 31 by omega)), ltq, nnq, b1, ix_n (show k < 2147483648 by omega), f68, e4, b2, ix_n (show fb_ct (bk (mm h) b) k < 2147483648 by omega), hT_sI, hI_sI, Nat.reduceEqDiff, false_and, if_false, nI_1]
    by_cases c : hI h 68 k = b
    · rw [if_pos c]
      have kt : bk (mm h) b k = true := by rw [B]; exact decide_eq_true c
      have s1 : fb_ct (bk (mm h) b) (k + 1) = fb_ct (bk (mm h) b) k + 1 := by rw [fb_ct_succ, if_pos kt]
      refine ⟨(nI (k + 1), sI (sI g 77 (fb_ct (bk (mm h) b) k) (nI k)) 46 39 (nI (fb_ct (bk (mm h) b) k + 1))), ⟨rfl, fun a i e7 e8 => ?_, e3, ?_, fun s hs e7 => ?_⟩, rfl⟩
      · rw [hI_sI, if_neg e7, hI_sI, if_neg (fun e => e8 e.1)]; exact e2 a i e7 e8
      · rw [hI_sI, if_pos ⟨rfl, rfl⟩, s1]
      · rw [hI_sI, if_neg (by omega), hI_sI]
        by_cases e9 : s = k
        · subst e9; rw [if_pos ⟨rfl, rfl⟩]
        · rw [if_neg (fun e => e9 (fb_ct_kth_one e7 kt e.2))]
          exact e5 s (by omega) e7
    · rw [if_neg c]
      have kt : ¬ bk (mm h) b k = true := by rw [B]; simp [c]
      refine ⟨(nI (k + 1), g), ⟨rfl, e2, e3, ?_, fun s hs e7 => ?_⟩, rfl⟩
      · rw [fb_ct_succ, if_neg kt]; exact e4
      · by_cases e9 : s = k
        · subst e9; exact absurd e7 kt
        · exact e5 s (by omega) e7
  · obtain ⟨u1, g⟩ := u
    obtain ⟨e1, e2, e3, e4, e5⟩ := hP
    dsimp only at e1 e2 e3 e4 e5 ⊢
    subst e1
    have Tg : ∀ a, hT g a = hT h a := fun a => by unfold hT; rw [e3]
    have f26 : hI g 46 26 = nI q := (e2 46 26 (by omega) (by decide)).trans h2
    rw [c_X10_setOrder_L7, Tg, fT46 I, if_pos rfl, f26, if_pos (nI_le (Nat.le_refl q) (by omega))]
/-- ints have changed at places with A alone -/
def ChI (A : Nat → Nat → Prop) (h g : z_Hp) : Prop := (∀ a i, ¬ A a i → hI g a i = hI h a i) ∧ g.2 = h.2
theorem ChI.T {A : Nat → Nat → Prop} {h g : z_Hp} (c : ChI A h g) (a : Nat) : hT g a = hT h a := by unfold hT; rw [c.2]
theorem ChI.N {A : Nat → Nat → Prop} {h g : z_Hp} (c : ChI A h g) (a : Nat) : hN g a = hN h a := by unfold hN; rw [c.2]
theorem ChI.R {A : Nat → Nat → Prop} {h g : z_Hp} (c : ChI A h g) (a i : Nat) : hR g a i = hR h a i := by unfold hR; rw [c.2]
theorem ChI.J {A : Nat → Nat → Prop} {h g : z_Hp} (c : ChI A h g) (a i : Nat) : hJ g a i = hJ h a i := by unfold hJ; rw [c.2]
theorem ChI.Z {A : Nat → Nat → Prop} {h g : z_Hp} (c : ChI A h g) : hZ g = hZ h ∧ hS g = hS h := by unfold hZ hS; rw [c.2]; exact ⟨rfl, rfl⟩
theorem ChI.fx {A : Nat → Nat → Prop} {h g : z_Hp} (c : ChI A h g) (I : Ifx h) : Ifx g := by
  refine ⟨fun e he => ?_, fun e he => ?_, ?_, fun a ha => ?_⟩
  · rw [c.T, c.N]; exact I.1 e he
  · rw [c.R]; exact I.2.1 e he
  · rw [c.Z.1]; exact I.2.2.1
  · rw [c.T]; exact I.2.2.2 a (by rw [← c.Z.1]; exact ha)
theorem ChI.st {A : Nat → Nat → Prop} {h g : z_Hp} (c : ChI A h g) (I : Ifx h) {fs : List Nat} {ow : Ow} (o : OwOK ow) (hA : ∀ a i, A a i → a < 94 ∧ ow0 a i ∈ fs) : St fs ow h g := by
  refine ⟨by rw [c.Z.1]; exact Nat.le_refl _, fun a _ => ⟨c.T a, c.N a⟩, fun a i _ hn => ⟨c.1 a i (fun e => hn ?_), c.J a i, c.R a i⟩, (c.fx I).2.2.2⟩
  have := hA a i e
  rw [o a i this.1]; exact this.2
theorem ChI.refl (A : Nat → Nat → Prop) (h : z_Hp) : ChI A h h := ⟨fun _ _ _ => rfl, rfl⟩
theorem ChI.trans {A B : Nat → Nat → Prop} {h g k : z_Hp} (c : ChI A h g) (d : ChI B g k) : ChI (fun a i => A a i ∨ B a i) h k := ⟨fun a i e => (d.1 a i (fun x => e (Or.inr x))).trans (c.1 a i (fun x => e (Or.inl x))), d.2.trans c.2⟩
theorem ChI.mono {A B : Nat → Nat → Prop} {h g : z_Hp} (c : ChI A h g) (hAB : ∀ a i, A a i → B a i) : ChI B h g := ⟨fun a i e => c.1 a i (fun x => e (hAB a i x)), c.2⟩
theorem ChI.set {A : Nat → Nat → Prop} {h g : z_Hp} (c : ChI A h g) {a i : Nat} {x : Int32} (ha : A a i) : ChI A h (sI g a i x) := ⟨fun b j e => by rw [hI_sI, if_neg (fun q => e (by rw [q.1, q.2]; exact ha))]; exact c.1 b j e, c.2⟩
theorem ChI.mm {A : Nat → Nat → Prop} {h g : z_Hp} (c : ChI A h g) (hA : ∀ a i, A a i → ¬ (50 ≤ ow0 a i ∧ ow0 a i < 100)) : mm g = mm h := by
  funext a i
  show (if 46 ≤ a ∧ a < 94 ∧ 50 ≤ ow0 a i ∧ ow0 a i < 100 then hI g a i else 0) = (if 46 ≤ a ∧ a < 94 ∧ 50 ≤ ow0 a i ∧ ow0 a i < 100 then hI h a i else 0)
  by_cases e : 46 ≤ a ∧ a < 94 ∧ 50 ≤ ow0 a i ∧ ow0 a i < 100
  · rw [if_pos e, if_pos e, c.1 a i (fun x => hA a i x e.2.2)]
  · rw [if_neg e, if_neg e]
theorem m_setO_L70 (I : Ifx h) {q n k : Nat} (hn : n ≤ 20) (hk : k < n) (obf : Nat → Nat) (h39 : hI h 46 39 = nI n) (ho : ∀ j, j < n → obf j < 20 ∧ hI h 77 j = nI (obf j)) (z : hI h 78 k = nI 0) (K : z_Hp → Option z_Hp) {N : Nat} (hNq : n < N) : ∃ h', c_X10_setOrder_L70 F 46 (nI k) K N 0 h = K h' ∧ ChI (fun a i => a = 78 ∧ i = k) h h' ∧ hI h' 78 k = nI (bset (fun j => ahd (mm h) (obf j) (obf k)) n) := by
  have key := lp (L := fun m (u : Int32 × z_Hp) => c_X10_setOrder_L70 F 46 (nI k) K m u.1 u.2) (K := fun u => K u.2) (N := n) (fun j u => u.1 = nI j ∧ ChI (fun a i => a = 78 ∧ i = k) h u.2 ∧ hI u.2 78 k = nI (bset (fun j => ahd (mm h) (obf j) (obf k)) j)) (fun m j u hj hP => ?_) (fun m u hP => ?_) n 0 N (nI 0, h) (by omega) hNq ⟨rfl, ChI.refl _ _, z⟩
  · obtain ⟨⟨u1, g⟩, ⟨e1, e2, e3⟩, e6⟩ := key
    exact ⟨g, e6, e2, e3⟩
  · obtain ⟨u1, g⟩ := u
    obtain ⟨e1, e2, e3⟩ := hP
    dsimp only at e1 e2 e3 ⊢
    subst e1
    have Ig := e2.fx I
    have mg : mm g = mm h := e2.mm (fun a i e => by rw [e.1]; show ¬ (50 ≤ 104 ∧ 104 < 100); decide)
    have f39 : hI g 46 39 = nI n := (e2.1 46 39 (by omega)).trans h39
    have fj : hI g 77 j = nI (obf j) := (e2.1 77 j (by omega)).trans (ho j hj).2
    have fk : hI g 77 k = nI (obf k) := (e2.1 77 k (by omega)).trans (ho k hk).2
    have b1 : okA g 78 20 (nI k) = true := okA_n (fT78 Ig) (fN78 Ig) (by omega) (by decide)
    have b2 : okA g 77 20 (nI j) = true := okA_n (fT77 Ig) (fN77 Ig) (by omega) (by decide)
    have b3 : okA g 77 20 (nI k) = true := okA_n (fT77 Ig) (fN77 Ig) (by omega) (by decide)
    rw [c_X10_setOrder_L70]
    simp only [fT46 Ig, fR46_40 Ig, fR46_41 Ig, if_true, f39, if_neg (nI_ge hj (show n < 2 ^ 31 by omega)), ltq, nnq, b1, b2, b3, ix_n (show k < 2147483648 by omega), ix_n (show j < 2147483648 by omega), fj, fk, m_ahd F Ig (ho j hj).1 (ho k hk).1, mg, bIq, e3, nI_1, iteZ]
    refine ⟨(nI (j + 1), sI g 78 k (nI (bset (fun j => ahd (mm h) (obf j) (obf k)) (j + 1)))), ⟨rfl, e2.set ⟨rfl, rfl⟩, by rw [hI_sI, if_pos ⟨rfl, rfl⟩]⟩, ?_⟩
    have S : bset (fun j => ahd (mm h) (obf j) (obf k)) (j + 1) = if ahd (mm h) (obf j) (obf k) = true then bset (fun j => ahd (mm h) (obf j) (obf k)) j ||| 2 ^ j else bset (fun j => ahd (mm h) (obf j) (obf k)) j := rfl
    rw [S]
    by_cases c : ahd (mm h) (obf j) (obf k) = true
    · rw [if_pos c, if_pos c, shl_1 j (by omega), fa_or]
    · rw [if_neg c, if_neg c, show (0 : Int32) = nI 0 from rfl, fa_or, Nat.or_zero]
  · obtain ⟨u1, g⟩ := u
    obtain ⟨e1, e2, e3⟩ := hP
    dsimp only at e1 e2 e3 ⊢
    subst e1
    have Ig := e2.fx I
    have f39 : hI g 46 39 = nI n := (e2.1 46 39 (by omega)).trans h39
    rw [c_X10_setOrder_L70, fT46 Ig, if_pos rfl, f39, if_pos (nI_le (Nat.le_refl n) (by omega))]
theorem m_setO_L53 (I : Ifx h) (hF : 5000 ≤ F) {n : Nat} (hn : n ≤ 20) (obf : Nat → Nat) (h39 : hI h 46 39 = nI n) (ho : ∀ j, j < n → obf j < 20 ∧ hI h 77 j = nI (obf j)) : ∃ h', c_X10_setOrder_L53 F 46 F 0 h = some h' ∧ ChI (fun a _ => a = 78) h h' ∧ ∀ k, k < n → hI h' 78 k = nI (bset (fun j => ahd (mm h) (obf j) (obf k)) n) := by
  have key := lp (L := fun m (u : Int32 × z_Hp) => c_X10_setOrder_L53 F 46 m u.1 u.2) (K := fun u => some u.2) (N := n) (fun k u => u.1 = nI k ∧ ChI (fun a _ => a = 78) h u.2 ∧ ∀ j, j < k → hI u.2 78 j = nI (bset (fun i => ahd (mm h) (obf i) (obf j)) n)) (fun m k u hk hP => ?_) (fun m u hP => ?_) n 0 F (nI 0, h) (by omega) (by omega) ⟨rfl, ChI.refl _ _, fun j hj => by omega⟩
  · obtain ⟨⟨u1, g⟩, ⟨e1, e2, e3⟩, e6⟩ := key
    exact ⟨g, e6, e2, e3⟩
  · obtain ⟨u1, g⟩ := u
    obtain ⟨e1, e2, e3⟩ := hP
    dsimp only at e1 e2 e3 ⊢
    subst e1
    have Ig := e2.fx I
    have f39 : hI g 46 39 = nI n := (e2.1 46 39 (by omega)).trans h39
    have b1 : okA g 78 20 (nI k) = true := okA_n (fT78 Ig) (fN78 Ig) (by omega) (by decide)
    have c0 : ChI (fun a _ => a = 78) h (sI g 78 k 0) := e2.set rfl
    have mg : mm (sI g 78 k 0) = mm h := c0.mm (fun a i e => by rw [e]; show ¬ (50 ≤ 104 ∧ 104 < 100); decide)
    obtain ⟨g', d1, d2, d3⟩ := m_setO_L70 F (h := sI g 78 k 0) (c0.fx I) (q := 0) hn hk obf ((c0.1 46 39 (by omega)).trans h39) (fun j hj => ⟨(ho j hj).1, (c0.1 77 j (by omega)).trans (ho j hj).2⟩) (by rw [hI_sI, if_pos ⟨rfl, rfl⟩]; rfl) (fun h42 => (lt_ (nI k + 1) (fun x43 => (c_X10_setOrder_L53 F 46 m x43 h42)))) (N := F) (by omega)
    rw [mg] at d3
    refine ⟨(nI (k + 1), g'), ⟨rfl, (c0.trans d2).mono (fun a i e => by rcases e with e | e; exact e; exact e.1), fun j hj => ?_⟩, ?_⟩
    · by_cases e : j = k
      · subst e; exact d3
      · rw [d2.1 78 j (by omega), hI_sI, if_neg (by omega)]; exact e3 j (by omega)
    · show c_X10_setOrder_L53 F 46 (m + 1) (nI k) g = _
      rw [c_X10_setOrder_L53, fT46 Ig, if_pos rfl, f39, if_neg (nI_ge hk (by omega)), if_pos rfl, fR46_41 Ig]
      dsimp only [lt_, nn]
      rw [if_pos b1, ix_n (by omega)]
      dsimp only [lt_] at d1
      rw [d1, nI_1]
  · obtain ⟨u1, g⟩ := u
    obtain ⟨e1, e2, e3⟩ := hP
    dsimp only at e1 e2 e3 ⊢
    subst e1
    have Ig := e2.fx I
    have f39 : hI g 46 39 = nI n := (e2.1 46 39 (by omega)).trans h39
    rw [c_X10_setOrder_L53, fT46 Ig, if_pos rfl, f39, if_pos (nI_le (Nat.le_refl n) (by omega))]
theorem m_setO (I : Ifx h) (hF : 5000 ≤ F) {q : Nat} (hq : q ≤ 20) (h2 : hI h 46 26 = nI q) (b : Int32) : ∃ h', c_X10_setOrder F 46 b h = some h' ∧ ChI (fun a i => (a = 46 ∧ i = 39) ∨ a = 77 ∨ a = 78) h h' ∧ hI h' 46 39 = nI (fb_ct (bk (mm h) b) q) ∧ (∀ j, j < fb_ct (bk (mm h) b) q → hI h' 77 j = nI (ob (mm h) b q j)) ∧ ∀ k, k < fb_ct (bk (mm h) b) q → hI h' 78 k = nI (mus (mm h) b q (fb_ct (bk (mm h) b) q) k) := by
  have c0 : ChI (fun a i => (a = 46 ∧ i = 39) ∨ a = 77 ∨ a = 78) h (sI h 46 39 0) := (ChI.refl _ _).set (Or.inl ⟨rfl, rfl⟩)
  have sc : ∀ a i, ((a = 46 ∧ i = 39) ∨ a = 77 ∨ a = 78) → ¬ (50 ≤ ow0 a i ∧ ow0 a i < 100) := fun a i e => by
    rcases e with ⟨rfl, rfl⟩ | rfl | rfl
    · decide
    · show ¬ (50 ≤ 104 ∧ 104 < 100); decide
    · show ¬ (50 ≤ 104 ∧ 104 < 100); decide
  have m0 : mm (sI h 46 39 0) = mm h := c0.mm sc
  obtain ⟨g, d1, d2, d3, d4, d5⟩ := m_setO_L7 F (h := sI h 46 39 0) (c0.fx I) hq ((c0.1 46 26 (by omega)).trans h2) b (fun h17 => (c_X10_setOrder_L53 F 46 F 0 h17)) (by rw [hI_sI, if_pos ⟨rfl, rfl⟩]; rfl) (N := F) (by omega)
  rw [m0] at d4 d5
  have c1 : ChI (fun a i => (a = 46 ∧ i = 39) ∨ a = 77) (sI h 46 39 0) g := ⟨fun a i e => d2 a i (fun x => e (Or.inl x)) (fun x => e (Or.inr x)), d3⟩
  have c1' : ChI (fun a i => (a = 46 ∧ i = 39) ∨ a = 77 ∨ a = 78) h g := (c0.trans c1).mono (fun a i e => by omega)
  have mg : mm g = mm h := c1'.mm sc
  have le := fb_ct_le (bk (mm h) b) q
  have ho : ∀ j, j < fb_ct (bk (mm h) b) q → ob (mm h) b q j < 20 ∧ hI g 77 j = nI (ob (mm h) b q j) := fun j hj => by
    obtain ⟨k1, k2, k3⟩ := nth_ok hj
    have := d5 (nth (bk (mm h) b) q j) k1 k2
    rw [k3] at this
    exact ⟨by show nth (bk (mm h) b) q j < 20; omega, this⟩
  obtain ⟨g', f1, f2, f3⟩ := m_setO_L53 F (h := g) (c1'.fx I) hF (n := fb_ct (bk (mm h) b) q) (by omega) (ob (mm h) b q) d4 ho
  rw [mg] at f3
  refine ⟨g', ?_, (c1'.trans f2).mono (fun a i e => by omega), ?_, fun j hj => ?_, f3⟩
  · unfold c_X10_setOrder
    rw [fT46 I, if_pos rfl]
    dsimp only [lt_]
    rw [d1, f1]
  · rw [f2.1 46 39 (by omega)]; exact d4
  · rw [f2.1 77 j (by omega)]; exact (ho j hj).2
end OpsN
