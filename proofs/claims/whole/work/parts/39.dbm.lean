section Dbm
theorem fea_iff (M : Nat → Nat → Int32) (q sl : Nat) (w : Nat → Bool) : fea M q sl w = true ↔ ∀ a b, a < q → b < q → Rch (ahd M) q a b → y0 M w a + y1 M sl w b ≤ 1999 := by
  unfold fea
  rw [decide_eq_true_iff]
  constructor
  · intro h a b ha hb r
    have f1 : y0 M w a ≤ yl M q w b := r (fun v => y0 M w a ≤ yl M q w v) ((yl_F M q w).1 a ha) (fun x y hx hy p e => Nat.le_trans p ((yl_F M q w).2.1 x y hx hy e))
    have f2 := (yu_F M q sl w).1 b hb
    have := h b hb
    omega
  · intro h v hv
    obtain ⟨a, ha, r, e⟩ := (yl_F M q w).2.2 v hv
    obtain ⟨b, hb, r2, e2⟩ := (yu_F M q sl w).2.2 v hv
    rw [e, e2]
    exact h a b ha hb (r.trans r2.flip)
theorem rch_wr {e : Nat → Nat → Bool} {q a b : Nat} (r : Rch e q a b) : a = b ∨ wr e q a b = true :=
  r (fun v => a = v ∨ wr e q a v = true) (Or.inl rfl) (fun b c hb _ p h => Or.inr (by
    rcases p with p | p
    · rw [p]; exact wr_sub h q
    · exact wr_tr e q a c b hb p (wr_sub h q)))
/-- a span that can't hold beside what holds without any -/
def surS (M : Nat → Nat → Int32) (q sl s : Nat) : Bool := decide (1999 < ix (M 72 s) + yu M q sl (fun _ => true) s ∨ ix (M 73 s) < yl M q (fun _ => true) s)
/-- two spans that can't both hold -/
def clS (M : Nat → Nat → Int32) (q s t : Nat) : Bool := wr (ahd M) q s t && decide (ix (M 73 t) < ix (M 72 s))
theorem y0_t (M : Nat → Nat → Int32) (s : Nat) : y0 M (fun _ => true) s = yL M s := y0_no (by rw [Bool.not_true, Bool.and_false]; decide)
theorem y1_t (M : Nat → Nat → Int32) (sl s : Nat) : y1 M sl (fun _ => true) s = yU M sl s := y1_no (by rw [Bool.not_true, Bool.and_false]; decide)
theorem y0_ge (M : Nat → Nat → Int32) (w : Nat → Bool) (s : Nat) : yL M s ≤ y0 M w s := by
  unfold y0
  split
  · exact Nat.le_max_left _ _
  · exact Nat.le_refl _
theorem y1_ge (M : Nat → Nat → Int32) (sl : Nat) (w : Nat → Bool) (s : Nat) : yU M sl s ≤ y1 M sl w s := by
  unfold y1
  split
  · exact Nat.le_max_left _ _
  · exact Nat.le_refl _
theorem fea_base {M : Nat → Nat → Int32} {q sl : Nat} {w : Nat → Bool} (h : fea M q sl w = true) : fea M q sl (fun _ => true) = true := by
  rw [fea_iff] at h ⊢
  intro a b ha hb r
  have := h a b ha hb r
  have g1 := y0_ge M w a
  have g2 := y1_ge M sl w b
  rw [y0_t, y1_t]
  omega
theorem fea_ok {M : Nat → Nat → Int32} {q sl : Nat} {w : Nat → Bool} (h1 : fea M q sl (fun _ => true) = true) (hv : ∀ s, s < q → sp M s = true → ix (M 72 s) ≤ ix (M 73 s) ∧ ix (M 73 s) ≤ 1999) : fea M q sl w = true ↔ ∀ s, s < q → sp M s = true → w s = false → surS M q sl s = false ∧ ∀ t, t < q → sp M t = true → w t = false → clS M q s t = false := by
  have kept : ∀ s, sp M s = true → w s = false → y0 M w s = max (yL M s) (ix (M 72 s)) ∧ y1 M sl w s = max (yU M sl s) (1999 - ix (M 73 s)) := fun s e1 e2 => ⟨y0_yes (by rw [e1, e2]; rfl), y1_yes (by rw [e1, e2]; rfl)⟩
  have F1 := yl_F M q (fun _ => true)
  have F2 := yu_F M q sl (fun _ => true)
  constructor
  · intro h s hs e1 e2
    rw [fea_iff] at h
    obtain ⟨k1, k2⟩ := kept s e1 e2
    have m1 := Nat.le_max_right (yL M s) (ix (M 72 s))
    have m2 := Nat.le_max_right (yU M sl s) (1999 - ix (M 73 s))
    refine ⟨?_, fun t ht e3 e4 => ?_⟩
    · unfold surS
      rw [decide_eq_false_iff_not]
      intro c
      rcases c with c | c
      · obtain ⟨b, hb, r, eb⟩ := F2.2.2 s hs
        rw [eb, y1_t] at c
        have := h s b hs hb r.flip
        have := y1_ge M sl w b
        omega
      · obtain ⟨a, ha, r, ea⟩ := F1.2.2 s hs
        rw [ea, y0_t] at c
        have := h a s ha hs r
        have := y0_ge M w a
        have := hv s hs e1
        omega
    · unfold clS
      rw [Bool.and_eq_false_iff]
      by_cases c : wr (ahd M) q s t = true
      · right
        rw [decide_eq_false_iff_not]
        intro c2
        obtain ⟨k3, k4⟩ := kept t e3 e4
        have m3 := Nat.le_max_right (yU M sl t) (1999 - ix (M 73 t))
        have := h s t hs ht (wr_rch q s t (Nat.le_refl _) hs ht c)
        have := hv t ht e3
        omega
      · left
        cases x : wr (ahd M) q s t with
        | true => exact absurd x c
        | false => rfl
  · intro h
    rw [fea_iff]
    intro a b ha hb r
    have base := (fea_iff M q sl (fun _ => true)).mp h1 a b ha hb r
    rw [y0_t, y1_t] at base
    have bu : yU M sl b ≤ yu M q sl (fun _ => true) a := by
      have := r.flip (fun v => yU M sl b ≤ yu M q sl (fun _ => true) v) (by have := F2.1 b hb; rw [y1_t] at this; exact this) (fun x y hx hy p e => Nat.le_trans p (F2.2.1 x y hx hy e))
      exact this
    have bl : yL M a ≤ yl M q (fun _ => true) b := r (fun v => yL M a ≤ yl M q (fun _ => true) v) (by have := F1.1 a ha; rw [y0_t] at this; exact this) (fun x y hx hy p e => Nat.le_trans p (F1.2.1 x y hx hy e))
    have ca : y0 M w a = yL M a ∨ (sp M a = true ∧ w a = false ∧ y0 M w a = max (yL M a) (ix (M 72 a))) := by
      by_cases c : (sp M a && !w a) = true
      · right
        rw [Bool.and_eq_true, Bool.not_eq_true'] at c
        exact ⟨c.1, c.2, (kept a c.1 c.2).1⟩
      · exact Or.inl (y0_no c)
    have cb : y1 M sl w b = yU M sl b ∨ (sp M b = true ∧ w b = false ∧ y1 M sl w b = max (yU M sl b) (1999 - ix (M 73 b))) := by
      by_cases c : (sp M b && !w b) = true
      · right
        rw [Bool.and_eq_true, Bool.not_eq_true'] at c
        exact ⟨c.1, c.2, (kept b c.1 c.2).2⟩
      · exact Or.inl (y1_no c)
    have sa : sp M a = true → w a = false → ix (M 72 a) + yU M sl b ≤ 1999 := fun e1 e2 => by
      have := (h a ha e1 e2).1
      unfold surS at this
      rw [decide_eq_false_iff_not] at this
      omega
    have sb : sp M b = true → w b = false → yL M a + (1999 - ix (M 73 b)) ≤ 1999 := fun e1 e2 => by
      have := (h b hb e1 e2).1
      unfold surS at this
      rw [decide_eq_false_iff_not] at this
      omega
    have sab : sp M a = true → w a = false → sp M b = true → w b = false → ix (M 72 a) + (1999 - ix (M 73 b)) ≤ 1999 := fun e1 e2 e3 e4 => by
      rcases rch_wr r with x | x
      · subst x
        have := hv a ha e1
        omega
      · have := (h a ha e1 e2).2 b hb e3 e4
        unfold clS at this
        rw [x, Bool.true_and, decide_eq_false_iff_not] at this
        have := hv b hb e3
        omega
    rcases ca with ea | ⟨e1, e2, ea⟩
    · rcases cb with eb | ⟨e3, e4, eb⟩
      · omega
      · have := sb e3 e4
        rw [ea, eb, Nat.max_def]
        split <;> omega
    · rcases cb with eb | ⟨e3, e4, eb⟩
      · have := sa e1 e2
        rw [ea, eb, Nat.max_def]
        split <;> omega
      · have g1 := sa e1 e2
        have g2 := sb e3 e4
        have g3 := sab e1 e2 e3 e4
        rw [ea, eb, Nat.max_def, Nat.max_def]
        split <;> split <;> omega
/-! sets of chosen ones, by their numbers among them -/
def spL (p : Nat → Bool) : Nat → Nat → Nat
  | 0, _ => 0
  | q + 1, D => if p 0 = true then D % 2 + 2 * spL (fun i => p (i + 1)) q (D / 2) else 2 * spL (fun i => p (i + 1)) q D
end Dbm
section Dbm2
theorem ct_sh (p : Nat → Bool) (s : Nat) : fb_ct p (s + 1) = (if p 0 = true then 1 else 0) + fb_ct (fun i => p (i + 1)) s := by
  have := fb_ct_split p 1 s
  rw [Nat.add_comm 1 s] at this
  rw [this]
  congr 1
  · show 0 + (if p 0 = true then 1 else 0) = _
    omega
  · exact fb_ct_cong (fun k _ => by rw [Nat.add_comm])
theorem and2 (x y a b : Nat) (ha : a < 2) (hb : b < 2) : (a + 2 * x) &&& (b + 2 * y) = (a &&& b) + 2 * (x &&& y) := by
  apply Nat.eq_of_testBit_eq
  intro i
  have lt : a &&& b < 2 := Nat.lt_of_le_of_lt Nat.and_le_left ha
  cases i with
  | zero =>
    rw [Nat.testBit_and, Nat.testBit_zero, Nat.testBit_zero, Nat.testBit_zero]
    have : a = 0 ∨ a = 1 := by omega
    have : b = 0 ∨ b = 1 := by omega
    rcases ‹a = 0 ∨ a = 1› with rfl | rfl <;> rcases ‹b = 0 ∨ b = 1› with rfl | rfl <;> simp <;> omega
  | succ i =>
    rw [Nat.testBit_and, Nat.testBit_succ, Nat.testBit_succ, Nat.testBit_succ, show (a + 2 * x) / 2 = x by omega, show (b + 2 * y) / 2 = y by omega, show ((a &&& b) + 2 * (x &&& y)) / 2 = x &&& y by omega, Nat.testBit_and]
theorem spL_tb : ∀ (q : Nat) (p : Nat → Bool) (D s : Nat), (spL p q D).testBit s = (decide (s < q) && (p s && D.testBit (fb_ct p s)))
  | 0, p, D, s => by
    show (0 : Nat).testBit s = _
    rw [Nat.zero_testBit, decide_eq_false (by omega)]; rfl
  | q + 1, p, D, 0 => by
    rw [decide_eq_true (by omega), Bool.true_and]
    show (spL p (q + 1) D).testBit 0 = (p 0 && D.testBit 0)
    rw [spL, Nat.testBit_zero]
    by_cases c : p 0 = true
    · rw [if_pos c, c, Bool.true_and, Nat.testBit_zero, show (D % 2 + 2 * spL (fun i => p (i + 1)) q (D / 2)) % 2 = D % 2 by omega]
    · have cf : p 0 = false := by cases x : p 0 with | true => exact absurd x c | false => rfl
      rw [if_neg c, cf, Bool.false_and, show (2 * spL (fun i => p (i + 1)) q D) % 2 = 0 by omega]; rfl
  | q + 1, p, D, s + 1 => by
    have ds : decide (s + 1 < q + 1) = decide (s < q) := by
      by_cases c : s < q
      · rw [decide_eq_true c, decide_eq_true (by omega)]
      · rw [decide_eq_false c, decide_eq_false (by omega)]
    rw [ds, spL, Nat.testBit_succ, ct_sh]
    by_cases c : p 0 = true
    · rw [if_pos c, if_pos c, show (D % 2 + 2 * spL (fun i => p (i + 1)) q (D / 2)) / 2 = spL (fun i => p (i + 1)) q (D / 2) by omega, spL_tb q, Nat.add_comm 1, Nat.testBit_succ]
    · rw [if_neg c, if_neg c, show (2 * spL (fun i => p (i + 1)) q D) / 2 = spL (fun i => p (i + 1)) q D by omega, spL_tb q, Nat.zero_add]
theorem spL_0 : ∀ (q : Nat) (p : Nat → Bool), spL p q 0 = 0
  | 0, _ => rfl
  | q + 1, p => by
    rw [spL]
    split
    · rw [show 0 / 2 = 0 from rfl, spL_0 q]
    · rw [spL_0 q]
theorem spL_mono : ∀ (q : Nat) (p : Nat → Bool) (D E : Nat), D < E → E < 2 ^ fb_ct p q → spL p q D < spL p q E
  | 0, p, D, E, h1, h2 => by
    have : fb_ct p 0 = 0 := rfl
    rw [this] at h2
    omega
  | q + 1, p, D, E, h1, h2 => by
    rw [ct_sh] at h2
    rw [spL, spL]
    by_cases c : p 0 = true
    · rw [if_pos c] at h2
      rw [if_pos c, if_pos c]
      have h3 : E / 2 < 2 ^ fb_ct (fun i => p (i + 1)) q := by
        rw [Nat.add_comm, Nat.pow_succ] at h2
        omega
      by_cases e : D / 2 < E / 2
      · have := spL_mono q (fun i => p (i + 1)) (D / 2) (E / 2) e h3
        omega
      · have : D / 2 = E / 2 := by omega
        rw [this]
        omega
    · rw [if_neg c, Nat.zero_add] at h2
      rw [if_neg c, if_neg c]
      have := spL_mono q (fun i => p (i + 1)) D E h1 h2
      omega
theorem spL_sub : ∀ (q : Nat) (p : Nat → Bool) (D : Nat), spL p q D &&& spL p q (2 ^ fb_ct p q - 1) = spL p q D := by
  intro q p D
  apply Nat.eq_of_testBit_eq
  intro i
  rw [Nat.testBit_and, spL_tb, spL_tb]
  by_cases c : i < q
  · rw [decide_eq_true c, Bool.true_and, Bool.true_and]
    cases x : p i with
    | false => rfl
    | true =>
      have t2 : fb_ct p (i + 1) = fb_ct p i + 1 := by rw [fb_ct_succ, if_pos x]
      have t3 : fb_ct p (i + 1) ≤ fb_ct p q := fb_ct_mono _ (by omega)
      rw [Nat.testBit_two_pow_sub_one, decide_eq_true (by omega)]; simp
  · rw [decide_eq_false c]; rfl
theorem spL_prev : ∀ (q : Nat) (p : Nat → Bool) (D : Nat), 0 < D → D < 2 ^ fb_ct p q → (spL p q D - 1) &&& spL p q (2 ^ fb_ct p q - 1) = spL p q (D - 1)
  | 0, p, D, h1, h2 => by
    have : fb_ct p 0 = 0 := rfl
    rw [this] at h2
    omega
  | q + 1, p, D, h1, h2 => by
    have key := spL_mono q (fun i => p (i + 1)) 0
    rw [spL_0] at key
    rw [ct_sh] at h2 ⊢
    by_cases c : p 0 = true
    · rw [if_pos c] at h2 ⊢
      have hp : 0 < 2 ^ fb_ct (fun i => p (i + 1)) q := Nat.pow_pos (by decide)
      have e1 : 2 ^ (1 + fb_ct (fun i => p (i + 1)) q) = 2 * 2 ^ fb_ct (fun i => p (i + 1)) q := by rw [Nat.add_comm, Nat.pow_succ, Nat.mul_comm]
      rw [e1] at h2 ⊢
      have h3 : D / 2 < 2 ^ fb_ct (fun i => p (i + 1)) q := by omega
      rw [spL, spL, spL, if_pos c, if_pos c, if_pos c, show (2 * 2 ^ fb_ct (fun i => p (i + 1)) q - 1) % 2 = 1 by omega, show (2 * 2 ^ fb_ct (fun i => p (i + 1)) q - 1) / 2 = 2 ^ fb_ct (fun i => p (i + 1)) q - 1 by omega]
      by_cases o : D % 2 = 1
      · rw [o, show (D - 1) % 2 = 0 by omega, show (D - 1) / 2 = D / 2 by omega, show 1 + 2 * spL (fun i => p (i + 1)) q (D / 2) - 1 = 0 + 2 * spL (fun i => p (i + 1)) q (D / 2) by omega, and2 _ _ _ _ (by decide) (by decide), spL_sub]
        rfl
      · have k := key (D / 2) (by omega) h3
        have ih := spL_prev q (fun i => p (i + 1)) (D / 2) (by omega) h3
        rw [show D % 2 = 0 by omega, show (D - 1) % 2 = 1 by omega, show (D - 1) / 2 = D / 2 - 1 by omega, show 0 + 2 * spL (fun i => p (i + 1)) q (D / 2) - 1 = 1 + 2 * (spL (fun i => p (i + 1)) q (D / 2) - 1) by omega, and2 _ _ _ _ (by decide) (by decide), ih]
        rfl
    · rw [if_neg c, Nat.zero_add] at h2 ⊢
      have k := key D h1 h2
      have ih := spL_prev q (fun i => p (i + 1)) D h1 h2
      have z := and2 (spL (fun i => p (i + 1)) q D - 1) (spL (fun i => p (i + 1)) q (2 ^ fb_ct (fun i => p (i + 1)) q - 1)) 1 0 (by decide) (by decide)
      rw [spL, spL, spL, if_neg c, if_neg c, if_neg c, show 2 * spL (fun i => p (i + 1)) q D - 1 = 1 + 2 * (spL (fun i => p (i + 1)) q D - 1) by omega]
      rw [Nat.zero_add, ih] at z
      rw [z]
      show 0 + _ = _
      rw [Nat.zero_add]
theorem ct_sel (p g : Nat → Bool) : ∀ q, fb_ct (fun s => p s && g (fb_ct p s)) q = fb_ct g (fb_ct p q)
  | 0 => rfl
  | q + 1 => by
    rw [fb_ct_succ, ct_sel p g q, fb_ct_succ p q]
    by_cases c : p q = true
    · rw [if_pos c, fb_ct_succ, c, Bool.true_and]
    · have cf : p q = false := by cases x : p q with | true => exact absurd x c | false => rfl
      rw [if_neg c, cf, Bool.false_and, if_neg (by decide), Nat.add_zero, Nat.add_zero]
theorem ct_past {g : Nat → Bool} {n : Nat} (h : ∀ k, n ≤ k → g k = false) : ∀ m, n ≤ m → fb_ct g m = fb_ct g n := by
  intro m hm
  obtain ⟨d, rfl⟩ : ∃ d, m = n + d := ⟨m - n, by omega⟩
  clear hm
  induction d with
  | zero => rfl
  | succ d ih =>
    rw [← Nat.add_assoc, fb_ct_succ, ih, h (n + d) (by omega), if_neg (by decide), Nat.add_zero]
theorem spL_pc {p : Nat → Bool} {q D : Nat} (hq : q ≤ 20) (hD : D < 2 ^ fb_ct p q) : pcn (spL p q D) 20 = pcn D 20 := by
  have e1 : pcn (spL p q D) 20 = fb_ct (fun s => p s && D.testBit (fb_ct p s)) q := by
    unfold pcn
    rw [ct_past (n := q) (fun k hk => by rw [spL_tb, decide_eq_false (by omega)]; rfl) 20 hq]
    exact fb_ct_cong (fun k hk => by rw [spL_tb, decide_eq_true hk, Bool.true_and])
  have l := fb_ct_le p q
  rw [e1, ct_sel p (fun i => D.testBit i)]
  unfold pcn
  rw [ct_past (g := fun i => D.testBit i) (n := fb_ct p q) (fun k hk => tb_big hD hk) 20 (by omega)]
theorem spL_lt {p : Nat → Bool} {q D : Nat} (hq : q ≤ 20) : spL p q D < 1048576 := by
  apply Nat.lt_of_not_le
  intro c
  obtain ⟨i, hi, e⟩ := Nat.exists_ge_and_testBit_of_ge_two_pow (n := 20) c
  rw [spL_tb, decide_eq_false (by omega)] at e
  cases e
theorem sub_iff (a b : Nat) : sub_ a b = true ↔ ∀ i, a.testBit i = true → b.testBit i = true := by
  unfold sub_
  rw [decide_eq_true_iff]
  constructor
  · intro e i h
    have := congrArg (fun x => x.testBit i) e
    simp only [Nat.testBit_and, h, Bool.true_and] at this
    exact this
  · intro h
    apply Nat.eq_of_testBit_eq
    intro i
    rw [Nat.testBit_and]
    cases x : a.testBit i with
    | false => rfl
    | true => rw [h i x]; rfl
def ds (M : Nat → Nat → Int32) (q k : Nat) : Nat := nth (sp M) q k
def suD (M : Nat → Nat → Int32) (q sl n : Nat) : Nat := bset (fun k => surS M q sl (ds M q k)) n
def crow (M : Nat → Nat → Int32) (q n k : Nat) : Nat := bset (fun j => clS M q (ds M q k) (ds M q j)) n
def okD (M : Nat → Nat → Int32) (q sl n D : Nat) : Prop := sub_ (suD M q sl n) D = true ∧ ∀ k, k < n → D.testBit k = false → sub_ (crow M q n k) D = true
theorem okD_fea {M : Nat → Nat → Int32} {q sl D : Nat} (h1 : fea M q sl (fun _ => true) = true) (hv : ∀ s, s < q → sp M s = true → ix (M 72 s) ≤ ix (M 73 s) ∧ ix (M 73 s) ≤ 1999) : okD M q sl (fb_ct (sp M) q) D ↔ fea M q sl (fun s => (spL (sp M) q D).testBit s) = true := by
  rw [fea_ok h1 hv]
  have W : ∀ s, s < q → sp M s = true → (spL (sp M) q D).testBit s = D.testBit (fb_ct (sp M) s) := fun s hs e => by rw [spL_tb, decide_eq_true hs, e, Bool.true_and, Bool.true_and]
  have at_ : ∀ s, s < q → sp M s = true → ds M q (fb_ct (sp M) s) = s ∧ fb_ct (sp M) s < fb_ct (sp M) q := fun s hs e => by
    refine ⟨nth_at e rfl q hs, ?_⟩
    have t2 : fb_ct (sp M) (s + 1) = fb_ct (sp M) s + 1 := by rw [fb_ct_succ, if_pos e]
    have t3 : fb_ct (sp M) (s + 1) ≤ fb_ct (sp M) q := fb_ct_mono _ (by omega)
    omega
  have nf : ∀ b : Bool, ¬ b = true → b = false := fun b h => by cases b with | true => exact absurd rfl h | false => rfl
  unfold okD suD crow
  rw [sub_iff]
  constructor
  · intro ⟨a1, a2⟩ s hs e1 e2
    rw [W s hs e1] at e2
    obtain ⟨n1, n2⟩ := at_ s hs e1
    refine ⟨nf _ (fun c => ?_), fun t ht e3 e4 => nf _ (fun c => ?_)⟩
    · have := a1 (fb_ct (sp M) s) (by rw [bset_tb, decide_eq_true n2, n1, c]; rfl)
      rw [e2] at this; cases this
    · rw [W t ht e3] at e4
      obtain ⟨n3, n4⟩ := at_ t ht e3
      have := (sub_iff _ _).mp (a2 (fb_ct (sp M) s) n2 e2) (fb_ct (sp M) t) (by rw [bset_tb, decide_eq_true n4, n1, n3, c]; rfl)
      rw [e4] at this; cases this
  · intro h
    refine ⟨fun k hk => ?_, fun k hk e => ?_⟩
    · rw [bset_tb, Bool.and_eq_true, decide_eq_true_iff] at hk
      obtain ⟨k1, k2, k3⟩ : ds M q k < q ∧ sp M (ds M q k) = true ∧ fb_ct (sp M) (ds M q k) = k := nth_ok hk.1
      apply Classical.byContradiction
      intro c
      have := (h (ds M q k) k1 k2 (by rw [W _ k1 k2]; exact (congrArg _ k3).trans (nf _ c))).1
      rw [hk.2] at this; cases this
    · rw [sub_iff]
      intro j hj
      rw [bset_tb, Bool.and_eq_true, decide_eq_true_iff] at hj
      obtain ⟨k1, k2, k3⟩ : ds M q k < q ∧ sp M (ds M q k) = true ∧ fb_ct (sp M) (ds M q k) = k := nth_ok hk
      obtain ⟨j1, j2, j3⟩ : ds M q j < q ∧ sp M (ds M q j) = true ∧ fb_ct (sp M) (ds M q j) = j := nth_ok hj.1
      apply Classical.byContradiction
      intro c
      have wk : (spL (sp M) q D).testBit (ds M q k) = false := by rw [W _ k1 k2]; exact (congrArg _ k3).trans e
      have wj : (spL (sp M) q D).testBit (ds M q j) = false := by rw [W _ j1 j2]; exact (congrArg _ j3).trans (nf _ c)
      have := (h _ k1 k2 wk).2 _ j1 j2 wj
      rw [hj.2] at this; cases this
end Dbm2
