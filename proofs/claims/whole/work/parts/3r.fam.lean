section Fam
variable {h : z_Hp} (F : Nat) (x1 x2 x3 x4 x5 : Int32)
/-- f 0 and on, brought together -/
def gs (op : Nat → Nat → Nat) (e : Nat) (f : Nat → Nat) : Nat → Nat
  | 0 => e
  | n + 1 => op (gs op e f n) (f n)
theorem gs_cg {op : Nat → Nat → Nat} {e : Nat} {f g : Nat → Nat} : ∀ {n : Nat}, (∀ k, k < n → f k = g k) → gs op e f n = gs op e g n
  | 0, _ => rfl
  | n + 1, c => by
    show op (gs op e f n) (f n) = op (gs op e g n) (g n)
    rw [gs_cg (fun k hk => c k (by omega)), c n (by omega)]
/-- one place more -/
theorem gs_pt {op : Nat → Nat → Nat} {e : Nat} (as : ∀ a b c, op (op a b) c = op a (op b c)) (cm : ∀ a b, op a b = op b a) (id_ : ∀ a, op a e = a) {f g : Nat → Nat} {a : Nat} (ne : ∀ k, ¬ k = a → g k = f k) (fa : f a = e) : ∀ {n : Nat}, a < n → gs op e g n = op (gs op e f n) (g a)
  | 0, h => by omega
  | n + 1, h => by
    show op (gs op e g n) (g n) = op (op (gs op e f n) (f n)) (g a)
    by_cases c : a = n
    · subst c
      rw [fa, id_, gs_cg (f := g) (g := f) (fun k hk => ne k (by omega))]
    · rw [gs_pt as cm id_ ne fa (show a < n by omega), ne n (fun y => c y.symm), as, as, cm (g a)]
/-- b tells the members in another order, r where -/
theorem gs_rk {op : Nat → Nat → Nat} {e : Nat} (as : ∀ a b c, op (op a b) c = op a (op b c)) (cm : ∀ a b, op a b = op b a) (id_ : ∀ a, op a e = a) {q n : Nat} {m : Nat → Bool} {b r : Nat → Nat} (hb : ∀ j, j < n → b j < q ∧ m (b j) = true ∧ r (b j) = j) (hr : ∀ t, t < q → m t = true → b (r t) = t) (f : Nat → Nat) : ∀ i, i ≤ n → gs op e (fun j => f (b j)) i = gs op e (fun t => if m t = true ∧ r t < i then f t else e) q
  | 0, _ => by
    have z : ∀ q, gs op e (fun _ => e) q = e := fun q => by
      induction q with
      | zero => rfl
      | succ q ih => show op (gs op e (fun _ => e) q) e = e; rw [ih, id_]
    rw [gs_cg (g := fun _ => e) (fun k _ => if_neg (by omega)), z]; rfl
  | i + 1, hi => by
    obtain ⟨b1, b2, b3⟩ := hb i (by omega)
    show op (gs op e (fun j => f (b j)) i) (f (b i)) = _
    have key := gs_pt (op := op) (e := e) as cm id_ (f := fun t => if t < q ∧ m t = true ∧ r t < i then f t else e) (g := fun t => if t < q ∧ m t = true ∧ r t < i + 1 then f t else e) (a := b i) (fun k hk => ?_) (if_neg (by omega)) b1
    · rw [if_pos ⟨b1, b2, by omega⟩] at key
      rw [gs_rk as cm id_ hb hr f i (by omega)]
      rw [gs_cg (f := fun t => if m t = true ∧ r t < i + 1 then f t else e) (g := fun t => if t < q ∧ m t = true ∧ r t < i + 1 then f t else e) (fun k hk => ?_), key, gs_cg (f := fun t => if m t = true ∧ r t < i then f t else e) (g := fun t => if t < q ∧ m t = true ∧ r t < i then f t else e) (fun k hk => ?_)]
      · by_cases c : m k = true ∧ r k < i
        · rw [if_pos c, if_pos ⟨hk, c.1, c.2⟩]
        · rw [if_neg c, if_neg (fun y => c y.2)]
      · by_cases c : m k = true ∧ r k < i + 1
        · rw [if_pos c, if_pos ⟨hk, c.1, c.2⟩]
        · rw [if_neg c, if_neg (fun y => c y.2)]
    · show (if k < q ∧ m k = true ∧ r k < i + 1 then f k else e) = (if k < q ∧ m k = true ∧ r k < i then f k else e)
      by_cases c : k < q ∧ m k = true ∧ r k < i
      · rw [if_pos c, if_pos ⟨c.1, c.2.1, by omega⟩]
      · rw [if_neg c, if_neg]
        intro y
        obtain ⟨y1, y2, y3⟩ := y
        have : ¬ r k < i := fun z => c ⟨y1, y2, z⟩
        have e2 : r k = i := by omega
        have := hr k y1 y2
        rw [e2] at this
        exact hk this.symm
/-- the song of a sheet -/
def so (h : z_Hp) (s : Nat) : Nat := ix (hI h 67 s)
theorem so_ok {ow : Ow} {s a : Nat} (w : shAt ow h s a) : hI h 67 s = nI (so h s) ∧ so h s < 10 ∧ hI h a 2 = nI (so h s) := by
  obtain ⟨w1, w2, w3, w4, w5, w6, w7, w8, w9, w10, w11, w12, w13, w14, w15, w16, ⟨k, k1, k2⟩, w18⟩ := w
  have e : so h s = k := by unfold so; rw [k2]; exact ix_n (by omega)
  rw [e]
  exact ⟨k2, k1, w6.trans k2⟩
def AllS (h : z_Hp) (q D : Nat) : Prop := ∀ s, s < q → D.testBit s = true → ¬ hI h 53 (so h s) = -9
theorem x_set (I : Ifx h) {q : Nat} (hq : q ≤ 20) (h1 : hI h 14 1 = nI q) (x : Int32) : c_X9_isSetOfSheets F 5 x h = some (if 1 ≤ x.toInt ∧ x.toInt ≤ (2 ^ q : Nat) - 1 then 1 else 0, h) := by
  have p2 : 2 ^ q ≤ 2 ^ 20 := Nat.pow_le_pow_right (by decide) hq
  have p1 : 0 < 2 ^ q := Nat.pow_pos (by decide)
  have e20 : (2 : Nat) ^ 20 = 1048576 := by decide
  have z0 : x = 0 ↔ x.toInt = 0 := ⟨fun e => by rw [e]; rfl, fun e => Int32.toInt_inj.mp (by rw [e]; rfl)⟩
  unfold c_X9_isSetOfSheets c_X9_isBits
  simp only [fT5 I, fR5_6 I, fT14 I, if_true, ltq, nnq, h1, shl_1 q (by omega), fa_lt, fa_le, ti_0, toI_n (show 2 ^ q < 2147483648 by omega)]
  by_cases c0 : x = 0
  · rw [if_pos c0, if_neg (by rw [z0] at c0; omega)]
  · rw [if_neg c0]
    rw [z0] at c0
    by_cases c1 : x.toInt < 0
    · rw [if_pos c1, bI_some, ite00, if_neg (by omega)]
    · rw [if_neg c1]
      by_cases c2 : ((2 ^ q : Nat) : Int) ≤ x.toInt
      · rw [if_pos c2, bI_some, ite00, if_neg (by omega)]
      · rw [if_neg c2, bI_some, ite10, if_pos (by omega)]
theorem m_set (I : Ifx h) (hF : 5000 ≤ F) {q : Nat} (hq : q ≤ 20) (h2 : hI h 46 26 = nI q) {D : Nat} (hD : D < 1048576) (d1 : 1 ≤ D) (d2 : D < 2 ^ q) : c_X10_askedSet F 46 (nI D) h = some (if pcn D 20 ≤ 10 then 0 else -6, h) := by
  have p2 : 2 ^ q ≤ 2 ^ 20 := Nat.pow_le_pow_right (by decide) hq
  have e20 : (2 : Nat) ^ 20 = 1048576 := by decide
  have pl : pcn D 20 ≤ 20 := fb_ct_le _ _
  unfold c_X10_askedSet
  rw [fT46 I, if_pos rfl, h2, shl_1 q (by omega), show nI (2 ^ q) - 1 = nI (2 ^ q - 1) from nI_sub (b := 1) (by omega), m_in, bI_some, ti_1, toI_n (by omega), toI_n (by omega), if_pos (show (1 : Int) ≤ (D : Int) ∧ (D : Int) ≤ ((2 ^ q - 1 : Nat) : Int) by omega), ite10, m_bits F (by omega) hF, bI_some]
  by_cases c : pcn D 20 ≤ 10
  · rw [if_pos (show nI (pcn D 20) ≤ 10 from nI_le (b := 10) c (by decide)), if_pos c]
  · rw [if_neg (show ¬ nI (pcn D 20) ≤ 10 from nI_ge (a := 10) (by omega) (by omega)), if_neg c]
theorem m_set_no (I : Ifx h) {q : Nat} (hq : q ≤ 20) (h2 : hI h 46 26 = nI q) {x : Int32} (c : ¬ (1 ≤ x.toInt ∧ x.toInt ≤ (2 ^ q : Nat) - 1)) : c_X10_askedSet F 46 x h = some (-1, h) := by
  have p2 : 2 ^ q ≤ 2 ^ 20 := Nat.pow_le_pow_right (by decide) hq
  have p1 : 0 < 2 ^ q := Nat.pow_pos (by decide)
  have e20 : (2 : Nat) ^ 20 = 1048576 := by decide
  unfold c_X10_askedSet
  rw [fT46 I, if_pos rfl, h2, shl_1 q (by omega), show nI (2 ^ q) - 1 = nI (2 ^ q - 1) from nI_sub (b := 1) (by omega), m_in, bI_some, ti_1, toI_n (by omega), if_neg (show ¬ ((1 : Int) ≤ x.toInt ∧ x.toInt ≤ ((2 ^ q - 1 : Nat) : Int)) by omega), ite00]
theorem x_haveS {ow : Ow} (I : Ifx h) (R : Rsng ow h) (hF : 5000 ≤ F) {q D : Nat} (hq : q ≤ 20) (h1 : hI h 14 1 = nI q) (h3 : Sh ow h q) (hD : D < 1048576) : Wp (c_X9_haveSongs F 5 (nI D) h) (fun r => r.2 = h ∧ ((AllS h q D ∧ r.1 = 1) ∨ (¬ AllS h q D ∧ r.1 = 0))) := by
  unfold c_X9_haveSongs
  refine Wp.loop (L := fun m (u : Int32) => c_X9_haveSongs_L2 F 5 (nI D) m u h) (N := q) (fun k u => u = nI k ∧ ∀ s, s < k → D.testBit s = true → ¬ hI h 53 (so h s) = -9) (fun m k u hk hP ih => ?_) (fun m u hP => ?_) F 0 (by omega) ⟨rfl, fun s hs => by omega⟩
  · obtain ⟨e1, e2⟩ := hP
    subst e1
    obtain ⟨a, a1, w⟩ := h3 k hk
    obtain ⟨s1, s2, s3⟩ := so_ok w
    have o15 : okA h 15 26 (nI k) = true := okA_n (fT15 I) (fN15 I) (by omega) (by decide)
    have o8 : okA h 8 25 (nI (so h k)) = true := okA_n (fT8 I) (fN8 I) (by omega) (by decide)
    rw [c_X9_haveSongs_L2, nI_1 k, ix_n (show k < 2147483648 by omega)]
    refine Wp.ifT (fT5 I) (Wp.ltO (Wp.rf (fR5_6 I) (Wp.ifT (fT14 I) (Wp.ifF (by rw [h1]; exact nI_ge hk (by omega)) (Wp.cIe (x_has F (by omega) (by omega)) (Wp.lj (fun j hj => ?_)))))))
    have go : (D.testBit k = true → ¬ hI h 53 (so h k) = -9) → Wp (j h) (fun r => r.2 = h ∧ ((AllS h q D ∧ r.1 = 1) ∨ (¬ AllS h q D ∧ r.1 = 0))) := fun c => by
      rw [hj]
      refine ih (nI (k + 1)) ⟨rfl, fun s hs => ?_⟩
      by_cases e : s = k
      · rw [e]; exact c
      · exact e2 s (by omega)
    by_cases c : D.testBit k = true
    · refine Wp.ifF (by rw [if_pos c]; exact one0) (Wp.ifT (fT5 I) (Wp.ltO (Wp.ifT (fT5 I) (Wp.ltO (Wp.rf (fR5_6 I) (Wp.ifT (fT14 I) (Wp.ltO (Wp.rf (fR14_0 I) (Wp.ifT o15 (Wp.ltO (Wp.rf a1 (Wp.ifT w.1 (Wp.rf (fR5_2 I) ?_)))))))))))))
      rw [s3, ix_n (show so h k < 2147483648 by omega)]
      refine Wp.ifT o8 (Wp.ltO ?_)
      rcases R _ s2 with ⟨y1, y2⟩ | ⟨n, b, n60, y1, y2, _⟩
      · exact Wp.rz y2 (Wp.ret ⟨rfl, Or.inr ⟨fun A => A k hk c y1, rfl⟩⟩)
      · exact Wp.rs y2 (go (fun _ => by rw [y1]; exact enc9 (by omega)))
    · exact Wp.ifT (by rw [if_neg c]) (go (fun y => absurd y c))
  · obtain ⟨e1, e2⟩ := hP
    subst e1
    rw [c_X9_haveSongs_L2]
    exact Wp.ifT (fT5 I) (Wp.ltO (Wp.rf (fR5_6 I) (Wp.ifT (fT14 I) (Wp.ifT (by rw [h1]; exact nI_le (Nat.le_refl _) (by omega)) (Wp.ret ⟨rfl, Or.inl ⟨e2, rfl⟩⟩)))))
/-- what the reference reads of the songs of sheets -/
def RefS (h : z_Hp) (q : Nat) : Prop := ∀ s, s < q → hI h 67 s = nI (so h s) ∧ so h s < 10 ∧ (hI h 53 (so h s) = -9 ∨ ∃ n g, SgM h (so h s) n g)
theorem Sh.refS {ow : Ow} {q : Nat} (S : Sh ow h q) (R : Rsng ow h) : RefS h q := fun s hs => by
  obtain ⟨a, _, w⟩ := S s hs
  obtain ⟨s1, s2, _⟩ := so_ok w
  refine ⟨s1, s2, ?_⟩
  rcases R.x s2 with ⟨y, _⟩ | ⟨n, _, _, g, _, _, _, M, _⟩
  · exact Or.inl y
  · exact Or.inr ⟨n, g, M⟩
theorem m_haveS (I : Ifx h) (hF : 5000 ≤ F) {q D : Nat} (hq : q ≤ 20) (h2 : hI h 46 26 = nI q) (R : RefS h q) (hD : D < 1048576) : Wp (c_X10_hasSongs F 46 (nI D) h) (fun r => r.2 = h ∧ ((AllS h q D ∧ r.1 = 1) ∨ (¬ AllS h q D ∧ r.1 = 0))) := by
  unfold c_X10_hasSongs
  refine Wp.loop (L := fun m (u : Int32 × Int32) => c_X10_hasSongs_L4 F 46 (nI D) m u.1 u.2 h) (N := q) (fun k u => u.2 = nI k ∧ ((u.1 = 1 ∧ ∀ s, s < k → D.testBit s = true → ¬ hI h 53 (so h s) = -9) ∨ (u.1 = 0 ∧ ¬ AllS h q D))) (fun m k u hk hP ih => ?_) (fun m u hP => ?_) F (1, 0) (by omega) ⟨rfl, Or.inl ⟨rfl, fun s hs => by omega⟩⟩
  · obtain ⟨u1, u2⟩ := u
    obtain ⟨e1, e2⟩ := hP
    dsimp only at e1 e2 ⊢
    subst e1
    obtain ⟨s1, s2, s3⟩ := R k hk
    have o67 : okA h 67 20 (nI k) = true := okA_n (fT67 I) (fN67 I) (by omega) (by decide)
    have o53 : okA h 53 20 (nI (so h k)) = true := okA_n (fT53 I) (fN53 I) (by omega) (by decide)
    rw [c_X10_hasSongs_L4, nI_1 k, ix_n (show k < 2147483648 by omega)]
    refine Wp.ifT (fT46 I) (Wp.ifF (by rw [h2]; exact nI_ge hk (by omega)) (Wp.lj (fun jA hjA => Wp.lj (fun jB hjB => ?_))))
    have no : ¬ AllS h q D → Wp (jB h) (fun r => r.2 = h ∧ ((AllS h q D ∧ r.1 = 1) ∨ (¬ AllS h q D ∧ r.1 = 0))) := fun c => by
      rw [hjB, hjA]
      exact ih (0, nI (k + 1)) ⟨rfl, Or.inr ⟨rfl, c⟩⟩
    rcases e2 with ⟨e1, e2⟩ | ⟨e1, e2⟩
    · subst e1
      refine Wp.ifF one0 (Wp.cIe (m_has F (by omega) (by omega)) (Wp.lj (fun jC hjC => ?_)))
      have go : (D.testBit k = true → ¬ hI h 53 (so h k) = -9) → Wp (jC h) (fun r => r.2 = h ∧ ((AllS h q D ∧ r.1 = 1) ∨ (¬ AllS h q D ∧ r.1 = 0))) := fun c => by
        rw [hjC, hjA]
        refine ih (1, nI (k + 1)) ⟨rfl, Or.inl ⟨rfl, fun s hs => ?_⟩⟩
        by_cases e : s = k
        · rw [e]; exact c
        · exact e2 s (by omega)
      by_cases c : D.testBit k = true
      · refine Wp.ifF (by rw [if_pos c]; exact one0) (Wp.ifT (fT46 I) (Wp.ltO (Wp.ifT (fT46 I) (Wp.ltO (Wp.rf (fR46_29 I) (Wp.ifT o67 (Wp.rf (fR46_12 I) ?_)))))))
        rw [s1, ix_n (show so h k < 2147483648 by omega)]
        refine Wp.ifT o53 ?_
        rcases s3 with y | ⟨n, g, M⟩
        · exact Wp.ifT (by rw [y]; exact neg9) (no (fun A => A k hk c y))
        · have n60 := M.2.1
          exact Wp.ifF (by rw [M.2.2.1]; exact pnI (by omega)) (go (fun _ => by rw [M.2.2.1]; exact enc9 (by omega)))
      · exact Wp.ifT (by rw [if_neg c]) (go (fun y => absurd y c))
    · subst e1
      exact Wp.ifT rfl (no e2)
  · obtain ⟨u1, u2⟩ := u
    obtain ⟨e1, e2⟩ := hP
    dsimp only at e1 e2 ⊢
    subst e1
    rw [c_X10_hasSongs_L4]
    refine Wp.ifT (fT46 I) (Wp.ifT (by rw [h2]; exact nI_le (Nat.le_refl _) (by omega)) ?_)
    rcases e2 with ⟨e1, e2⟩ | ⟨e1, e2⟩
    · subst e1
      exact Wp.ifT (Or.inr rfl) (Wp.ret ⟨rfl, Or.inl ⟨e2, rfl⟩⟩)
    · subst e1
      exact Wp.ifT (Or.inl rfl) (Wp.ret ⟨rfl, Or.inr ⟨e2, rfl⟩⟩)
end Fam
