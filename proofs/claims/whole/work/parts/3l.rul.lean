section Rul
def isD (c : Int32) : Bool := decide (48 ≤ c.toInt ∧ c.toInt ≤ 57)
def ltr (c : Int32) : Option Nat := if c = 76 then some 0 else if c = 82 then some 1 else if c = 83 then some 2 else if c = 68 then some 3 else if c = 67 then some 4 else none
theorem ltr_ok {c : Int32} {m : Nat} (e : ltr c = some m) : m < 5 ∧ isD c = false ∧ ¬ c = 32 := by
  unfold ltr at e
  by_cases c1 : c = 76
  · rw [if_pos c1] at e; cases e; rw [c1]; decide
  · rw [if_neg c1] at e
    by_cases c2 : c = 82
    · rw [if_pos c2] at e; cases e; rw [c2]; decide
    · rw [if_neg c2] at e
      by_cases c3 : c = 83
      · rw [if_pos c3] at e; cases e; rw [c3]; decide
      · rw [if_neg c3] at e
        by_cases c4 : c = 68
        · rw [if_pos c4] at e; cases e; rw [c4]; decide
        · rw [if_neg c4] at e
          by_cases c5 : c = 67
          · rw [if_pos c5] at e; cases e; rw [c5]; decide
          · rw [if_neg c5] at e; cases e
theorem ltr_32 : ltr 32 = none := by decide
theorem ltr_D {c : Int32} (d : isD c = true) : ltr c = none := by
  cases e : ltr c with
  | none => rfl
  | some m => rw [(ltr_ok e).2.1] at d; cases d
theorem isD_32 : isD 32 = false := by decide
/-- digits since the last letter; 4: no letter is open -/
def dgs (g : Nat → Int32) : Nat → Nat
  | 0 => 4
  | k + 1 => if isD (g k) = true then dgs g k + 1 else if g k = 32 then 4 else 0
/-- at k a text can't go on -/
def flt (g : Nat → Int32) (k : Nat) : Prop := if isD (g k) = true then dgs g k = 4 ∨ dgs g k = 3 else dgs g k = 0 ∨ (¬ g k = 32 ∧ ltr (g k) = none)
def FR (g : Nat → Int32) (n : Nat) (v : Int32) : Prop := (∃ k, k < n ∧ flt g k ∧ (∀ j, j < k → ¬ flt g j) ∧ v = nI k) ∨ ((∀ k, k < n → ¬ flt g k) ∧ v = if dgs g n = 0 then nI n else -9)
theorem FR.eq {g : Nat → Int32} {n : Nat} {v v2 : Int32} (A : FR g n v) (B : FR g n v2) : v = v2 := by
  rcases A with ⟨i, h1, h2, h3, e1⟩ | ⟨h1, e1⟩
  · rcases B with ⟨j, k1, k2, k3, e2⟩ | ⟨k1, e2⟩
    · have : i = j := by
        rcases Nat.lt_trichotomy i j with c | c | c
        · exact absurd h2 (k3 i c)
        · exact c
        · exact absurd k2 (h3 j c)
      rw [e1, e2, this]
    · exact absurd h2 (k1 i h1)
  · rcases B with ⟨j, k1, k2, k3, e2⟩ | ⟨k1, e2⟩
    · exact absurd k2 (h1 j k1)
    · rw [e1, e2]
theorem FR.none9 {g : Nat → Int32} {n : Nat} (hn : n ≤ 60) (A : FR g n (-9)) : (∀ k, k < n → ¬ flt g k) ∧ ¬ dgs g n = 0 := by
  rcases A with ⟨i, h1, h2, h3, e1⟩ | ⟨h1, e1⟩
  · exact absurd e1.symm (enc9 (by omega))
  · refine ⟨h1, fun y => ?_⟩
    rw [if_pos y] at e1
    exact enc9 (by omega) e1.symm
theorem dgs_le {g : Nat → Int32} : ∀ k, (∀ j, j < k → ¬ flt g j) → dgs g k ≤ 4
  | 0, _ => Nat.le_refl _
  | k + 1, hf => by
    have ih := dgs_le k (fun j hj => hf j (by omega))
    have f := hf k (by omega)
    show (if isD (g k) = true then dgs g k + 1 else if g k = 32 then 4 else 0) ≤ 4
    by_cases c : isD (g k) = true
    · unfold flt at f
      rw [if_pos c] at f ⊢
      omega
    · rw [if_neg c]
      split <;> omega
/-! the numbers told -/
def dv (c : Int32) : Nat := (c.toInt - 48).toNat
theorem dv_ok {c : Int32} (d : isD c = true) : dv c ≤ 9 ∧ c - 48 = nI (dv c) := by
  unfold isD at d
  rw [decide_eq_true_iff] at d
  unfold dv
  refine ⟨by omega, ?_⟩
  rw [fa_eq, fb_subI (by rw [ti_48]; omega) (by rw [ti_48]; omega), toI_n (by omega), ti_48]
  omega
def cl_l (g : Nat → Int32) : Nat → Nat
  | 0 => 0
  | k + 1 => (ltr (g k)).getD (cl_l g k)
def vll (g : Nat → Int32) : Nat → Nat
  | 0 => 0
  | k + 1 => if isD (g k) = true then 10 * vll g k + dv (g k) else if ltr (g k) = none then vll g k else 0
def iv (g : Nat → Int32) : Nat → Nat → Option Nat
  | 0, _ => none
  | k + 1, l => if isD (g k) = true then (if l = cl_l g k then some (10 * vll g k + dv (g k)) else iv g k l) else if ltr (g k) = none then iv g k l else if l = (ltr (g k)).getD 0 then some 0 else iv g k l
theorem cl_lt (g : Nat → Int32) : ∀ k, cl_l g k < 5
  | 0 => by show 0 < 5; decide
  | k + 1 => by
    show (ltr (g k)).getD (cl_l g k) < 5
    cases e : ltr (g k) with
    | none => exact cl_lt g k
    | some m => exact (ltr_ok e).1
theorem pow_3 {d : Nat} (hd : d ≤ 3) : 10 ^ d ≤ 1000 := show 10 ^ d ≤ 10 ^ 3 from Nat.pow_le_pow_right (by decide) hd
theorem iv_ok {g : Nat → Int32} : ∀ k, (∀ j, j < k → ¬ flt g j) → (dgs g k ≤ 3 → iv g k (cl_l g k) = some (vll g k) ∧ vll g k < 10 ^ dgs g k) ∧ ∀ l v, iv g k l = some v → v ≤ 999
  | 0, _ => ⟨fun y => by have : dgs g 0 = 4 := rfl; omega, fun l v y => by cases y⟩
  | k + 1, hf => by
    obtain ⟨i1, i2⟩ := iv_ok k (fun j hj => hf j (by omega))
    have f := hf k (by omega)
    have dl := dgs_le k (fun j hj => hf j (by omega))
    unfold flt at f
    have E1 : dgs g (k + 1) = if isD (g k) = true then dgs g k + 1 else if g k = 32 then 4 else 0 := rfl
    have E2 : cl_l g (k + 1) = (ltr (g k)).getD (cl_l g k) := rfl
    have E3 : vll g (k + 1) = if isD (g k) = true then 10 * vll g k + dv (g k) else if ltr (g k) = none then vll g k else 0 := rfl
    have E4 : ∀ l, iv g (k + 1) l = if isD (g k) = true then (if l = cl_l g k then some (10 * vll g k + dv (g k)) else iv g k l) else if ltr (g k) = none then iv g k l else if l = (ltr (g k)).getD 0 then some 0 else iv g k l := fun _ => rfl
    by_cases c : isD (g k) = true
    · rw [if_pos c] at f E1 E3
      have d2 : dgs g k ≤ 2 := by omega
      obtain ⟨j1, j2⟩ := i1 (by omega)
      have dvl := (dv_ok c).1
      have nl : ltr (g k) = none := ltr_D c
      have bnd : 10 * vll g k + dv (g k) < 10 ^ (dgs g k + 1) := by rw [Nat.pow_succ]; omega
      have b3 := pow_3 (show dgs g k + 1 ≤ 3 by omega)
      refine ⟨fun _ => ?_, fun l v y => ?_⟩
      · rw [E4, if_pos c, E2, nl, E3, E1]
        exact ⟨if_pos rfl, bnd⟩
      · rw [E4, if_pos c] at y
        by_cases e : l = cl_l g k
        · rw [if_pos e] at y; cases y; omega
        · rw [if_neg e] at y; exact i2 l v y
    · rw [if_neg c] at f E1 E3
      cases e : ltr (g k) with
      | none =>
        have e32 : g k = 32 := Classical.byContradiction (fun y => f (Or.inr ⟨y, e⟩))
        rw [if_pos e32] at E1
        refine ⟨fun y => by omega, fun l v y => ?_⟩
        rw [E4, if_neg c, if_pos e] at y
        exact i2 l v y
      | some m =>
        have n32 := (ltr_ok e).2.2
        rw [if_neg n32] at E1
        rw [e] at E2 E3
        refine ⟨fun _ => ?_, fun l v y => ?_⟩
        · rw [E4, if_neg c, if_neg (by rw [e]; exact fun y => by cases y), e, E2, E3, E1]
          refine ⟨?_, by show (if some m = none then vll g k else 0) < 10 ^ 0; rw [if_neg (fun y => by cases y)]; decide⟩
          show (if m = m then some 0 else _) = some (if some m = none then vll g k else 0)
          rw [if_pos rfl, if_neg (fun y => by cases y)]
        · rw [E4, if_neg c, if_neg (by rw [e]; exact fun y => by cases y), e] at y
          have y' : (if l = m then some 0 else iv g k l) = some v := y
          by_cases q : l = m
          · rw [if_pos q] at y'; cases y'; omega
          · rw [if_neg q] at y'; exact i2 l v y'
end Rul
section Rul2
variable {h : z_Hp} (F : Nat) (x1 x2 x3 x4 x5 : Int32)
theorem x_isD (c : Int32) (k : z_Hp) : c_X3_isDigit F c k = some (if isD c = true then 1 else 0, k) := by
  unfold c_X3_isDigit isD
  simp only [fa_lt, ti_48, ti_57]
  by_cases x : 48 ≤ c.toInt ∧ c.toInt ≤ 57
  · rw [if_neg (by omega), if_neg (by omega), decide_eq_true x, if_pos rfl]
  · rw [decide_eq_false x, if_neg (by decide : ¬ false = true)]
    split
    · rfl
    · rw [if_pos (by omega)]
theorem m_isD (c : Int32) (k : z_Hp) : c_X10_in F c 48 57 k = some (if isD c = true then 1 else 0, k) := by
  rw [m_in, ti_48, ti_57]
  unfold isD
  by_cases x : 48 ≤ c.toInt ∧ c.toInt ≤ 57
  · rw [if_pos x, decide_eq_true x, if_pos rfl]
  · rw [if_neg x, decide_eq_false x, if_neg (by decide)]
theorem m_letter (c : Int32) (k : z_Hp) : c_X10_letter F c k = some (enc (ltr c), k) := by
  unfold c_X10_letter ltr
  by_cases c1 : c = 67
  · rw [if_pos c1, c1]; rfl
  · rw [if_neg c1]
    by_cases c2 : c = 68
    · rw [if_pos c2, c2]; rfl
    · rw [if_neg c2]
      by_cases c3 : c = 76
      · rw [if_pos c3, if_pos c3]; rfl
      · rw [if_neg c3, if_neg c3]
        by_cases c4 : c = 82
        · rw [if_pos c4, if_pos c4]; rfl
        · rw [if_neg c4, if_neg c4]
          by_cases c5 : c = 83
          · rw [if_pos c5, if_pos c5]; rfl
          · rw [if_neg c5, if_neg c5, if_neg c2, if_neg c1]; rfl
theorem x_letter (S : Rsta h) (hF : 5000 ≤ F) (c : Int32) : c_X3_letterOf F c h = some (enc (ltr c), h) := by
  obtain ⟨s1, s2, s3, s4, s5, s6⟩ := S
  have ol : okL h 2 = true := okL_n (s1 2 (by decide)) (by decide) (by decide)
  have st : ∀ m j, j < 5 → c_X3_letterOf_L2 F c (m + 1) (nI j) h = if z_tab 2 j = c then some (nI j, h) else c_X3_letterOf_L2 F c m (nI (j + 1)) h := fun m j hj => by
    have ib : inb (nI j) 5 = true := inb_n hj (by decide)
    rw [c_X3_letterOf_L2]
    simp only [ol, if_true, s4, if_neg (nI_ge hj (show 5 < 2 ^ 31 by decide)), ib, ix_n (show j < 2147483648 by omega), s6 2 j (by decide), ltq, nI_1]
  obtain ⟨f, hf⟩ : ∃ f, F = f + 1 + 1 + 1 + 1 + 1 + 1 := ⟨F - 6, by omega⟩
  have e5 : ∀ m, c_X3_letterOf_L2 F c (m + 1) (nI 5) h = some (-9, h) := fun m => by
    rw [c_X3_letterOf_L2]
    simp only [ol, if_true, s4, if_pos (nI_le (Nat.le_refl 5) (show 5 < 2 ^ 31 by decide))]
  have go : c_X3_letterOf_L2 F c (f + 1 + 1 + 1 + 1 + 1 + 1) (nI 0) h = some (enc (ltr c), h) := by
    rw [st _ 0 (by decide), st _ (0 + 1) (by decide), st _ (0 + 1 + 1) (by decide), st _ (0 + 1 + 1 + 1) (by decide), st _ (0 + 1 + 1 + 1 + 1) (by decide), e5]
    unfold ltr
    show (if (76 : Int32) = c then _ else if (82 : Int32) = c then _ else if (83 : Int32) = c then _ else if (68 : Int32) = c then _ else if (67 : Int32) = c then _ else _) = _
    by_cases c1 : c = 76
    · rw [if_pos c1.symm, if_pos c1]; rfl
    · rw [if_neg (fun y => c1 y.symm), if_neg c1]
      by_cases c2 : c = 82
      · rw [if_pos c2.symm, if_pos c2]; rfl
      · rw [if_neg (fun y => c2 y.symm), if_neg c2]
        by_cases c3 : c = 83
        · rw [if_pos c3.symm, if_pos c3]; rfl
        · rw [if_neg (fun y => c3 y.symm), if_neg c3]
          by_cases c4 : c = 68
          · rw [if_pos c4.symm, if_pos c4]; rfl
          · rw [if_neg (fun y => c4 y.symm), if_neg c4]
            by_cases c5 : c = 67
            · rw [if_pos c5.symm, if_pos c5]; rfl
            · rw [if_neg (fun y => c5 y.symm), if_neg c5]; rfl
  unfold c_X3_letterOf
  rw [← hf] at go
  exact go
/-- digits open, as x has them -/
def dI (d : Nat) : Int32 := if d = 4 then -1 else nI d
theorem dI_4 : dI 4 = -1 := rfl
theorem dI_n {d : Nat} (hd : ¬ d = 4) : dI d = nI d := if_neg hd
theorem dI_eq {d e : Nat} (hd : d ≤ 4) (he : e < 4) : dI d = nI e ↔ d = e := by
  unfold dI
  by_cases c : d = 4
  · rw [if_pos c]
    constructor
    · intro y
      rw [fa_eq, toI_n (by omega), tm_1] at y
      omega
    · intro y; omega
  · rw [if_neg c, nI_eq (by omega) (by omega)]
theorem dI_m1 {d : Nat} (hd : d ≤ 4) : dI d = -1 ↔ d = 4 := by
  constructor
  · intro y
    apply Classical.byContradiction
    intro c
    rw [dI_n c, fa_eq, toI_n (by omega), tm_1] at y
    omega
  · intro y; rw [y]; rfl
theorem x_fault (S : Rsta h) (hF : 5000 ≤ F) {a n : Nat} {g : Nat → Int32} (ta : hT h a = 21) (na : hN h a = n) (n60 : n ≤ 60) (ea : ∀ k, k < n → hI h a k = g k) : Wp (c_X3_faultIn F (some a) h) (fun r => FR g n r.1 ∧ r.2 = h) := by
  have ol : okL h a = true := okL_n ta (by decide) (by decide)
  unfold c_X3_faultIn
  refine Wp.loop (L := fun m (u : Int32 × Int32) => c_X3_faultIn_L4 F (some a) (fun x18 h19 => (if x18 = 0 then (nn (some a) (fun a20 => (if okL h19 a20 = true then (some (nI (hN h19 a20), h19)) else none))) else (some ((-9), h19)))) m u.1 u.2 h) (N := n) (fun k u => u.1 = dI (dgs g k) ∧ u.2 = nI k ∧ ∀ j, j < k → ¬ flt g j) (fun m k u hk hP ih => ?_) (fun m u hP => ?_) F (-1, 0) (by omega) ⟨rfl, rfl, fun j hj => by omega⟩
  · obtain ⟨u1, u2⟩ := u
    obtain ⟨q1, q2, q3⟩ := hP
    dsimp only at q1 q2 ⊢
    subst q1 q2
    have dl := dgs_le k q3
    have oa : okA h a 21 (nI k) = true := okA_n ta na hk (by omega)
    have E1 : dgs g (k + 1) = if isD (g k) = true then dgs g k + 1 else if g k = 32 then 4 else 0 := rfl
    rw [c_X3_faultIn_L4, nI_1, ix_n (show k < 2147483648 by omega)]
    refine Wp.rf rfl (Wp.ifT ol ?_)
    rw [na]
    refine Wp.ifF (nI_ge hk (by omega)) (Wp.ifT oa ?_)
    rw [ea k hk]
    refine Wp.cIe (x_isD F _ _) (Wp.lj (fun j hj => ?_))
    have go : ∀ x, x = dI (dgs g (k + 1)) → ¬ flt g k → Wp (j x h) (fun r => FR g n r.1 ∧ r.2 = h) := fun x hx nf => by
      rw [hj]
      refine ih (x, nI (k + 1)) ⟨hx, rfl, fun y hy => ?_⟩
      by_cases e : y = k
      · rw [e]; exact nf
      · exact q3 y (by omega)
    have bad : flt g k → Wp (some (nI k, h)) (fun r => FR g n r.1 ∧ r.2 = h) := fun f => Wp.ret ⟨Or.inl ⟨k, hk, f, q3, rfl⟩, rfl⟩
    by_cases c : isD (g k) = true
    · rw [if_pos c] at E1
      have fi : flt g k ↔ dgs g k = 4 ∨ dgs g k = 3 := by unfold flt; rw [if_pos c]
      refine Wp.ifF (by rw [if_pos c]; exact one0) ?_
      by_cases d4 : dgs g k = 4
      · exact Wp.ifT ((dI_m1 dl).mpr d4) (bad (fi.mpr (Or.inl d4)))
      · refine Wp.ifF (fun y => d4 ((dI_m1 dl).mp y)) ?_
        by_cases d3 : dgs g k = 3
        · exact Wp.ifT ((dI_eq (e := 3) dl (by decide)).mpr d3) (bad (fi.mpr (Or.inr d3)))
        · refine Wp.ifF (fun y => d3 ((dI_eq (e := 3) dl (by decide)).mp y)) (Wp.ltI ?_)
          rw [dI_n d4, nI_1]
          refine go _ ?_ (fun y => by rcases fi.mp y with y | y; exact d4 y; exact d3 y)
          rw [E1, dI_n (by omega)]
    · rw [if_neg c] at E1
      have fi : flt g k ↔ dgs g k = 0 ∨ (¬ g k = 32 ∧ ltr (g k) = none) := by unfold flt; rw [if_neg c]
      refine Wp.ifT (by rw [if_neg c]) ?_
      by_cases d0 : dgs g k = 0
      · exact Wp.ifT ((dI_eq (e := 0) dl (by decide)).mpr d0) (bad (fi.mpr (Or.inl d0)))
      · refine Wp.ifF (fun y => d0 ((dI_eq (e := 0) dl (by decide)).mp y)) (Wp.ifT oa ?_)
        rw [ea k hk]
        by_cases c32 : g k = 32
        · rw [if_pos c32] at E1
          refine Wp.ifT c32 (go _ (by rw [E1]; rfl) (fun y => by rcases fi.mp y with y | y; exact d0 y; exact y.1 c32))
        · rw [if_neg c32] at E1
          refine Wp.ifF c32 (Wp.ifT oa ?_)
          refine Wp.cIe (x_letter F S hF _) ?_
          cases e : ltr (g k) with
          | none => exact Wp.ifT rfl (bad (fi.mpr (Or.inr ⟨c32, e⟩)))
          | some l => exact Wp.ifF (enc9 (by have := (ltr_ok e).1; omega)) (go _ (by rw [E1]; rfl) (fun y => by rcases fi.mp y with y | y; exact d0 y; rw [e] at y; cases y.2))
  · obtain ⟨u1, u2⟩ := u
    obtain ⟨q1, q2, q3⟩ := hP
    dsimp only at q1 q2 ⊢
    subst q1 q2
    have dl := dgs_le n q3
    rw [c_X3_faultIn_L4]
    refine Wp.rf rfl (Wp.ifT ol ?_)
    rw [na]
    refine Wp.ifT (nI_le (Nat.le_refl n) (by omega)) ?_
    by_cases d0 : dgs g n = 0
    · refine Wp.ifT ((dI_eq (e := 0) dl (by decide)).mpr d0) (Wp.rf rfl (Wp.ifT ol (Wp.ret ⟨Or.inr ⟨q3, ?_⟩, rfl⟩)))
      dsimp only
      rw [na, if_pos d0]
    · refine Wp.ifF (fun y => d0 ((dI_eq (e := 0) dl (by decide)).mp y)) (Wp.ret ⟨Or.inr ⟨q3, ?_⟩, rfl⟩)
      rw [if_neg d0]
/-- places of the reference's items -/
theorem m_reads (I : Ifx h) (hF : 5000 ≤ F) {t n : Nat} {g : Nat → Int32} (ht : t < 4) (n60 : n ≤ 60) (e51 : hI h 51 t = nI n) (e52 : ∀ k, k < n → hI h 52 (60 * t + k) = g k) : Wp (c_X10_reads F 46 (nI t) h) (fun r => FR g n r.1 ∧ ChI (fun a _ => a = 62) h r.2 ∧ (r.1 = -9 → ∀ l, l < 5 → hI r.2 62 l = enc (iv g n l))) := by
  have keep : ∀ {k}, ChI (fun a _ => a = 62) h k → Ifx k ∧ hI k 51 t = nI n ∧ ∀ i, i < n → hI k 52 (60 * t + i) = g i := fun c => ⟨c.fx I, (c.1 51 t (by omega)).trans e51, fun i hi => (c.1 52 _ (by omega)).trans (e52 i hi)⟩
  unfold c_X10_reads
  refine Wp.loop (L := fun m (u : Int32 × z_Hp) => c_X10_reads_L2 F 46 (nI t) (fun h11 => (c_X10_reads_L23 F 46 (nI t) F 0 h11)) m u.1 u.2) (N := 5) (fun l u => u.1 = nI l ∧ ChI (fun a _ => a = 62) h u.2 ∧ ∀ j, j < l → hI u.2 62 j = -9) (fun m l u hl hP ih => ?_) (fun m u hP => ?_) F (0, h) (by omega) ⟨rfl, ChI.refl _ _, fun j hj => by omega⟩
  · obtain ⟨u1, k⟩ := u
    obtain ⟨q1, q2, q3⟩ := hP
    dsimp only at q1 q2 q3 ⊢
    subst q1
    obtain ⟨Ik, _, _⟩ := keep q2
    have o62 : okA k 62 20 (nI l) = true := okA_n (fT62 Ik) (fN62 Ik) (by omega) (by decide)
    rw [c_X10_reads_L2, nI_1, ix_n (show l < 2147483648 by omega)]
    refine Wp.ifF (nI_ge (b := 5) hl (by decide)) (Wp.ifT (fT46 Ik) (Wp.ltO (Wp.rf (fR46_23 Ik) (Wp.ifT o62 (Wp.ltH (Wp.ltI (ih (nI (l + 1), sI k 62 l (-9)) ⟨rfl, q2.set rfl, fun j hj => ?_⟩)))))))
    dsimp only
    rw [hI_sI]
    by_cases e : j = l
    · rw [if_pos ⟨rfl, e⟩]
    · rw [if_neg (fun y => e y.2)]; exact q3 j (by omega)
  · obtain ⟨u1, k0⟩ := u
    obtain ⟨q1, q2, q3⟩ := hP
    dsimp only at q1 q2 q3 ⊢
    subst q1
    rw [c_X10_reads_L2]
    refine Wp.ifT (by decide) ?_
    refine Wp.dn (L := fun m (u : Int32 × z_Hp) => c_X10_reads_L23 F 46 (nI t) m u.1 u.2) (fun d u => ∃ i, i ≤ n ∧ d = n - i ∧ u.1 = nI i ∧ ChI (fun a _ => a = 62) h u.2 ∧ (∀ j, j < i → ¬ flt g j) ∧ ¬ dgs g i = 0 ∧ (i < n → isD (g i) = true → dgs g i = 4 ∨ dgs g i = 3) ∧ ∀ l, l < 5 → hI u.2 62 l = enc (iv g i l)) (fun m d u hP ih => ?_) F n (0, k0) (by omega) ⟨0, by omega, rfl, rfl, q2, fun j hj => by omega, by show ¬ 4 = 0; decide, fun _ _ => Or.inl rfl, fun l hl => q3 l hl⟩
    obtain ⟨u1, k⟩ := u
    obtain ⟨i, hi, rfl, p1, p2, p3, p4, p5, p6⟩ := hP
    dsimp only at p1 p2 p6 ⊢
    subst p1
    obtain ⟨Ik, k51, k52⟩ := keep p2
    have o51 : okA k 51 20 (nI t) = true := okA_n (fT51 Ik) (fN51 Ik) (by omega) (by decide)
    have dl := dgs_le i p3
    rw [c_X10_reads_L23, ix_n (show t < 2147483648 by omega)]
    refine Wp.ifT (fT46 Ik) (Wp.ltO (Wp.rf (fR46_10 Ik) (Wp.ifT o51 ?_)))
    rw [k51]
    by_cases c : i < n
    · have o52 : okA k 52 20 (nI (60 * t + i)) = true := okA_n (fT52 Ik) (fN52 Ik) (by omega) (by decide)
      have E1 : dgs g (i + 1) = if isD (g i) = true then dgs g i + 1 else if g i = 32 then 4 else 0 := rfl
      have E4 : ∀ l, iv g (i + 1) l = if isD (g i) = true then (if l = cl_l g i then some (10 * vll g i + dv (g i)) else iv g i l) else if ltr (g i) = none then iv g i l else if l = (ltr (g i)).getD 0 then some 0 else iv g i l := fun _ => rfl
      rw [e60, ix_n (show 60 * t + i < 2147483648 by omega)]
      refine Wp.ifF (nI_ge c (by omega)) (Wp.ifT (fT46 Ik) (Wp.ltO (Wp.rf (fR46_11 Ik) (Wp.ifT o52 (Wp.ltI ?_)))))
      rw [k52 i c]
      refine Wp.lj (fun jA hjA => ?_)
      have nxt : ∀ (i' : Nat) k', i ≤ i' → i' < n → (∀ j, j < i' + 1 → ¬ flt g j) → ¬ dgs g (i' + 1) = 0 → (i' + 1 < n → isD (g (i' + 1)) = true → dgs g (i' + 1) = 4 ∨ dgs g (i' + 1) = 3) → ChI (fun a _ => a = 62) h k' → (∀ l, l < 5 → hI k' 62 l = enc (iv g (i' + 1) l)) → Wp (jA (nI i') k') (fun r => FR g n r.1 ∧ ChI (fun a _ => a = 62) h r.2 ∧ (r.1 = -9 → ∀ l, l < 5 → hI r.2 62 l = enc (iv g n l))) := fun i' k' l1 l2 a1 a2 a3 a4 a5 => by
        rw [hjA]
        dsimp only [lt_]
        rw [nI_1]
        exact ih (n - (i' + 1)) (nI (i' + 1), k') (by omega) ⟨i' + 1, by omega, rfl, rfl, a4, a1, a2, a3, a5⟩
      have upd_ : ∀ {i' : Nat} {P : Nat → Prop}, (∀ j, j < i' → P j) → P i' → ∀ j, j < i' + 1 → P j := fun {i'} {P} a b j hj => by
        by_cases e : j = i'
        · rw [e]; exact b
        · exact a j (by omega)
      by_cases c32 : g i = 32
      · have Df : isD (g i) = false := by rw [c32]; exact isD_32
        have nf : ¬ flt g i := by
          unfold flt
          rw [Df, if_neg (by decide)]
          intro y
          rcases y with y | y
          · exact p4 y
          · exact y.1 c32
        rw [Df, if_neg (by decide), if_pos c32] at E1
        refine Wp.ifT c32 (nxt i k (Nat.le_refl _) c (upd_ p3 nf) (by rw [E1]; decide) (fun _ _ => Or.inl E1) p2 (fun l hl => ?_))
        rw [E4, Df, if_neg (by decide), c32, if_pos ltr_32]
        exact p6 l hl
      · refine Wp.ifF c32 (Wp.cIe (m_letter F _ _) ?_)
        cases e : ltr (g i) with
        | none =>
          have fl_ : flt g i := by
            unfold flt
            by_cases cD : isD (g i) = true
            · rw [if_pos cD]; exact p5 c cD
            · rw [if_neg cD]; exact Or.inr ⟨c32, e⟩
          refine Wp.ifF nn9 (Wp.ret ⟨Or.inl ⟨i, c, fl_, p3, rfl⟩, p2, fun y => absurd y (enc9 (by omega))⟩)
        | some ll =>
          obtain ⟨ll5, Df, _⟩ := ltr_ok e
          have nf : ¬ flt g i := by
            unfold flt
            rw [Df, if_neg (by decide)]
            intro y
            rcases y with y | y
            · exact p4 y
            · rw [e] at y; cases y.2
          rw [Df, if_neg (by decide), if_neg c32] at E1
          have c1 : cl_l g (i + 1) = ll := by show (ltr (g i)).getD _ = ll; rw [e]; rfl
          have v1 : vll g (i + 1) = 0 := by show (if isD (g i) = true then _ else if ltr (g i) = none then _ else 0) = 0; rw [Df, if_neg (by decide), e, if_neg (fun y => by cases y)]
          have i1 : ∀ l, ¬ l = ll → iv g (i + 1) l = iv g i l := fun l hl => by
            rw [E4, Df, if_neg (by decide), e, if_neg (fun y => by cases y)]
            show (if l = ll then some 0 else iv g i l) = _
            rw [if_neg hl]
          refine Wp.ifT (nge (by omega)) ?_
          -- the digits behind the letter
          refine Wp.dn (L := fun m' (u : Int32 × Int32 × Int32) => c_X10_reads_L66 F 46 (nI t) (g i) _ m' u.1 u.2.1 u.2.2 k) (fun d u => ∃ x, d = 3 - x ∧ x ≤ 3 ∧ i + x < n ∧ u.1 = nI (i + x) ∧ u.2.1 = nI x ∧ u.2.2 = nI (vll g (i + x + 1)) ∧ (∀ j, j < i + x + 1 → ¬ flt g j) ∧ dgs g (i + x + 1) = x ∧ cl_l g (i + x + 1) = ll ∧ ∀ l, ¬ l = ll → iv g (i + x + 1) l = iv g i l) (fun m' d u hP ih2 => ?_) F 3 (nI i, 0, 0) (by omega) ⟨0, rfl, by omega, by omega, rfl, rfl, by rw [Nat.add_zero, v1]; rfl, by rw [Nat.add_zero]; exact upd_ p3 nf, by rw [Nat.add_zero]; exact E1, by rw [Nat.add_zero]; exact c1, by rw [Nat.add_zero]; exact i1⟩
          obtain ⟨b1, b2, b3⟩ := u
          obtain ⟨x, rfl, x3, xn, s1, s2, s3, s4, s5, s6, s7⟩ := hP
          dsimp only at s1 s2 s3 ⊢
          subst s1 s2 s3
          have ivx := iv_ok (g := g) (i + x + 1) s4
          obtain ⟨iv1, iv2⟩ := ivx.1 (by omega)
          rw [s6] at iv1
          rw [s5] at iv2
          have p10 := pow_3 x3
          have fin : (i + x + 1 < n → isD (g (i + x + 1)) = true → x = 3) → Wp (if nI x = 0 then some (nI (i + x + 1), k) else if hT k 46 = 10 then lt_ (hR k 46 23) (fun o53 => bI (c_X10_letter F (g i) k) (fun x55 h54 => nn o53 (fun a56 => if okA h54 a56 20 x55 = true then lt_ (sI h54 a56 (ix x55) (nI (vll g (i + x + 1)))) (fun h57 => jA (nI (i + x)) h57) else none))) else none) (fun r => FR g n r.1 ∧ ChI (fun a _ => a = 62) h r.2 ∧ (r.1 = -9 → ∀ l, l < 5 → hI r.2 62 l = enc (iv g n l))) := fun stop => by
            by_cases x0 : x = 0
            · rw [x0] at s4 s5 stop ⊢
              rw [Nat.add_zero] at s4 s5 stop ⊢
              refine Wp.ifT rfl (Wp.ret ?_)
              refine ⟨?_, p2, fun y => absurd y (enc9 (by omega))⟩
              by_cases en : i + 1 < n
              · left
                refine ⟨i + 1, en, ?_, s4, rfl⟩
                unfold flt
                by_cases cD : isD (g (i + 1)) = true
                · have := stop en cD
                  omega
                · rw [if_neg cD]; exact Or.inl s5
              · right
                have en' : i + 1 = n := by omega
                rw [← en']
                refine ⟨s4, ?_⟩
                rw [if_pos s5]
            · have o62 : okA k 62 20 (nI ll) = true := okA_n (fT62 Ik) (fN62 Ik) (by omega) (by decide)
              refine Wp.ifF (nI_ne0 (by omega) (by omega)) (Wp.ifT (fT46 Ik) (Wp.ltO (Wp.cIe (m_letter F _ _) (Wp.rf (fR46_23 Ik) ?_))))
              rw [e]
              show Wp (if okA k 62 20 (nI ll) = true then _ else _) _
              refine Wp.ifT o62 (Wp.ltH ?_)
              rw [show ix (enc (some ll)) = ll from ix_n (by omega)]
              refine nxt (i + x) _ (by omega) xn s4 (by omega) (fun y1 y2 => Or.inr (by have := stop y1 y2; omega)) (p2.set rfl) (fun l hl => ?_)
              rw [hI_sI]
              by_cases q : l = ll
              · rw [if_pos ⟨rfl, q⟩, q, iv1]; rfl
              · rw [if_neg (fun y => q y.2), s7 l q]; exact p6 l hl
          rw [c_X10_reads_L66, nI_1, nI_1, ix_n (show t < 2147483648 by omega)]
          refine Wp.ifT (fT46 Ik) (Wp.ltO (Wp.rf (fR46_10 Ik) (Wp.ifT o51 ?_)))
          rw [k51]
          by_cases en : i + x + 1 < n
          · refine Wp.ifF (nI_ge en (by omega)) ?_
            by_cases x3' : x = 3
            · exact Wp.ifT (by rw [x3']; decide) (fin (fun _ _ => x3'))
            · have o52' : okA k 52 20 (nI (60 * t + (i + x + 1))) = true := okA_n (fT52 Ik) (fN52 Ik) (by omega) (by decide)
              have i52 : (60 : Int32) * nI t + nI (i + x) + 1 = nI (60 * t + (i + x + 1)) := by rw [e60, nI_1]; rfl
              rw [i52, ix_n (show 60 * t + (i + x + 1) < 2147483648 by omega)]
              refine Wp.ifF (nI_ge (b := 3) (by omega) (by omega)) (Wp.ifT (fT46 Ik) (Wp.ltO (Wp.rf (fR46_11 Ik) (Wp.ifT o52' ?_))))
              rw [k52 _ en]
              refine Wp.cIe (m_isD F _ _) ?_
              by_cases cD : isD (g (i + x + 1)) = true
              · obtain ⟨dv1, dv2⟩ := dv_ok cD
                have nf' : ¬ flt g (i + x + 1) := by
                  unfold flt
                  rw [if_pos cD, s5]
                  omega
                have d1 : dgs g (i + x + 1 + 1) = x + 1 := by show (if isD (g (i + x + 1)) = true then dgs g (i + x + 1) + 1 else _) = _; rw [if_pos cD, s5]
                have v2 : vll g (i + x + 1 + 1) = 10 * vll g (i + x + 1) + dv (g (i + x + 1)) := if_pos cD
                have c2 : cl_l g (i + x + 1 + 1) = ll := by show (ltr (g (i + x + 1))).getD _ = ll; rw [ltr_D cD]; exact s6
                refine Wp.ifF (by rw [if_pos cD]; exact one0) (Wp.ltI (Wp.ltI ?_))
                rw [e60, ix_n (show 60 * t + (i + x + 1) < 2147483648 by omega)]
                refine Wp.ifT (fT46 Ik) (Wp.ltO (Wp.rf (fR46_11 Ik) (Wp.ifT o52' (Wp.ltI ?_))))
                rw [k52 _ en]
                have nv : (10 : Int32) * nI (vll g (i + x + 1)) + g (i + x + 1) - 48 = nI (vll g (i + x + 1 + 1)) := by
                  rw [v2, ← nI_add, ← dv2, show (10 : Int32) = nI 10 from rfl, nI_mul, Int32.sub_eq_add_neg, Int32.add_assoc, ← Int32.sub_eq_add_neg]
                rw [nv]
                refine ih2 (3 - (x + 1)) (nI (i + x + 1), nI (x + 1), nI (vll g (i + x + 1 + 1))) (by omega) ⟨x + 1, rfl, by omega, by omega, rfl, rfl, rfl, upd_ s4 nf', d1, c2, fun l hl => ?_⟩
                show (if isD (g (i + x + 1)) = true then (if l = cl_l g (i + x + 1) then some (10 * vll g (i + x + 1) + dv (g (i + x + 1))) else iv g (i + x + 1) l) else _) = _
                rw [if_pos cD, s6, if_neg hl]
                exact s7 l hl
              · refine Wp.ifT (by rw [if_neg cD]) ?_
                exact fin (fun _ y => absurd y cD)
          · exact Wp.ifT (nI_le (by omega) (by omega)) (fin (fun y => absurd y en))
    · have en : i = n := by omega
      refine Wp.ifT (nI_le (by omega) (by omega)) (Wp.ret ⟨Or.inr ⟨by rw [← en]; exact p3, by rw [← en, if_neg p4]⟩, p2, fun _ => by rw [← en]; exact p6⟩)
end Rul2
