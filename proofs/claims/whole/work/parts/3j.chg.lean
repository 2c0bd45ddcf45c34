section Chg
def edw (sm : Nat → Bool) (p : Nat → Nat) (v : Nat) : Nat → Nat
  | 0 => v + 1
  | w + 1 => min (min (p w + (if sm w = true then 0 else 1)) (p (w + 1) + 1)) (edw sm p v w + 1)
/-- the fewest changes -/
def ed (sm : Nat → Nat → Bool) : Nat → Nat → Nat
  | 0 => fun w => w
  | v + 1 => edw (sm v) (ed sm v) v
theorem ed_00 (sm : Nat → Nat → Bool) (w : Nat) : ed sm 0 w = w := rfl
theorem ed_s0 (sm : Nat → Nat → Bool) (v : Nat) : ed sm (v + 1) 0 = v + 1 := rfl
theorem ed_v0 (sm : Nat → Nat → Bool) (v : Nat) : ed sm v 0 = v := by cases v <;> rfl
theorem ed_ss (sm : Nat → Nat → Bool) (v w : Nat) : ed sm (v + 1) (w + 1) = min (min (ed sm v w + (if sm v w = true then 0 else 1)) (ed sm v (w + 1) + 1)) (ed sm (v + 1) w + 1) := rfl
theorem ed_u1 (sm : Nat → Nat → Bool) (v w : Nat) : ed sm (v + 1) w ≤ ed sm v w + 1 := by
  cases w with
  | zero => rw [ed_s0, ed_v0]; exact Nat.le_refl _
  | succ w => rw [ed_ss]; exact Nat.le_trans (Nat.min_le_left _ _) (Nat.min_le_right _ _)
theorem ed_u2 (sm : Nat → Nat → Bool) (v w : Nat) : ed sm v (w + 1) ≤ ed sm v w + 1 := by
  cases v with
  | zero => exact Nat.le_refl _
  | succ v => rw [ed_ss]; exact Nat.min_le_right _ _
theorem ed_p1 (sm : Nat → Nat → Bool) : ∀ v w, ed sm v w ≤ ed sm v (w + 1) + 1
  | 0, w => by rw [ed_00, ed_00]; omega
  | v + 1, w => by
    have i1 := ed_p1 sm v w
    have i2 := ed_u1 sm v w
    rw [ed_ss]
    generalize (if sm v w = true then 0 else 1) = c
    rw [Nat.min_def, Nat.min_def]
    split <;> split <;> omega
theorem ed_p2 (sm : Nat → Nat → Bool) (v : Nat) : ∀ w, ed sm v w ≤ ed sm (v + 1) w + 1
  | 0 => by rw [ed_v0, ed_s0]; omega
  | w + 1 => by
    have i1 := ed_p2 sm v w
    have i2 := ed_u2 sm v w
    rw [ed_ss]
    generalize (if sm v w = true then 0 else 1) = c
    rw [Nat.min_def, Nat.min_def]
    split <;> split <;> omega
theorem ed_le (sm : Nat → Nat → Bool) : ∀ v w, ed sm v w ≤ v + w
  | 0, w => by rw [ed_00]; omega
  | v + 1, w => by
    have := ed_u1 sm v w
    have := ed_le sm v w
    omega
theorem ed_diag {sm : Nat → Nat → Bool} {n : Nat} (hs : ∀ v, v < n → sm v v = true) : ∀ v, v ≤ n → ed sm v v = 0
  | 0, _ => rfl
  | v + 1, hv => by
    have := ed_diag hs v (by omega)
    have e := ed_ss sm v v
    rw [hs v (by omega), if_pos rfl, this] at e
    have l := Nat.min_le_left (min (0 + 0) (ed sm v (v + 1) + 1)) (ed sm (v + 1) v + 1)
    have l2 := Nat.min_le_left (0 + 0) (ed sm v (v + 1) + 1)
    omega
/-- as x does it -/
theorem ed_x (sm : Nat → Nat → Bool) (v w : Nat) : ed sm (v + 1) (w + 1) = if sm v w = true then ed sm v w else 1 + min (ed sm v w) (min (ed sm v (w + 1)) (ed sm (v + 1) w)) := by
  have a1 := ed_p1 sm v w
  have a2 := ed_p2 sm v w
  rw [ed_ss]
  by_cases c : sm v w = true
  · rw [if_pos c, if_pos c, Nat.min_def, Nat.min_def]
    split <;> split <;> omega
  · rw [if_neg c, if_neg c, Nat.min_def, Nat.min_def, Nat.min_def, Nat.min_def]
    split <;> split <;> split <;> split <;> omega
def tokeq (gA : Nat → Int32) (nA : Nat) (gB : Nat → Int32) (nB v w : Nat) : Bool := decide (wsz gA nA (tp gA nA v) = wsz gB nB (tp gB nB w) ∧ ∀ k, k < wsz gA nA (tp gA nA v) → gA (tp gA nA v + k) = gB (tp gB nB w + k))
def dist (gA : Nat → Int32) (nA : Nat) (gB : Nat → Int32) (nB : Nat) : Nat := ed (tokeq gA nA gB nB) (tkn gA nA) (tkn gB nB)
theorem dist_self (g : Nat → Int32) (n : Nat) : dist g n g n = 0 := ed_diag (n := tkn g n) (fun v _ => decide_eq_true ⟨rfl, fun _ _ => rfl⟩) _ (Nat.le_refl _)
theorem dist_le (gA : Nat → Int32) (nA : Nat) (gB : Nat → Int32) (nB : Nat) : dist gA nA gB nB ≤ nA + nB := by
  have := ed_le (tokeq gA nA gB nB) (tkn gA nA) (tkn gB nB)
  have := tkn_le gA nA
  have := tkn_le gB nB
  unfold dist
  omega
end Chg
section Chg2
variable {h : z_Hp} (F : Nat) (x1 x2 x3 x4 x5 : Int32)
/-- a song of x, whole -/
def SgF (h : z_Hp) (a n : Nat) (g : Nat → Int32) : Prop := ∃ b b2 b3, SgX h a b n g ∧ SgT h a b2 b3 n g ∧ isSg g n
theorem sgAt.f {ow : Ow} {s a n : Nat} {g : Nat → Int32} (S : sgAt ow h s a n g) (n60 : n ≤ 60) : SgF h a n g := by
  obtain ⟨b, X⟩ := S.x n60
  obtain ⟨b2, b3, T⟩ := S.t
  exact ⟨b, b2, b3, X, T, S.2.2.2.1⟩
theorem tke_47 {g : Nat → Int32} {n k : Nat} (hz : g k = 47) : tke g n k = k + 1 := if_pos hz
theorem x_same (hF : 5000 ≤ F) {a1 n1 a2 n2 v w : Nat} {g1 g2 : Nat → Int32} (A : SgF h a1 n1 g1) (B : SgF h a2 n2 g2) (hv : v < tkn g1 n1) (hw : w < tkn g2 n2) : Wp (c_X7_hasSameToken F a1 (nI v) (some a2) (nI w) h) (fun r => r = (if tokeq g1 n1 g2 n2 v w = true then 1 else 0, h)) := by
  obtain ⟨b, b2, b3, X, T, S⟩ := A
  obtain ⟨c, c2, c3, Y, U, R⟩ := B
  have n60 := X.2.2.2.2.1
  have m60 := Y.2.2.2.2.1
  obtain ⟨p1, p2, p3⟩ := tp_ok hv
  obtain ⟨q1, q2, q3⟩ := tp_ok hw
  have tl := tkn_le g1 n1
  have ul := tkn_le g2 n2
  have sv := x_size F X.1 n60 T hv
  have sw := x_size F Y.1 m60 U hw
  obtain ⟨r2, t2, k2, r3, t3, k3, et⟩ := T
  obtain ⟨r4, t4, k4, r5, t5, k5, eu⟩ := U
  obtain ⟨e1, _⟩ := et v hv
  obtain ⟨e2, _⟩ := eu w hw
  -- sizes as x has them
  obtain ⟨z1, hz1, hs1, zz1⟩ : ∃ z1, tke g1 n1 (tp g1 n1 v) = tp g1 n1 v + z1 ∧ tp g1 n1 v + z1 ≤ n1 ∧ (z1 = if g1 (tp g1 n1 v) = 47 then 1 else wsz g1 n1 (tp g1 n1 v)) := by
    by_cases c47 : g1 (tp g1 n1 v) = 47
    · exact ⟨1, tke_47 c47, by omega, by rw [if_pos c47]⟩
    · exact ⟨wsz g1 n1 (tp g1 n1 v), tke_w (fun y => c47 ((wsz_47 S.1 p1 p2).mp y)), wsz_le g1 (by omega), by rw [if_neg c47]⟩
  obtain ⟨z2, hz2, hs2, zz2⟩ : ∃ z2, tke g2 n2 (tp g2 n2 w) = tp g2 n2 w + z2 ∧ tp g2 n2 w + z2 ≤ n2 ∧ (z2 = if g2 (tp g2 n2 w) = 47 then 1 else wsz g2 n2 (tp g2 n2 w)) := by
    by_cases c47 : g2 (tp g2 n2 w) = 47
    · exact ⟨1, tke_47 c47, by omega, by rw [if_pos c47]⟩
    · exact ⟨wsz g2 n2 (tp g2 n2 w), tke_w (fun y => c47 ((wsz_47 R.1 q1 q2).mp y)), wsz_le g2 (by omega), by rw [if_neg c47]⟩
  have key : tokeq g1 n1 g2 n2 v w = true ↔ z1 = z2 ∧ ∀ k, k < z1 → g1 (tp g1 n1 v + k) = g2 (tp g2 n2 w + k) := by
    unfold tokeq
    rw [decide_eq_true_iff]
    by_cases d1 : g1 (tp g1 n1 v) = 47
    · have w1 := (wsz_47 S.1 p1 p2).mpr d1
      rw [if_pos d1] at zz1
      by_cases d2 : g2 (tp g2 n2 w) = 47
      · have w2 := (wsz_47 R.1 q1 q2).mpr d2
        rw [if_pos d2] at zz2
        constructor
        · intro _
          refine ⟨by omega, fun k hk => ?_⟩
          have : k = 0 := by omega
          rw [this, Nat.add_zero, Nat.add_zero, d1, d2]
        · intro _
          exact ⟨by omega, fun k hk => by omega⟩
      · have w2 : ¬ wsz g2 n2 (tp g2 n2 w) = 0 := fun y => d2 ((wsz_47 R.1 q1 q2).mp y)
        constructor
        · intro y; omega
        · intro y
          have := y.2 0 (by omega)
          rw [Nat.add_zero, Nat.add_zero, d1] at this
          exact absurd this.symm d2
    · have w1 : ¬ wsz g1 n1 (tp g1 n1 v) = 0 := fun y => d1 ((wsz_47 S.1 p1 p2).mp y)
      rw [if_neg d1] at zz1
      by_cases d2 : g2 (tp g2 n2 w) = 47
      · have w2 := (wsz_47 R.1 q1 q2).mpr d2
        constructor
        · intro y; omega
        · intro y
          have := y.2 0 (by omega)
          rw [Nat.add_zero, Nat.add_zero, d2] at this
          exact absurd this d1
      · rw [if_neg d2] at zz2
        rw [zz1, zz2]
  rw [hz1, nI_sub (by omega), Nat.add_sub_cancel_left] at sv
  rw [hz2, nI_sub (by omega), Nat.add_sub_cancel_left] at sw
  have o2 : okA h b2 20 (nI v) = true := okA_n t2 k2 (by omega) (by omega)
  have o4 : okA h c2 20 (nI w) = true := okA_n t4 k4 (by omega) (by omega)
  unfold c_X7_hasSameToken
  refine Wp.ifT X.1 (Wp.cIe sv (Wp.rf rfl (Wp.ifT Y.1 (Wp.cIe sw ?_))))
  by_cases e : z1 = z2
  · refine Wp.ifT (by rw [e]) (Wp.ifT X.1 (Wp.ltO (Wp.rf r2 (Wp.ifT o2 (Wp.ltI (Wp.ifT Y.1 (Wp.ltO (Wp.rf r4 (Wp.ifT o4 (Wp.ltI ?_))))))))))
    rw [ix_n (show v < 2147483648 by omega), ix_n (show w < 2147483648 by omega), e1, e2]
    obtain ⟨_, ra, tb, nb, _, eb, _, _⟩ := X
    obtain ⟨_, rc, tc, nc, _, ec, _, _⟩ := Y
    generalize tp g1 n1 v = p at *
    generalize tp g2 n2 w = q at *
    refine Wp.loop (L := fun m (u : Int32) => c_X7_hasSameToken_L38 F a1 a2 (nI z1) (nI p) (nI q) m u h) (N := z1) (fun k u => u = nI k ∧ ∀ j, j < k → g1 (p + j) = g2 (q + j)) (fun m k u hk hP ih => ?_) (fun m u hP => ?_) F 0 (by omega) ⟨rfl, fun j hj => by omega⟩
    · obtain ⟨rfl, f⟩ := hP
      have ob : okA h b 21 (nI (p + k)) = true := okA_n tb nb (by omega) (by omega)
      have oc : okA h c 21 (nI (q + k)) = true := okA_n tc nc (by omega) (by omega)
      rw [c_X7_hasSameToken_L38, nI_1, nI_add, nI_add, ix_n (show p + k < 2147483648 by omega), ix_n (show q + k < 2147483648 by omega)]
      refine Wp.ifF (nI_ge hk (by omega)) (Wp.ifT ‹hT h a1 = 7› (Wp.ltO (Wp.rf ra (Wp.ifT ob (Wp.ifT ‹hT h a2 = 7› (Wp.ltO (Wp.rf rc (Wp.ifT oc ?_))))))))
      rw [eb _ (by omega), ec _ (by omega)]
      by_cases y : g1 (p + k) = g2 (q + k)
      · refine Wp.ifT y (Wp.ltI (ih (nI (k + 1)) ⟨rfl, fun j hj => ?_⟩))
        by_cases x : j = k
        · rw [x]; exact y
        · exact f j (by omega)
      · refine Wp.ifF y (Wp.ret ?_)
        rw [if_neg (fun t => y ((key.mp t).2 k hk))]
    · obtain ⟨rfl, f⟩ := hP
      rw [c_X7_hasSameToken_L38]
      refine Wp.ifT (nI_le (Nat.le_refl _) (by omega)) (Wp.ret ?_)
      rw [if_pos (key.mpr ⟨e, f⟩)]
  · refine Wp.ifF (fun y => e ((nI_eq (by omega) (by omega)).mp y)) (Wp.ret ?_)
    rw [if_neg (fun t => e (key.mp t).1)]
theorem x_min2 {a b c : Nat} (ha : a < 1000) (hb : b < 1000) (hc : c < 1000) : c_J9_min_7cf53 F (nI a) (nI b) h = some (nI (min a b), h) := by
  rw [x_min, nI_min (by omega) (by omega)]
/-- places 29: x's row of costs -/
theorem x_chg {ow : Ow} (o : OwOK ow) (I : Ifx h) (hF : 5000 ≤ F) {s1 s2 a1 n1 a2 n2 : Nat} {g1 g2 : Nat → Int32} (A0 : sgAt ow h s1 a1 n1 g1) (B0 : sgAt ow h s2 a2 n2 g2) (l1 : n1 ≤ 60) (l2 : n2 ≤ 60) : Wp (c_X0_changesBetween F 28 (some a1) (some a2) h) (fun r => r.1 = nI (dist g1 n1 g2 n2) ∧ ChI (fun a _ => a = 29) h r.2) := by
  have tl := tkn_le g1 n1
  have ul := tkn_le g2 n2
  have carry : ∀ k, ChI (fun a _ => a = 29) h k → Ifx k ∧ SgF k a1 n1 g1 ∧ SgF k a2 n2 g2 := fun k c => by
    have sk : St [125] ow h k := c.st I o (fun a i e => by rw [e]; exact ⟨by decide, List.mem_cons_self⟩)
    exact ⟨c.fx I, (A0.st I sk (OwX.refl _ _) (by decide) rfl).f l1, (B0.st I sk (OwX.refl _ _) (by decide) rfl).f l2⟩
  have h1 : ∀ k a n g, SgF k a n g → hT k a = 7 ∧ hI k a 4 = nI (tkn g n) := fun k a n g S => by
    obtain ⟨_, _, _, X, _, _⟩ := S
    exact ⟨X.1, X.2.2.2.2.2.2.2⟩
  generalize hsm : tokeq g1 n1 g2 n2 = sm
  have bd := ed_le sm
  unfold c_X0_changesBetween
  refine Wp.loop (L := fun m (u : Int32 × z_Hp) => c_X0_changesBetween_L2 F 28 (some a1) (some a2) (fun h14 => (c_X0_changesBetween_L25 F 28 (some a1) (some a2) F 0 h14)) m u.1 u.2) (N := tkn g2 n2 + 1) (fun t u => u.1 = nI t ∧ ChI (fun a _ => a = 29) h u.2 ∧ ∀ j, j < t → hI u.2 29 j = nI (ed sm 0 j)) (fun m t u ht hP ih => ?_) (fun m u hP => ?_) F (0, h) (by omega) ⟨rfl, ChI.refl _ _, fun j hj => by omega⟩
  · obtain ⟨u1, k⟩ := u
    obtain ⟨e1, e2, e3⟩ := hP
    dsimp only at e1 e2 e3 ⊢
    subst e1
    obtain ⟨Ik, Ak, Bk⟩ := carry k e2
    obtain ⟨tb, nb⟩ := h1 k a2 n2 g2 Bk
    have o29 : okA k 29 20 (nI t) = true := okA_n (fT29 Ik) (fN29 Ik) (by omega) (by decide)
    rw [c_X0_changesBetween_L2, nI_1, ix_n (show t < 2147483648 by omega)]
    refine Wp.rf rfl (Wp.ifT tb (Wp.ifF (by rw [nb]; exact nI_nlt (by omega) (by omega)) (Wp.ifT (fT28 Ik) (Wp.ltO (Wp.rf (fR28_0 Ik) (Wp.ifT o29 (Wp.ltH (Wp.ltI (ih (nI (t + 1), sI k 29 t (nI t)) ⟨rfl, e2.set rfl, fun j hj => ?_⟩)))))))))
    dsimp only
    rw [hI_sI]
    by_cases e : j = t
    · rw [if_pos ⟨rfl, e⟩, e, ed_00]
    · rw [if_neg (fun y => e y.2)]; exact e3 j (by omega)
  · obtain ⟨u1, k0⟩ := u
    obtain ⟨e1, e2', e3'⟩ := hP
    dsimp only at e1 e2' e3' ⊢
    subst e1
    obtain ⟨Ik0, Ak0, Bk0⟩ := carry k0 e2'
    obtain ⟨tb0, nb0⟩ := h1 k0 a2 n2 g2 Bk0
    rw [c_X0_changesBetween_L2]
    refine Wp.rf rfl (Wp.ifT tb0 (Wp.ifT (by rw [nb0]; exact nI_lt (by omega) (by omega)) ?_))
    refine Wp.loop (L := fun m (u : Int32 × z_Hp) => c_X0_changesBetween_L25 F 28 (some a1) (some a2) m u.1 u.2) (N := tkn g1 n1) (fun v u => u.1 = nI v ∧ ChI (fun a _ => a = 29) h u.2 ∧ ∀ j, j ≤ tkn g2 n2 → hI u.2 29 j = nI (ed sm v j)) (fun m v u hv hP ih => ?_) (fun m u hP => ?_) F (0, k0) (by omega) ⟨rfl, e2', fun j hj => e3' j (by omega)⟩
    · obtain ⟨u1, k⟩ := u
      obtain ⟨e1, e2, e3⟩ := hP
      dsimp only at e1 e2 e3 ⊢
      subst e1
      obtain ⟨Ik, Ak, Bk⟩ := carry k e2
      obtain ⟨ta, na⟩ := h1 k a1 n1 g1 Ak
      have o29 : okA k 29 20 0 = true := okA_n (k := 0) (fT29 Ik) (fN29 Ik) (by omega) (by decide)
      rw [c_X0_changesBetween_L25, nI_1]
      refine Wp.rf rfl (Wp.ifT ta (Wp.ifF (by rw [na]; exact nI_ge hv (by omega)) (Wp.ifT (fT28 Ik) (Wp.ltO (Wp.rf (fR28_0 Ik) (Wp.ifT o29 (Wp.ltI (Wp.ifT (fT28 Ik) (Wp.ltO (Wp.rf (fR28_0 Ik) (Wp.ifT o29 (Wp.ltH ?_))))))))))))
      rw [show ix 0 = 0 from rfl, e3 0 (by omega)]
      refine Wp.loop (L := fun m' (u : Int32 × Int32 × z_Hp) => c_X0_changesBetween_L53 F 28 a1 (some a2) (nI v) _ m' u.1 u.2.1 u.2.2) (N := tkn g2 n2) (fun w u => u.1 = nI (ed sm v w) ∧ u.2.1 = nI w ∧ ChI (fun a _ => a = 29) h u.2.2 ∧ (∀ j, j ≤ w → hI u.2.2 29 j = nI (ed sm (v + 1) j)) ∧ ∀ j, w < j → j ≤ tkn g2 n2 → hI u.2.2 29 j = nI (ed sm v j)) (fun m' w u hw hP ih2 => ?_) (fun m' u hP => ?_) F (nI (ed sm v 0), 0, sI k 29 0 (nI (v + 1))) (by omega) ⟨rfl, rfl, e2.set rfl, fun j hj => by
        have : j = 0 := by omega
        rw [this, hI_sI, if_pos ⟨rfl, rfl⟩, ed_s0], fun j h1 h2 => by
        rw [hI_sI, if_neg (by omega)]; exact e3 j h2⟩
      · obtain ⟨c1, c2, k'⟩ := u
        obtain ⟨f1, f2, f3, f4, f5⟩ := hP
        dsimp only at f1 f2 f3 f4 f5 ⊢
        subst f1 f2
        obtain ⟨I', A', B'⟩ := carry k' f3
        obtain ⟨ta', na'⟩ := h1 k' a1 n1 g1 A'
        obtain ⟨tb', nb'⟩ := h1 k' a2 n2 g2 B'
        have oW : okA k' 29 20 (nI w) = true := okA_n (fT29 I') (fN29 I') (by omega) (by decide)
        have oW1 : okA k' 29 20 (nI (w + 1)) = true := okA_n (fT29 I') (fN29 I') (by omega) (by decide)
        have b1 := bd v w
        have b2 := bd v (w + 1)
        have b3 := bd (v + 1) w
        rw [c_X0_changesBetween_L53, nI_1 w, ix_n (show w < 2147483648 by omega), ix_n (show w + 1 < 2147483648 by omega)]
        refine Wp.rf rfl (Wp.ifT tb' (Wp.ifF (by rw [nb']; exact nI_ge hw (by omega)) (Wp.ifT (fT28 I') (Wp.ltO (Wp.rf (fR28_0 I') (Wp.ifT oW1 (Wp.ltI (Wp.ifT ta' (Wp.cI ((x_same F hF A' B' hv hw).mono (fun r e => ?_)))))))))))
        rw [e]
        dsimp only
        rw [hsm, f5 (w + 1) (by omega) (by omega)]
        refine Wp.ifT (fT28 I') (Wp.ltO (Wp.lj (fun j hj => ?_)))
        have go : ∀ x : Nat, x = ed sm (v + 1) (w + 1) → Wp (j (nI x) k') (fun r => r.1 = nI (dist g1 n1 g2 n2) ∧ ChI (fun a _ => a = 29) h r.2) := fun x hx => by
          rw [hj]
          dsimp only
          refine Wp.rf (fR28_0 I') (Wp.ifT oW1 (Wp.ltH (Wp.ltI (ih2 (nI (ed sm v (w + 1)), nI (w + 1), sI k' 29 (w + 1) (nI x)) ⟨rfl, rfl, f3.set rfl, fun j hj => ?_, fun j g1 g2 => ?_⟩))))
          · dsimp only
            rw [hI_sI]
            by_cases e : j = w + 1
            · rw [if_pos ⟨rfl, e⟩, e, hx]
            · rw [if_neg (fun y => e y.2)]; exact f4 j (by omega)
          · dsimp only
            rw [hI_sI, if_neg (by omega)]; exact f5 j (by omega) g2
        by_cases c : sm v w = true
        · refine Wp.ifF (by rw [if_pos c]; exact one0) (go _ ?_)
          rw [ed_x, if_pos c]
        · refine Wp.ifT (by rw [if_neg c]) (Wp.ifT (fT28 I') (Wp.ltO (Wp.rf (fR28_0 I') (Wp.ifT oW ?_))))
          rw [f4 w (Nat.le_refl _)]
          refine Wp.cIe (x_min2 F (c := 0) (by omega) (by omega) (by decide)) (Wp.cIe (x_min2 F (c := 0) (by omega) (by have := Nat.min_le_left (ed sm v (w + 1)) (ed sm (v + 1) w); omega) (by decide)) ?_)
          rw [show (1 : Int32) = nI 1 from rfl, nI_add]
          exact go _ (by rw [ed_x, if_neg c])
      · obtain ⟨c1, c2, k'⟩ := u
        obtain ⟨f1, f2, f3, f4, f5⟩ := hP
        dsimp only at f1 f2 f3 f4 f5 ⊢
        subst f1 f2
        obtain ⟨I', A', B'⟩ := carry k' f3
        obtain ⟨tb', nb'⟩ := h1 k' a2 n2 g2 B'
        rw [c_X0_changesBetween_L53]
        exact Wp.rf rfl (Wp.ifT tb' (Wp.ifT (by rw [nb']; exact nI_le (Nat.le_refl _) (by omega)) (Wp.ltI (ih (nI (v + 1), k') ⟨rfl, f3, f4⟩))))
    · obtain ⟨u1, k⟩ := u
      obtain ⟨e1, e2, e3⟩ := hP
      dsimp only at e1 e2 e3 ⊢
      subst e1
      obtain ⟨Ik, Ak, Bk⟩ := carry k e2
      obtain ⟨ta, na⟩ := h1 k a1 n1 g1 Ak
      obtain ⟨tb, nb⟩ := h1 k a2 n2 g2 Bk
      have oE : okA k 29 20 (nI (tkn g2 n2)) = true := okA_n (fT29 Ik) (fN29 Ik) (by omega) (by decide)
      rw [c_X0_changesBetween_L25]
      refine Wp.rf rfl (Wp.ifT ta (Wp.ifT (by rw [na]; exact nI_le (Nat.le_refl _) (by omega)) (Wp.ifT (fT28 Ik) (Wp.ltO (Wp.rf rfl (Wp.ifT tb (Wp.rf (fR28_0 Ik) ?_)))))))
      rw [nb, ix_n (show tkn g2 n2 < 2147483648 by omega)]
      refine Wp.ifT oE (Wp.ret ⟨?_, e2⟩)
      dsimp only
      rw [e3 _ (Nat.le_refl _)]
      unfold dist
      rw [hsm]
end Chg2
