section Rhy
theorem some_s (g : Nat → Int32) (k : Nat) : some_ g (k + 1) = if g k = 47 then false else isL (g k) || some_ g k := rfl
theorem some_flat {g : Nat → Int32} {a b : Nat} (hab : a ≤ b) (hp : ∀ j, a ≤ j → j < b → g j = 32) : some_ g b = some_ g a := by
  obtain ⟨d, rfl⟩ : ∃ d, b = a + d := ⟨b - a, by omega⟩
  clear hab
  induction d with
  | zero => rfl
  | succ d ih =>
    have e := hp (a + d) (by omega) (by omega)
    rw [← Nat.add_assoc, some_s, e, if_neg (by decide), isL32, Bool.false_or]
    exact ih (fun j h1 h2 => hp j h1 (by omega))
theorem some_pos {g : Nat → Int32} {n w : Nat} (hv : ∀ k, k < n → isL (g k) = true ∨ g k = 32 ∨ g k = 47) (hw : w ≤ tkn g n) (hs : some_ g (pos g n w) = true) : 0 < w ∧ Zw g n (w - 1) = false := by
  by_cases w0 : w = 0
  · exfalso
    rw [w0] at hs
    have b := blanks (g := g) (a := 0) (b := pos g n 0) (fun _ => rfl) (fun j _ h2 => pos_0 j h2)
    rw [some_flat (Nat.zero_le _) b] at hs
    cases hs
  · refine ⟨by omega, ?_⟩
    obtain ⟨v, rfl⟩ : ∃ v, w = v + 1 := ⟨w - 1, by omega⟩
    rw [Nat.add_sub_cancel]
    cases z : Zw g n v with
    | false => rfl
    | true =>
      exfalso
      have hv' : v < tkn g n := by omega
      have g47 := (Zw_47 hv hv').mp z
      obtain ⟨p1, p2⟩ := pos_gap hv'
      have b := blanks (g := g) (a := tp g n v + 1) (b := pos g n (v + 1)) (fun _ => by rw [cont_s, g47, isL47, Bool.and_false]) (fun j h1 h2 => p2 j (by omega) h2)
      rw [some_flat (by omega) b, some_s, if_pos g47] at hs
      cases hs
theorem nz_mid {g : Nat → Int32} {n w : Nat} (S : isSg g n) (hw : w < tkn g n) (z : Zw g n w = true) : 0 < w ∧ Zw g n (w - 1) = false := by
  refine some_pos S.1 (Nat.le_of_lt hw) ?_
  rw [pos_lt hw]
  exact S.2.1 _ (tp_ok hw).1 ((Zw_47 S.1 hw).mp z)
theorem nz_end {g : Nat → Int32} {n : Nat} (S : isSg g n) : 0 < tkn g n ∧ Zw g n (tkn g n - 1) = false := by
  refine some_pos S.1 (Nat.le_refl _) ?_
  rw [pos_end]
  exact S.2.2.1
/-- the last word of line i -/
def LW (g : Nat → Int32) (n i w : Nat) : Prop := w < tkn g n ∧ Zw g n w = false ∧ fb_ct (Zw g n) w = i ∧ (w + 1 = tkn g n ∨ Zw g n (w + 1) = true)
theorem LW.le {g : Nat → Int32} {n i w v : Nat} (A : LW g n i w) (B : LW g n i v) : v ≤ w := by
  apply Nat.le_of_not_lt
  intro c
  obtain ⟨a1, a2, a3, a4⟩ := A
  obtain ⟨b1, b2, b3, b4⟩ := B
  rcases a4 with a4 | a4
  · omega
  · have ne : ¬ w + 1 = v := fun e => by rw [e, b2] at a4; cases a4
    have s1 : fb_ct (Zw g n) (w + 1) = fb_ct (Zw g n) w := by rw [fb_ct_succ, a2]; rfl
    have s2 : fb_ct (Zw g n) (w + 1 + 1) = fb_ct (Zw g n) (w + 1) + 1 := by rw [fb_ct_succ, if_pos a4]
    have m := fb_ct_mono (Zw g n) (show w + 1 + 1 ≤ v by omega)
    omega
theorem LW.eq {g : Nat → Int32} {n i w v : Nat} (A : LW g n i w) (B : LW g n i v) : w = v := Nat.le_antisymm (B.le A) (A.le B)
theorem LA.w {g : Nat → Int32} {n i w : Nat} (S : isSg g n) (A : LA g n i w) : w < tkn g n ∧ Zw g n w = false := by
  obtain ⟨a1, a2, a3, a4⟩ := A
  obtain ⟨n1, n2⟩ := nz_end S
  have lt : w < tkn g n := by
    apply Nat.lt_of_not_le
    intro c
    have e : w = tkn g n := by omega
    by_cases i0 : i = 0
    · have := a3 i0
      omega
    · have := (a4 (by omega)).2
      rw [e, n2] at this
      cases this
  refine ⟨lt, ?_⟩
  cases z : Zw g n w with
  | false => rfl
  | true =>
    exfalso
    obtain ⟨m1, m2⟩ := nz_mid S lt z
    by_cases i0 : i = 0
    · have := a3 i0
      omega
    · have := (a4 (by omega)).2
      rw [m2] at this
      cases this
end Rhy
section Rhy2
variable {h : z_Hp} (F : Nat) (x1 x2 x3 x4 x5 : Int32)
/-- x's rows of words -/
def SgT (h : z_Hp) (a b2 b3 n : Nat) (g : Nat → Int32) : Prop := hR h a 2 = some b2 ∧ hT h b2 = 20 ∧ hN h b2 = n ∧ hR h a 3 = some b3 ∧ hT h b3 = 20 ∧ hN h b3 = n ∧ ∀ w, w < tkn g n → hI h b2 w = nI (tp g n w) ∧ hI h b3 w = nI (tke g n (tp g n w))
theorem sgAt.t {ow : Ow} {s a n : Nat} {g : Nat → Int32} (S : sgAt ow h s a n g) : ∃ b2 b3, SgT h a b2 b3 n g := by
  obtain ⟨a1, a2, a3, a4, a5, a6, _, ⟨c, c1, c2, c3, c4, c5⟩, ⟨d, d1, d2, d3, d4, d5⟩⟩ := S
  refine ⟨c, d, c1, c2, c3, d1, d2, d3, fun w hw => ?_⟩
  obtain ⟨t1, t2, t3⟩ := tp_ok hw
  have e1 := c5 _ t1 t2
  have e2 := d5 _ t1 t2
  rw [t3] at e1 e2
  exact ⟨e1, e2⟩
theorem x_lastW (hF : 5000 ≤ F) {a b b2 b3 n i : Nat} {g : Nat → Int32} (X : SgX h a b n g) (T : SgT h a b2 b3 n g) (S : isSg g n) (hi : i ≤ mks g n) : Wp (c_X7_lastWord F a (nI i) h) (fun r => ∃ w, r = (nI w, h) ∧ LW g n i w) := by
  obtain ⟨ta, ra, tb, nb, n60, eb, _, e4⟩ := X
  obtain ⟨r2, t2, n2, r3, t3, n3, et⟩ := T
  have tl := tkn_le g n
  have ml : mks g n ≤ n := fb_ct_le _ _
  have fz : fb_ct (Zw g n) (tkn g n) = mks g n := mks_w S.1
  obtain ⟨ne1, ne2⟩ := nz_end S
  unfold c_X7_lastWord
  refine Wp.loop (L := fun m (u : Int32 × Int32 × Int32) => c_X7_lastWord_L7 F a (nI i) m u.1 u.2.1 u.2.2 h) (N := tkn g n) (fun k u => u.1 = nI (fb_ct (Zw g n) k) ∧ u.2.1 = nI (if k = 0 then 0 else if Zw g n (k - 1) = true then k - 2 else k - 1) ∧ u.2.2 = nI k ∧ (0 < k → fb_ct (Zw g n) (k - 1) ≤ i)) (fun m k u hk hP ih => ?_) (fun m u hP => ?_) F (0, 0, 0) (by omega) ⟨rfl, rfl, rfl, fun y => by omega⟩
  · obtain ⟨u1, u2, u3⟩ := u
    obtain ⟨q1, q2, q3, q4⟩ := hP
    dsimp only at q1 q2 q3 ⊢
    subst q1 q2 q3
    have fl := fb_ct_le (Zw g n) k
    obtain ⟨p1, p2, p3⟩ := tp_ok hk
    rw [c_X7_lastWord_L7, nI_1 k, nI_1 (fb_ct (Zw g n) k)]
    refine Wp.ifT ta (Wp.ifF (by rw [e4]; exact nI_ge hk (by omega)) ?_)
    by_cases c : i < fb_ct (Zw g n) k
    · refine Wp.ifT (nI_lt c (by omega)) (Wp.ret ⟨_, rfl, ?_⟩)
      have k0 : ¬ k = 0 := fun y => by rw [y] at c; have : fb_ct (Zw g n) 0 = 0 := rfl; omega
      obtain ⟨v, rfl⟩ : ∃ v, k = v + 1 := ⟨k - 1, by omega⟩
      rw [Nat.add_sub_cancel] at q4 ⊢
      have q5 := q4 (by omega)
      have zt : Zw g n v = true := by
        cases z : Zw g n v with
        | true => rfl
        | false => rw [fb_ct_succ, z] at c; exact absurd q5 (by have : fb_ct (Zw g n) v + 0 = fb_ct (Zw g n) v := rfl; simp only [Bool.false_eq_true, if_false] at c; omega)
      obtain ⟨m1, m2⟩ := nz_mid S (by omega) zt
      have e1 : fb_ct (Zw g n) (v + 1) = fb_ct (Zw g n) v + 1 := by rw [fb_ct_succ, if_pos zt]
      obtain ⟨v2, rfl⟩ : ∃ v2, v = v2 + 1 := ⟨v - 1, by omega⟩
      rw [Nat.add_sub_cancel] at m2
      have e2 : fb_ct (Zw g n) (v2 + 1) = fb_ct (Zw g n) v2 := by rw [fb_ct_succ, m2]; rfl
      rw [if_neg k0, if_pos zt, show v2 + 1 + 1 - 2 = v2 by omega]
      exact ⟨by omega, m2, by omega, Or.inr zt⟩
    · have o2 : okA h b2 20 (nI k) = true := okA_n t2 n2 (by omega) (by omega)
      have ob : okA h b 21 (nI (tp g n k)) = true := okA_n tb nb p1 (by omega)
      refine Wp.ifF (nI_nlt (by omega) (by omega)) (Wp.ifT ta (Wp.ltO (Wp.ifT ta (Wp.ltO (Wp.rf r2 (Wp.ifT o2 ?_))))))
      rw [ix_n (show k < 2147483648 by omega), (et k hk).1, ix_n (show tp g n k < 2147483648 by omega)]
      refine Wp.rf ra (Wp.ifT ob (Wp.lj (fun j hj => ?_)))
      rw [eb _ p1]
      have go : ∀ m' l', m' = fb_ct (Zw g n) (k + 1) → (l' = if Zw g n k = true then k - 1 else k) → Wp (j (nI m') (nI l') h) (fun r => ∃ w, r = (nI w, h) ∧ LW g n i w) := fun m' l' hm hl => by
        rw [hj]
        refine ih (nI m', nI l', nI (k + 1)) ⟨by rw [hm], ?_, rfl, fun _ => by rw [Nat.add_sub_cancel]; omega⟩
        dsimp only
        rw [hl, if_neg (show ¬ k + 1 = 0 by omega), Nat.add_sub_cancel, show k + 1 - 2 = k - 1 by omega]
      by_cases z : g (tp g n k) = 47
      · have zt := (Zw_47 S.1 hk).mpr z
        obtain ⟨m1, m2⟩ := nz_mid S hk zt
        refine Wp.ifT z (Wp.ltI (go _ _ (by rw [fb_ct_succ, if_pos zt]) ?_))
        rw [if_pos zt, if_neg (by omega), m2, if_neg (by decide)]
      · have zf : Zw g n k = false := by
          cases y : Zw g n k with
          | true => exact absurd ((Zw_47 S.1 hk).mp y) z
          | false => rfl
        exact Wp.ifF z (go _ _ (by rw [fb_ct_succ, zf]; rfl) (by rw [zf, if_neg (by decide)]))
  · obtain ⟨u1, u2, u3⟩ := u
    obtain ⟨q1, q2, q3, q4⟩ := hP
    dsimp only at q1 q2 q3 ⊢
    subst q1 q2 q3
    rw [c_X7_lastWord_L7]
    refine Wp.ifT ta (Wp.ifT (by rw [e4]; exact nI_le (Nat.le_refl _) (by omega)) (Wp.ret ⟨_, rfl, ?_⟩))
    rw [if_neg (by omega), ne2, if_neg (by decide)]
    have q5 := q4 (by omega)
    obtain ⟨v, hv⟩ : ∃ v, tkn g n = v + 1 := ⟨tkn g n - 1, by omega⟩
    rw [hv, Nat.add_sub_cancel] at ne2 q5 ⊢
    have e1 : fb_ct (Zw g n) (v + 1) = fb_ct (Zw g n) v := by rw [fb_ct_succ, ne2]; rfl
    rw [hv] at fz
    exact ⟨by omega, ne2, by omega, Or.inl hv.symm⟩
theorem m_lastW (I : Ifx h) (hF : 5000 ≤ F) {n i : Nat} {g : Nat → Int32} (n60 : n ≤ 60) (S : isSg g n) (W : Wd h n g) (hi : i ≤ mks g n) : Wp (c_X10_lastWord F 46 (nI i) h) (fun r => ∃ w, r = (nI w, h) ∧ LW g n i w) := by
  have tl := tkn_le g n
  unfold c_X10_lastWord
  refine Wp.ifT (fT46 I) (Wp.cI ((m_lineAt F I hF n60 S.1 W hi).mono (fun r e => ?_)))
  obtain ⟨w0, rfl, A⟩ := e
  obtain ⟨l1, l2⟩ := A.w S
  dsimp only
  refine Wp.dn (L := fun m (u : Int32) => c_X10_lastWord_L6 F 46 m u h) (fun d u => ∃ w, d = tkn g n - w ∧ w < tkn g n ∧ u = nI w ∧ Zw g n w = false ∧ fb_ct (Zw g n) w = i) (fun m d u hP ih => ?_) F (tkn g n - w0) (nI w0) (by omega) ⟨w0, rfl, l1, rfl, l2, A.2.1⟩
  obtain ⟨w, rfl, hw, rfl, z, f⟩ := hP
  rw [c_X10_lastWord_L6, nI_1]
  by_cases c : w + 1 < tkn g n
  · have o56 : okA h 56 20 (nI (w + 1)) = true := okA_n (fT56 I) (fN56 I) (by omega) (by decide)
    have wl := wsz_le g (n := n) (k := tp g n (w + 1)) (by have := (tp_ok c).1; omega)
    refine Wp.ifT (fT46 I) (Wp.ifF (by rw [W.1]; exact nI_ge c (by omega)) (Wp.ifT (fT46 I) (Wp.ltO (Wp.rf (fR46_16 I) (Wp.ifT o56 ?_)))))
    rw [ix_n (show w + 1 < 2147483648 by omega), (W.at c).2]
    by_cases y : wsz g n (tp g n (w + 1)) = 0
    · exact Wp.ifT (by rw [y]; decide) (Wp.ret ⟨w, rfl, hw, z, f, Or.inr (decide_eq_true y)⟩)
    · exact Wp.ifF (nI_nle (by omega) (by omega)) (Wp.ltI (ih (tkn g n - (w + 1)) (nI (w + 1)) (by omega) ⟨w + 1, rfl, c, rfl, decide_eq_false y, by rw [fb_ct_succ, z, f]; rfl⟩))
  · exact Wp.ifT (fT46 I) (Wp.ifT (by rw [W.1]; exact nI_le (by omega) (by omega)) (Wp.ret ⟨w, rfl, hw, z, f, Or.inl (by omega)⟩))
/-- whether two words sound alike at their ends -/
def rhy (g : Nat → Int32) (p1 z1 p2 z2 : Nat) : Int32 := if ¬ (z1 = 1 ↔ z2 = 1) then 0 else if g (p1 + z1 - 1) = g (p2 + z2 - 1) then (if z1 = 1 then 1 else if g (p1 + z1 - 2) = g (p2 + z2 - 2) then 1 else 0) else 0
theorem x_size {a b2 b3 n w : Nat} {g : Nat → Int32} (ta : hT h a = 7) (n60 : n ≤ 60) (T : SgT h a b2 b3 n g) (hw : w < tkn g n) : c_X7_size F a (nI w) h = some (nI (tke g n (tp g n w)) - nI (tp g n w), h) := by
  obtain ⟨r2, t2, n2, r3, t3, n3, et⟩ := T
  have tl := tkn_le g n
  have o2 : okA h b2 20 (nI w) = true := okA_n t2 n2 (by omega) (by omega)
  have o3 : okA h b3 20 (nI w) = true := okA_n t3 n3 (by omega) (by omega)
  unfold c_X7_size
  simp only [ta, if_true, r2, r3, ltq, nnq, o2, o3, ix_n (show w < 2147483648 by omega), (et w hw).1, (et w hw).2]
theorem x_fromEnd {a b b2 b3 n w bk' : Nat} {g : Nat → Int32} (X : SgX h a b n g) (T : SgT h a b2 b3 n g) (hw : w < tkn g n) (hb : bk' ≤ tke g n (tp g n w)) (h0 : 0 < bk') (he : tke g n (tp g n w) ≤ n) : c_X7_fromEnd F a (nI w) (nI bk') h = some (g (tke g n (tp g n w) - bk'), h) := by
  obtain ⟨ta, ra, tb, nb, n60, eb, _, e4⟩ := X
  obtain ⟨r2, t2, n2, r3, t3, n3, et⟩ := T
  have tl := tkn_le g n
  have o3 : okA h b3 20 (nI w) = true := okA_n t3 n3 (by omega) (by omega)
  have ob : okA h b 21 (nI (tke g n (tp g n w) - bk')) = true := okA_n tb nb (by omega) (by omega)
  unfold c_X7_fromEnd
  simp only [ta, ra, if_true, r3, ltq, nnq, o3, ix_n (show w < 2147483648 by omega), (et w hw).2, nI_sub hb, ob, ix_n (show tke g n (tp g n w) - bk' < 2147483648 by omega), eb _ (show tke g n (tp g n w) - bk' < n by omega)]
theorem tke_w {g : Nat → Int32} {n k : Nat} (hz : ¬ wsz g n k = 0) : tke g n k = k + wsz g n k := by
  unfold tke wsz at *
  by_cases c : g k = 47
  · rw [if_pos c] at hz; exact absurd rfl hz
  · rw [if_neg c, if_neg c]
theorem x_rhyme (hF : 5000 ≤ F) {a b b2 b3 n i j : Nat} {g : Nat → Int32} (X : SgX h a b n g) (T : SgT h a b2 b3 n g) (S : isSg g n) (hi : i ≤ mks g n) (hj : j ≤ mks g n) {w v : Nat} (A : LW g n i w) (B : LW g n j v) : Wp (c_X7_linesRhyme F a (nI i) (nI j) h) (fun r => r = (rhy g (tp g n w) (wsz g n (tp g n w)) (tp g n v) (wsz g n (tp g n v)), h)) := by
  have n60 := X.2.2.2.2.1
  have ta := X.1
  have zw : ¬ wsz g n (tp g n w) = 0 := fun y => by have := A.2.1; rw [show Zw g n w = true from decide_eq_true y] at this; cases this
  have zv : ¬ wsz g n (tp g n v) = 0 := fun y => by have := B.2.1; rw [show Zw g n v = true from decide_eq_true y] at this; cases this
  have wl := wsz_le g (n := n) (k := tp g n w) (by have := (tp_ok A.1).1; omega)
  have vl := wsz_le g (n := n) (k := tp g n v) (by have := (tp_ok B.1).1; omega)
  have sw := x_size F ta n60 T A.1
  have sv := x_size F ta n60 T B.1
  have fw := fun bk' h1 h2 => x_fromEnd F X T A.1 (bk' := bk') h1 h2 (by rw [tke_w zw]; exact wl)
  have fv := fun bk' h1 h2 => x_fromEnd F X T B.1 (bk' := bk') h1 h2 (by rw [tke_w zv]; exact vl)
  rw [tke_w zw, nI_sub (by omega), Nat.add_sub_cancel_left] at sw
  rw [tke_w zv, nI_sub (by omega), Nat.add_sub_cancel_left] at sv
  rw [tke_w zw] at fw
  rw [tke_w zv] at fv
  generalize tp g n w = p1 at *
  generalize tp g n v = p2 at *
  generalize wsz g n p1 = z1 at *
  generalize wsz g n p2 = z2 at *
  unfold c_X7_linesRhyme rhy
  refine Wp.ifT ta (Wp.cI ((x_lastW F hF X T S hi).mono (fun r e => ?_)))
  obtain ⟨w', rfl, A'⟩ := e
  have := A'.eq A
  rw [this]
  dsimp only
  refine Wp.ifT ta (Wp.cI ((x_lastW F hF X T S hj).mono (fun r e => ?_)))
  obtain ⟨v', rfl, B'⟩ := e
  have := B'.eq B
  rw [this]
  dsimp only
  refine Wp.ifT ta (Wp.cIe sw (Wp.lj (fun jA hjA => ?_)))
  have one1 : ∀ z : Nat, z ≤ 60 → (nI z = (1 : Int32) ↔ z = 1) := fun z hz => nI_eq (b := 1) (by omega) (by omega)
  have gA : ∀ d : Bool, (d = true ↔ z1 = 1) → Wp (jA (if d = true then 1 else 0) h) (fun r => r = (if ¬ (z1 = 1 ↔ z2 = 1) then 0 else if g (p1 + z1 - 1) = g (p2 + z2 - 1) then (if z1 = 1 then 1 else if g (p1 + z1 - 2) = g (p2 + z2 - 2) then 1 else 0) else 0, h)) := fun d hd => by
    rw [hjA]
    dsimp only
    refine Wp.ifT ta (Wp.cIe sv (Wp.lj (fun jB hjB => ?_)))
    have gB : ∀ d2 : Bool, (d2 = true ↔ z2 = 1) → Wp (jB (if d2 = true then 1 else 0) h) (fun r => r = (if ¬ (z1 = 1 ↔ z2 = 1) then 0 else if g (p1 + z1 - 1) = g (p2 + z2 - 1) then (if z1 = 1 then 1 else if g (p1 + z1 - 2) = g (p2 + z2 - 2) then 1 else 0) else 0, h)) := fun d2 hd2 => by
      rw [hjB]
      dsimp only
      by_cases e : z1 = 1 ↔ z2 = 1
      · have dd : d = d2 := by
          cases x : d <;> cases y : d2
          · rfl
          · exact absurd (hd.mpr (e.mpr (hd2.mp y))) (by rw [x]; decide)
          · exact absurd (hd2.mpr (e.mp (hd.mp x))) (by rw [y]; decide)
          · rfl
        rw [if_neg (show ¬ ¬ (z1 = 1 ↔ z2 = 1) from fun y => y e)]
        refine Wp.ifT (by rw [dd]) (Wp.ifT ta (Wp.cIe (fw 1 (by omega) (by decide)) (Wp.ifT ta (Wp.cIe (fv 1 (by omega) (by decide)) ?_))))
        by_cases l1 : g (p1 + z1 - 1) = g (p2 + z2 - 1)
        · refine Wp.ifT l1 ?_
          rw [if_pos l1]
          by_cases s1 : z1 = 1
          · rw [if_pos s1, hd.mpr s1]
            exact Wp.ifF one0 (Wp.ret rfl)
          · have df : d = false := by cases x : d with | true => exact absurd (hd.mp x) s1 | false => rfl
            have s2 : ¬ z2 = 1 := fun y => s1 (e.mpr y)
            rw [if_neg s1, df]
            refine Wp.ifT rfl (Wp.ifT ta (Wp.cIe (fw 2 (by omega) (by decide)) (Wp.ifT ta (Wp.cIe (fv 2 (by omega) (by decide)) ?_))))
            by_cases l2 : g (p1 + z1 - 2) = g (p2 + z2 - 2)
            · refine Wp.ifT l2 ?_
              rw [if_pos l2]; exact Wp.ret rfl
            · refine Wp.ifF l2 ?_
              rw [if_neg l2]; exact Wp.ret rfl
        · refine Wp.ifF l1 ?_
          rw [if_neg l1]
          exact Wp.ret rfl
      · rw [if_pos (show ¬ (z1 = 1 ↔ z2 = 1) from e)]
        refine Wp.ifF (fun y => e ?_) (Wp.ret rfl)
        have dd : d = d2 := by
          cases x : d <;> cases y2 : d2
          · rfl
          · rw [x, y2] at y; exact absurd y (by decide)
          · rw [x, y2] at y; exact absurd y (by decide)
          · rfl
        rw [← hd, ← hd2, dd]
    by_cases c : z2 = 1
    · exact Wp.ifT (by rw [c]; rfl) (gB true ⟨fun _ => c, fun _ => rfl⟩)
    · exact Wp.ifF (fun y => c ((one1 z2 (by omega)).mp y)) (gB false ⟨fun y => (by cases y), fun y => absurd y c⟩)
  by_cases c : z1 = 1
  · exact Wp.ifT (by rw [c]; rfl) (gA true ⟨fun _ => c, fun _ => rfl⟩)
  · exact Wp.ifF (fun y => c ((one1 z1 (by omega)).mp y)) (gA false ⟨fun y => (by cases y), fun y => absurd y c⟩)
end Rhy2
