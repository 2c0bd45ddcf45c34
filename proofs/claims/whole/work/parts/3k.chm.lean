section Chm
variable {h : z_Hp} (F : Nat) (x1 x2 x3 x4 x5 : Int32)
def Am (a i : Nat) : Prop := (a = 46 ∧ i = 14) ∨ a = 55 ∨ a = 56 ∨ a = 82 ∨ a = 83 ∨ a = 84 ∨ a = 85
theorem Am.ow {a i : Nat} (e : Am a i) : a < 94 ∧ ow0 a i ∈ [102, 107, 108] := by
  rcases e with ⟨rfl, rfl⟩ | rfl | rfl | rfl | rfl | rfl | rfl
  · exact ⟨by decide, by decide⟩
  · exact ⟨by decide, List.mem_cons_self⟩
  · exact ⟨by decide, List.mem_cons_self⟩
  · exact ⟨by decide, List.mem_cons_of_mem _ List.mem_cons_self⟩
  · exact ⟨by decide, List.mem_cons_of_mem _ List.mem_cons_self⟩
  · exact ⟨by decide, List.mem_cons_of_mem _ (List.mem_cons_of_mem _ List.mem_cons_self)⟩
  · exact ⟨by decide, List.mem_cons_of_mem _ (List.mem_cons_of_mem _ List.mem_cons_self)⟩
theorem Am.sc {a i : Nat} (e : Am a i) : ¬ (50 ≤ ow0 a i ∧ ow0 a i < 100) := by
  have := e.ow.2
  simp only [List.mem_cons, List.not_mem_nil, or_false] at this
  omega
theorem Aw.m {a i : Nat} (e : Aw a i) : Am a i := by
  rcases e with e | e | e
  · exact Or.inl e
  · exact Or.inr (Or.inl e)
  · exact Or.inr (Or.inr (Or.inl e))
/-- the words of the other song -/
def Oth (h : z_Hp) (n : Nat) (g : Nat → Int32) : Prop := ∀ v, v < tkn g n → hI h 82 v = nI (tp g n v) ∧ hI h 83 v = nI (wsz g n (tp g n v))
theorem m_alike (I : Ifx h) (hF : 5000 ≤ F) {sa nA sb nB v w : Nat} {gA gB : Nat → Int32} (A : SgM h sa nA gA) (B : SgM h sb nB gB) (W : Wd h nB gB) (O : Oth h nA gA) (hv : v < tkn gA nA) (hw : w < tkn gB nB) : Wp (c_X10_areAlike F 46 (nI sa) (nI v) (nI sb) (nI w) h) (fun r => r = (if tokeq gA nA gB nB v w = true then 1 else 0, h)) := by
  have a60 := A.2.1
  have b60 := B.2.1
  have tl := tkn_le gA nA
  have ul := tkn_le gB nB
  have sa10 := A.1
  have sb10 := B.1
  have va := wsz_le gA (n := nA) (k := tp gA nA v) (by have := (tp_ok hv).1; omega)
  have wb := wsz_le gB (n := nB) (k := tp gB nB w) (by have := (tp_ok hw).1; omega)
  obtain ⟨o1, o2⟩ := O v hv
  obtain ⟨w1, w2⟩ := W.at hw
  have ov82 : okA h 82 20 (nI v) = true := okA_n (fT82 I) (fN82 I) (by omega) (by decide)
  have ov83 : okA h 83 20 (nI v) = true := okA_n (fT83 I) (fN83 I) (by omega) (by decide)
  have ow55 : okA h 55 20 (nI w) = true := okA_n (fT55 I) (fN55 I) (by omega) (by decide)
  have ow56 : okA h 56 20 (nI w) = true := okA_n (fT56 I) (fN56 I) (by omega) (by decide)
  have key : tokeq gA nA gB nB v w = true ↔ wsz gA nA (tp gA nA v) = wsz gB nB (tp gB nB w) ∧ ∀ k, k < wsz gA nA (tp gA nA v) → gA (tp gA nA v + k) = gB (tp gB nB w + k) := by unfold tokeq; rw [decide_eq_true_iff]
  generalize tokeq gA nA gB nB v w = tq at *
  generalize tp gA nA v = p at *
  generalize tp gB nB w = q at *
  generalize wsz gA nA p = z1 at *
  generalize wsz gB nB q = z2 at *
  unfold c_X10_areAlike
  refine Wp.ifT (fT46 I) (Wp.ltO (Wp.rf (fR46_46 I) (Wp.ifT ov83 (Wp.ifT (fT46 I) (Wp.ltO (Wp.rf (fR46_16 I) (Wp.ifT ow56 (Wp.lj (fun j hj => ?_)))))))))
  rw [ix_n (show v < 2147483648 by omega), ix_n (show w < 2147483648 by omega), o2, w2]
  have stop : ∀ (N k : Nat), tq = false → Wp (c_X10_areAlike_L26 F 46 (nI sa) (nI v) (nI sb) (nI w) (N + 1) 0 (nI k) h) (fun r => r = (if tq = true then 1 else 0, h)) := fun N k ht => by
    rw [c_X10_areAlike_L26]
    refine Wp.ifT (fT46 I) (Wp.ltO (Wp.rf (fR46_16 I) (Wp.ifT ow56 ?_)))
    have fin : Wp (if (0 : Int32) = 0 ∨ (0 : Int32) = 1 then some ((0 : Int32), h) else none) (fun r => r = (if tq = true then 1 else 0, h)) := Wp.ifT (Or.inl rfl) (Wp.ret (by rw [ht]; rfl))
    exact Wp.cs (fun _ => fin) (fun _ => Wp.ifT rfl fin)
  by_cases e : z1 = z2
  · refine Wp.ifT (by rw [e]) ?_
    rw [hj]
    refine Wp.loop (L := fun m (u : Int32 × Int32) => c_X10_areAlike_L26 F 46 (nI sa) (nI v) (nI sb) (nI w) m u.1 u.2 h) (N := z2) (fun k u => u.2 = nI k ∧ ((u.1 = 1 ∧ ∀ j, j < k → gA (p + j) = gB (q + j)) ∨ (u.1 = 0 ∧ tq = false))) (fun m k u hk hP ih => ?_) (fun m u hP => ?_) F (1, 0) (by omega) ⟨rfl, Or.inl ⟨rfl, fun j hj => by omega⟩⟩
    · obtain ⟨u1, u2⟩ := u
      obtain ⟨e2, e1⟩ := hP
      dsimp only at e1 e2 ⊢
      subst e2
      rcases e1 with ⟨e1, f⟩ | ⟨e1, f⟩
      · subst e1
        have oA : okA h 54 20 (nI (60 * sa + (p + k))) = true := okA_n (fT54 I) (fN54 I) (by omega) (by decide)
        have oB : okA h 54 20 (nI (60 * sb + (q + k))) = true := okA_n (fT54 I) (fN54 I) (by omega) (by decide)
        have iA : (60 : Int32) * nI sa + nI p + nI k = nI (60 * sa + (p + k)) := by rw [e60, nI_add, Nat.add_assoc]
        have iB : (60 : Int32) * nI sb + nI q + nI k = nI (60 * sb + (q + k)) := by rw [e60, nI_add, Nat.add_assoc]
        rw [c_X10_areAlike_L26, nI_1, ix_n (show v < 2147483648 by omega), ix_n (show w < 2147483648 by omega)]
        refine Wp.ifT (fT46 I) (Wp.ltO (Wp.rf (fR46_16 I) (Wp.ifT ow56 (Wp.ifF (by rw [w2]; exact nI_ge hk (by omega)) (Wp.ifF one0 (Wp.ifT (fT46 I) (Wp.ltO (Wp.ifT (fT46 I) (Wp.ltO (Wp.rf (fR46_45 I) (Wp.ifT ov82 (Wp.rf (fR46_13 I) ?_))))))))))))
        rw [o1, iA, ix_n (show 60 * sa + (p + k) < 2147483648 by omega)]
        refine Wp.ifT oA (Wp.ifT (fT46 I) (Wp.ltO (Wp.ifT (fT46 I) (Wp.ltO (Wp.rf (fR46_15 I) (Wp.ifT ow55 (Wp.rf (fR46_13 I) ?_)))))))
        rw [w1, iB, ix_n (show 60 * sb + (q + k) < 2147483648 by omega)]
        refine Wp.ifT oB (Wp.lj (fun j3 hj3 => ?_))
        rw [A.2.2.2.1 _ (by omega), B.2.2.2.1 _ (by omega)]
        by_cases y : gA (p + k) = gB (q + k)
        · refine Wp.ifT y ?_
          rw [hj3]
          refine ih (1, nI (k + 1)) ⟨rfl, Or.inl ⟨rfl, fun j hj => ?_⟩⟩
          by_cases x : j = k
          · rw [x]; exact y
          · exact f j (by omega)
        · refine Wp.ifF y ?_
          rw [hj3]
          refine ih (0, nI (k + 1)) ⟨rfl, Or.inr ⟨rfl, ?_⟩⟩
          cases t : tq with
          | true => exact absurd ((key.mp t).2 k (by omega)) y
          | false => rfl
      · subst e1
        exact stop m k f
    · obtain ⟨u1, u2⟩ := u
      obtain ⟨e2, e1⟩ := hP
      dsimp only at e1 e2 ⊢
      subst e2
      rw [c_X10_areAlike_L26, ix_n (show w < 2147483648 by omega)]
      refine Wp.ifT (fT46 I) (Wp.ltO (Wp.rf (fR46_16 I) (Wp.ifT ow56 (Wp.ifT (by rw [w2]; exact nI_le (Nat.le_refl _) (by omega)) ?_))))
      rcases e1 with ⟨e1, f⟩ | ⟨e1, f⟩
      · subst e1
        refine Wp.ifT (Or.inr rfl) (Wp.ret ?_)
        rw [key.mpr ⟨e, fun k hk => f k (by omega)⟩]; rfl
      · subst e1
        refine Wp.ifT (Or.inl rfl) (Wp.ret ?_)
        rw [f]; rfl
  · refine Wp.ifF (fun y => e ((nI_eq (by omega) (by omega)).mp y)) ?_
    rw [hj]
    obtain ⟨F1, hF1⟩ : ∃ F1, F = F1 + 1 := ⟨F - 1, by omega⟩
    have tf : tq = false := by
      cases t : tq with
      | true => exact absurd (key.mp t).1 e
      | false => rfl
    have := stop F1 0 tf
    rw [← hF1] at this
    exact this
theorem ed_m (sm : Nat → Nat → Bool) (v w : Nat) (hvw : v + w < 1000) : ∀ c : Nat, (c = if sm v w = true then 0 else 1) → (if (if nI (ed sm v w + c) ≤ nI (ed sm v (w + 1) + 1) then nI (ed sm v w + c) else nI (ed sm v (w + 1) + 1)) ≤ nI (ed sm (v + 1) w + 1) then (if nI (ed sm v w + c) ≤ nI (ed sm v (w + 1) + 1) then nI (ed sm v w + c) else nI (ed sm v (w + 1) + 1)) else nI (ed sm (v + 1) w + 1)) = nI (ed sm (v + 1) (w + 1)) := by
  intro c hc
  have b1 := ed_le sm v w
  have b2 := ed_le sm v (w + 1)
  have b3 := ed_le sm (v + 1) w
  have c1 : c ≤ 1 := by rw [hc]; split <;> omega
  have mn : ∀ a b : Nat, a < 3000 → b < 3000 → (if nI a ≤ nI b then nI a else nI b) = nI (min a b) := fun a b ha hb => by
    by_cases x : a ≤ b
    · rw [if_pos (nI_le x (by omega)), Nat.min_eq_left x]
    · rw [if_neg (nI_ge (by omega) (by omega)), Nat.min_eq_right (by omega)]
  have ml := Nat.min_le_left (ed sm v w + c) (ed sm v (w + 1) + 1)
  rw [mn _ _ (by omega) (by omega), mn _ _ (by omega) (by omega), ed_ss, ← hc]
theorem m_chg (I : Ifx h) (hF : 5000 ≤ F) {sa nA sb nB : Nat} {gA gB : Nat → Int32} (A : SgM h sa nA gA) (B : SgM h sb nB gB) : Wp (c_X10_changesOf F 46 (nI sa) (nI sb) h) (fun r => r.1 = nI (dist gA nA gB nB) ∧ ChI Am h r.2) := by
  have a60 := A.2.1
  have b60 := B.2.1
  have tl := tkn_le gA nA
  have ul := tkn_le gB nB
  have carry : ∀ k, ChI Am h k → Ifx k ∧ SgM k sa nA gA ∧ SgM k sb nB gB := fun k c => ⟨c.fx I, A.ch c (fun i => ⟨by unfold Am; omega, by unfold Am; omega⟩), B.ch c (fun i => ⟨by unfold Am; omega, by unfold Am; omega⟩)⟩
  have tr : ∀ {k k2}, ChI Am h k → ChI Am k k2 → ChI Am h k2 := fun a b => (a.trans b).mono (fun a i e => by rcases e with e | e <;> exact e)
  unfold c_X10_changesOf
  refine Wp.ifT (fT46 I) (Wp.cV ((m_words F I hF A).mono (fun k1 d => ?_)))
  obtain ⟨d1, W1⟩ := d
  have c1 : ChI Am h k1 := d1.mono (fun a i e => e.m)
  have I1 := c1.fx I
  refine Wp.ifT (fT46 I1) (Wp.ltI ?_)
  rw [W1.1]
  -- the other song's words laid aside
  refine Wp.loop (L := fun m (u : Int32 × z_Hp) => c_X10_changesOf_L13 F 46 (nI sa) (nI sb) (nI (tkn gA nA)) _ m u.1 u.2) (N := tkn gA nA) (fun v u => u.1 = nI v ∧ ChI Am h u.2 ∧ Wd u.2 nA gA ∧ ∀ j, j < v → hI u.2 82 j = nI (tp gA nA j) ∧ hI u.2 83 j = nI (wsz gA nA (tp gA nA j))) (fun m v u hv hP ih => ?_) (fun m u hP => ?_) F (0, k1) (by omega) ⟨rfl, c1, W1, fun j hj => by omega⟩
  · obtain ⟨u1, k⟩ := u
    obtain ⟨e1, e2, e3, e4⟩ := hP
    dsimp only at e1 e2 e3 e4 ⊢
    subst e1
    have Ik := e2.fx I
    obtain ⟨w1, w2⟩ := e3.at hv
    have o55 : okA k 55 20 (nI v) = true := okA_n (fT55 Ik) (fN55 Ik) (by omega) (by decide)
    have o56 : okA k 56 20 (nI v) = true := okA_n (fT56 Ik) (fN56 Ik) (by omega) (by decide)
    have o82 : okA k 82 20 (nI v) = true := okA_n (fT82 Ik) (fN82 Ik) (by omega) (by decide)
    have o83 : okA k 83 20 (nI v) = true := okA_n (fT83 Ik) (fN83 Ik) (by omega) (by decide)
    rw [c_X10_changesOf_L13, nI_1, ix_n (show v < 2147483648 by omega)]
    refine Wp.ifF (nI_ge hv (by omega)) (Wp.ifT (fT46 Ik) (Wp.ltO (Wp.ifT (fT46 Ik) (Wp.ltO (Wp.rf (fR46_15 Ik) (Wp.ifT o55 (Wp.rf (fR46_45 Ik) (Wp.ifT o82 (Wp.ltH (Wp.ifT (fT46 Ik) (Wp.ltO (Wp.ifT (fT46 Ik) (Wp.ltO (Wp.rf (fR46_16 Ik) (Wp.ifT o56 (Wp.rf (fR46_46 Ik) (Wp.ifT o83 (Wp.ltH (Wp.ltI ?_)))))))))))))))))))
    have v56 : ∀ X, hI (sI k 82 v X) 56 v = hI k 56 v := fun X => by rw [hI_sI, if_neg (by omega)]
    rw [v56, w1, w2]
    refine ih (nI (v + 1), sI (sI k 82 v (nI (tp gA nA v))) 83 v (nI (wsz gA nA (tp gA nA v)))) ⟨rfl, (e2.set (Or.inr (Or.inr (Or.inr (Or.inl rfl))))).set (Or.inr (Or.inr (Or.inr (Or.inr (Or.inl rfl))))), ⟨?_, fun y hy ty => ?_⟩, fun j hj => ?_⟩
    · dsimp only
      rw [hI_sI, if_neg (by omega), hI_sI, if_neg (by omega)]; exact e3.1
    · dsimp only
      rw [hI_sI, if_neg (by omega), hI_sI, if_neg (by omega), hI_sI, if_neg (by omega), hI_sI, if_neg (by omega)]; exact e3.2 y hy ty
    · dsimp only
      have q1 : ∀ X Y, hI (sI (sI k 82 v X) 83 v Y) 82 j = if j = v then X else hI k 82 j := fun X Y => by
        rw [hI_sI, if_neg (by omega), hI_sI]
        by_cases e : j = v
        · rw [if_pos ⟨rfl, e⟩, if_pos e]
        · rw [if_neg (fun y => e y.2), if_neg e]
      have q2 : ∀ X Y, hI (sI (sI k 82 v X) 83 v Y) 83 j = if j = v then Y else hI k 83 j := fun X Y => by
        rw [hI_sI]
        by_cases e : j = v
        · rw [if_pos ⟨rfl, e⟩, if_pos e]
        · rw [if_neg (fun y => e y.2), if_neg e, hI_sI, if_neg (by omega)]
      rw [q1, q2]
      by_cases e : j = v
      · rw [if_pos e, if_pos e, e]; exact ⟨rfl, rfl⟩
      · rw [if_neg e, if_neg e]; exact e4 j (by omega)
  · obtain ⟨u1, k⟩ := u
    obtain ⟨e1, e2, e3, e4⟩ := hP
    dsimp only at e1 e2 e3 e4 ⊢
    subst e1
    obtain ⟨Ik, Ak, Bk⟩ := carry k e2
    rw [c_X10_changesOf_L13]
    refine Wp.ifT (nI_le (Nat.le_refl _) (by omega)) (Wp.ifT (fT46 Ik) (Wp.cV ((m_words F Ik hF Bk).mono (fun k2 d => ?_))))
    obtain ⟨d2, W2⟩ := d
    have c2 : ChI Am h k2 := tr e2 (d2.mono (fun a i e => e.m))
    have O2 : Oth k2 nA gA := fun v hv => by rw [d2.1 82 v (by unfold Aw; omega), d2.1 83 v (by unfold Aw; omega)]; exact e4 v hv
    -- from here on only 84 and 85 change
    have keep : ∀ {k3}, ChI (fun a _ => a = 84 ∨ a = 85) k2 k3 → Ifx k3 ∧ SgM k3 sa nA gA ∧ SgM k3 sb nB gB ∧ Wd k3 nB gB ∧ Oth k3 nA gA ∧ ChI Am h k3 := fun {k3} c => by
      have cm : ChI Am h k3 := tr c2 (c.mono (fun a i e => by unfold Am; omega))
      obtain ⟨q1, q2, q3⟩ := carry k3 cm
      refine ⟨q1, q2, q3, ⟨(c.1 46 14 (by omega)).trans W2.1, fun y hy ty => ?_⟩, fun v hv => ?_, cm⟩
      · rw [c.1 55 _ (by omega), c.1 56 _ (by omega)]; exact W2.2 y hy ty
      · rw [c.1 82 _ (by omega), c.1 83 _ (by omega)]; exact O2 v hv
    generalize hsm : tokeq gA nA gB nB = sm
    have bd := ed_le sm
    refine Wp.loop (L := fun m (u : Int32 × z_Hp) => c_X10_changesOf_L61 F 46 (nI sa) (nI sb) (nI (tkn gA nA)) _ m u.1 u.2) (N := tkn gB nB + 1) (fun t u => u.1 = nI t ∧ ChI (fun a _ => a = 84 ∨ a = 85) k2 u.2 ∧ ∀ j, j < t → hI u.2 84 j = nI (ed sm 0 j)) (fun m t u ht hP ih => ?_) (fun m u hP => ?_) F (0, k2) (by omega) ⟨rfl, ChI.refl _ _, fun j hj => by omega⟩
    · obtain ⟨u1, k3⟩ := u
      obtain ⟨f1, f2, f3⟩ := hP
      dsimp only at f1 f2 f3 ⊢
      subst f1
      obtain ⟨I3, A3', B3, W3, O3, _⟩ := keep f2
      have o84 : okA k3 84 20 (nI t) = true := okA_n (fT84 I3) (fN84 I3) (by omega) (by decide)
      rw [c_X10_changesOf_L61, nI_1, ix_n (show t < 2147483648 by omega)]
      refine Wp.ifT (fT46 I3) (Wp.ifF (by rw [W3.1]; exact nI_nlt (by omega) (by omega)) (Wp.ifT (fT46 I3) (Wp.ltO (Wp.rf (fR46_47 I3) (Wp.ifT o84 (Wp.ltH (Wp.ltI (ih (nI (t + 1), sI k3 84 t (nI t)) ⟨rfl, f2.set (Or.inl rfl), fun j hj => ?_⟩))))))))
      dsimp only
      rw [hI_sI]
      by_cases e : j = t
      · rw [if_pos ⟨rfl, e⟩, e, ed_00]
      · rw [if_neg (fun y => e y.2)]; exact f3 j (by omega)
    · obtain ⟨u1, k3⟩ := u
      obtain ⟨f1, f2, f3⟩ := hP
      dsimp only at f1 f2 f3 ⊢
      subst f1
      obtain ⟨I3, A3', B3, W3, O3, _⟩ := keep f2
      rw [c_X10_changesOf_L61]
      refine Wp.ifT (fT46 I3) (Wp.ifT (by rw [W3.1]; exact nI_lt (by omega) (by omega)) ?_)
      refine Wp.loop (L := fun m (u : Int32 × z_Hp) => c_X10_changesOf_L88 F 46 (nI sa) (nI sb) (nI (tkn gA nA)) m u.1 u.2) (N := tkn gA nA) (fun v u => u.1 = nI v ∧ ChI (fun a _ => a = 84 ∨ a = 85) k2 u.2 ∧ ∀ j, j ≤ tkn gB nB → hI u.2 84 j = nI (ed sm v j)) (fun m v u hv hP ih => ?_) (fun m u hP => ?_) F (0, k3) (by omega) ⟨rfl, f2, fun j hj => f3 j (by omega)⟩
      · obtain ⟨u1, k4⟩ := u
        obtain ⟨p1, p2, p3⟩ := hP
        dsimp only at p1 p2 p3 ⊢
        subst p1
        rw [c_X10_changesOf_L88, nI_1]
        refine Wp.ifF (nI_ge hv (by omega)) ?_
        refine Wp.loop (L := fun m' (u : Int32 × z_Hp) => c_X10_changesOf_L97 F 46 (nI sa) (nI sb) (nI (tkn gA nA)) (nI v) _ m' u.1 u.2) (N := tkn gB nB + 1) (fun t u => u.1 = nI t ∧ ChI (fun a _ => a = 84 ∨ a = 85) k2 u.2 ∧ (∀ j, j ≤ tkn gB nB → hI u.2 84 j = nI (ed sm v j)) ∧ ∀ j, j < t → hI u.2 85 j = nI (ed sm v j)) (fun m' t u ht hP ih2 => ?_) (fun m' u hP => ?_) F (0, k4) (by omega) ⟨rfl, p2, p3, fun j hj => by omega⟩
        · obtain ⟨u1, k5⟩ := u
          obtain ⟨r1, r2, r3, r4⟩ := hP
          dsimp only at r1 r2 r3 r4 ⊢
          subst r1
          obtain ⟨I5, A5, B5, W5, O5, _⟩ := keep r2
          have o84 : okA k5 84 20 (nI t) = true := okA_n (fT84 I5) (fN84 I5) (by omega) (by decide)
          have o85 : okA k5 85 20 (nI t) = true := okA_n (fT85 I5) (fN85 I5) (by omega) (by decide)
          rw [c_X10_changesOf_L97, nI_1, ix_n (show t < 2147483648 by omega)]
          refine Wp.ifT (fT46 I5) (Wp.ifF (by rw [W5.1]; exact nI_nlt (by omega) (by omega)) (Wp.ifT (fT46 I5) (Wp.ltO (Wp.ifT (fT46 I5) (Wp.ltO (Wp.rf (fR46_47 I5) (Wp.ifT o84 (Wp.rf (fR46_48 I5) (Wp.ifT o85 (Wp.ltH (Wp.ltI ?_)))))))))))
          rw [r3 t (by omega)]
          refine ih2 (nI (t + 1), sI k5 85 t (nI (ed sm v t))) ⟨rfl, r2.set (Or.inr rfl), fun j hj => ?_, fun j hj => ?_⟩
          · dsimp only
            rw [hI_sI, if_neg (by omega)]; exact r3 j hj
          · dsimp only
            rw [hI_sI]
            by_cases e : j = t
            · rw [if_pos ⟨rfl, e⟩, e]
            · rw [if_neg (fun y => e y.2)]; exact r4 j (by omega)
        · obtain ⟨u1, k5⟩ := u
          obtain ⟨r1, r2, r3, r4⟩ := hP
          dsimp only at r1 r2 r3 r4 ⊢
          subst r1
          obtain ⟨I5, A5, B5, W5, O5, _⟩ := keep r2
          have o84 : okA k5 84 20 0 = true := okA_n (k := 0) (fT84 I5) (fN84 I5) (by omega) (by decide)
          rw [c_X10_changesOf_L97]
          refine Wp.ifT (fT46 I5) (Wp.ifT (by rw [W5.1]; exact nI_lt (by omega) (by omega)) (Wp.ifT (fT46 I5) (Wp.ltO (Wp.rf (fR46_47 I5) (Wp.ifT o84 (Wp.ltH ?_))))))
          rw [show ix 0 = 0 from rfl]
          refine Wp.loop (L := fun m'' (u : Int32 × z_Hp) => c_X10_changesOf_L139 F 46 (nI sa) (nI sb) (nI (tkn gA nA)) (nI v) _ m'' u.1 u.2) (N := tkn gB nB) (fun w u => u.1 = nI w ∧ ChI (fun a _ => a = 84 ∨ a = 85) k2 u.2 ∧ (∀ j, j ≤ w → hI u.2 84 j = nI (ed sm (v + 1) j)) ∧ ∀ j, j ≤ tkn gB nB → hI u.2 85 j = nI (ed sm v j)) (fun m'' w u hw hP ih3 => ?_) (fun m'' u hP => ?_) F (0, sI k5 84 0 (nI (v + 1))) (by omega) ⟨rfl, r2.set (Or.inl rfl), fun j hj => by
            have : j = 0 := by omega
            rw [this, hI_sI, if_pos ⟨rfl, rfl⟩, ed_s0], fun j hj => by
            rw [hI_sI, if_neg (by omega)]; exact r4 j (by omega)⟩
          · obtain ⟨u1, k6⟩ := u
            obtain ⟨t1, t2, t3, t4⟩ := hP
            dsimp only at t1 t2 t3 t4 ⊢
            subst t1
            obtain ⟨I6, A6, B6, W6, O6, _⟩ := keep t2
            have o85 : okA k6 85 20 (nI w) = true := okA_n (fT85 I6) (fN85 I6) (by omega) (by decide)
            have o85' : okA k6 85 20 (nI (w + 1)) = true := okA_n (fT85 I6) (fN85 I6) (by omega) (by decide)
            have o84' : okA k6 84 20 (nI w) = true := okA_n (fT84 I6) (fN84 I6) (by omega) (by decide)
            have o84'' : okA k6 84 20 (nI (w + 1)) = true := okA_n (fT84 I6) (fN84 I6) (by omega) (by decide)
            have q1 := t4 w (by omega)
            have q2 := t4 (w + 1) (by omega)
            have q3 := t3 w (Nat.le_refl _)
            have fin := ed_m sm v w (by omega)
            rw [c_X10_changesOf_L139, nI_1 w, ix_n (show w < 2147483648 by omega), ix_n (show w + 1 < 2147483648 by omega)]
            refine Wp.ifT (fT46 I6) (Wp.ifF (by rw [W6.1]; exact nI_ge hw (by omega)) (Wp.ifT (fT46 I6) (Wp.ltO (Wp.rf (fR46_48 I6) (Wp.ifT o85 (Wp.ifT (fT46 I6) (Wp.cI ((m_alike F I6 hF A6 B6 W6 O6 hv hw).mono (fun r e => ?_)))))))))
            rw [e]
            dsimp only
            rw [hsm]
            refine Wp.lj (fun j1 hj1 => ?_)
            have g1 : ∀ c : Nat, (c = if sm v w = true then 0 else 1) → Wp (j1 (nI c) k6) (fun r => r.1 = nI (dist gA nA gB nB) ∧ ChI Am h r.2) := fun c hc => by
              have fc := fin c hc
              rw [hj1]
              dsimp only
              refine Wp.ltI (Wp.ifT (fT46 I6) (Wp.ltO (Wp.rf (fR46_48 I6) (Wp.ifT o85' (Wp.lj (fun j2 hj2 => ?_))))))
              rw [q1, q2, nI_add, nI_1]
              have g2 : ∀ x, (x = if nI (ed sm v w + c) ≤ nI (ed sm v (w + 1) + 1) then nI (ed sm v w + c) else nI (ed sm v (w + 1) + 1)) → Wp (j2 x k6) (fun r => r.1 = nI (dist gA nA gB nB) ∧ ChI Am h r.2) := fun x hx => by
                rw [← hx] at fc
                rw [hj2]
                dsimp only
                refine Wp.ifT (fT46 I6) (Wp.ltO (Wp.ifT (fT46 I6) (Wp.ltO (Wp.rf (fR46_47 I6) (Wp.ifT o84' (Wp.lj (fun j4 hj4 => ?_)))))))
                rw [q3, nI_1]
                have g4 : ∀ y, y = nI (ed sm (v + 1) (w + 1)) → Wp (j4 y k6) (fun r => r.1 = nI (dist gA nA gB nB) ∧ ChI Am h r.2) := fun y hy => by
                  rw [hj4, hy]
                  dsimp only
                  refine Wp.rf (fR46_47 I6) (Wp.ifT o84'' (Wp.ltH (Wp.ltI (ih3 (nI (w + 1), sI k6 84 (w + 1) (nI (ed sm (v + 1) (w + 1)))) ⟨rfl, t2.set (Or.inl rfl), fun j hj => ?_, fun j hj => ?_⟩))))
                  · dsimp only
                    rw [hI_sI]
                    by_cases e : j = w + 1
                    · rw [if_pos ⟨rfl, e⟩, e]
                    · rw [if_neg (fun y => e y.2)]; exact t3 j (by omega)
                  · dsimp only
                    rw [hI_sI, if_neg (by omega)]; exact t4 j hj
                by_cases y : x ≤ nI (ed sm (v + 1) w + 1)
                · rw [if_pos y] at fc
                  exact Wp.ifT y (g4 _ fc)
                · rw [if_neg y] at fc
                  refine Wp.ifF y (Wp.ifT (fT46 I6) (Wp.ltO (Wp.rf (fR46_47 I6) (Wp.ifT o84' ?_))))
                  rw [q3, nI_1]
                  exact g4 _ fc
              by_cases y : nI (ed sm v w + c) ≤ nI (ed sm v (w + 1) + 1)
              · exact Wp.ifT y (g2 _ (by rw [if_pos y]))
              · refine Wp.ifF y (Wp.ifT (fT46 I6) (Wp.ltO (Wp.rf (fR46_48 I6) (Wp.ifT o85' ?_))))
                rw [q2, nI_1]
                exact g2 _ (by rw [if_neg y])
            by_cases c : sm v w = true
            · exact Wp.ifF (by rw [if_pos c]; exact one0) (g1 0 (by rw [if_pos c]))
            · exact Wp.ifT (by rw [if_neg c]) (g1 1 (by rw [if_neg c]))
          · obtain ⟨u1, k6⟩ := u
            obtain ⟨t1, t2, t3, t4⟩ := hP
            dsimp only at t1 t2 t3 t4 ⊢
            subst t1
            obtain ⟨I6, A6, B6, W6, O6, _⟩ := keep t2
            rw [c_X10_changesOf_L139]
            exact Wp.ifT (fT46 I6) (Wp.ifT (by rw [W6.1]; exact nI_le (Nat.le_refl _) (by omega)) (Wp.ltI (ih (nI (v + 1), k6) ⟨rfl, t2, t3⟩)))
      · obtain ⟨u1, k4⟩ := u
        obtain ⟨p1, p2, p3⟩ := hP
        dsimp only at p1 p2 p3 ⊢
        subst p1
        obtain ⟨I4, A4, B4, W4, O4, cm⟩ := keep p2
        have o84 : okA k4 84 20 (nI (tkn gB nB)) = true := okA_n (fT84 I4) (fN84 I4) (by omega) (by decide)
        rw [c_X10_changesOf_L88]
        refine Wp.ifT (nI_le (Nat.le_refl _) (by omega)) (Wp.ifT (fT46 I4) (Wp.ltO (Wp.ifT (fT46 I4) (Wp.rf (fR46_47 I4) ?_))))
        rw [W4.1, ix_n (show tkn gB nB < 2147483648 by omega)]
        refine Wp.ifT o84 (Wp.ret ⟨?_, cm⟩)
        dsimp only
        rw [p3 _ (Nat.le_refl _)]
        unfold dist
        rw [hsm]
theorem op_changes (hF : 5000 ≤ F) (J : Inv h) : OkI h (c_X9_changes F 5 x1 x2 h) (c_X10_changes F 46 x1 x2) := by
  obtain ⟨ow, J⟩ := J
  have o := J.1
  have I := J.2.1
  by_cases c1 : 0 ≤ x1.toInt ∧ x1.toInt ≤ 9
  · by_cases c2 : 0 ≤ x2.toInt ∧ x2.toInt ≤ 9
    · obtain ⟨s, hs, rfl⟩ := rng (x := x1) (n := 9) c1
      obtain ⟨u, hu, rfl⟩ := rng (x := x2) (n := 9) c2
      have o8 : okA h 8 25 (nI s) = true := okA_n (fT8 I) (fN8 I) (by omega) (by decide)
      have o9 : okA h 8 25 (nI u) = true := okA_n (fT8 I) (fN8 I) (by omega) (by decide)
      have miss : (hR h 8 s = none ∨ hR h 8 u = none) → (hI h 53 s < 0 ∨ ¬ 0 ≤ hI h 53 u) → OkI h (c_X9_changes F 5 (nI s) (nI u) h) (c_X10_changes F 46 (nI s) (nI u)) := fun m1 m2 => by
        refine OkI.found0 (F := F) 1 (by decide) J ?_ (fun h' w => ?_)
        · unfold c_X9_changes
          show _ = c_X9_found F 5 1 h
          rw [x_isSong, bI_some, if_pos c1, ite10, x_isSong, bI_some, if_pos c2, ite10]
          simp only [fT5 I, fR5_2 I, if_true, ltq, nnq, o8, o9, ix_n (show s < 2147483648 by omega), ix_n (show u < 2147483648 by omega)]
          cases e : hR h 8 s with
          | none => rw [nlz, bI_id]
          | some a =>
            rw [nlq]
            rcases m1 with m1 | m1
            · rw [m1] at e; cases e
            · rw [m1, nlz, bI_id]
        · have I' := I.st o w (by decide)
          have e53 : hI h' 53 s = hI h 53 s := (w.fam I o (c := 62) (by decide) 53 s (by omega) rfl).1
          have e57 : hI h' 53 u = hI h 53 u := (w.fam I o (c := 62) (by decide) 53 u (by omega) rfl).1
          have o53 : okA h' 53 20 (nI s) = true := okA_n (fT53 I') (fN53 I') (by omega) (by decide)
          have o57 : okA h' 53 20 (nI u) = true := okA_n (fT53 I') (fN53 I') (by omega) (by decide)
          unfold c_X10_changes
          show _ = c_X10_meets F 46 1 h'
          rw [m_isSong, bI_some, if_pos c1, ite10, m_isSong, bI_some, if_pos c2, ite10]
          simp only [fT46 I', fR46_12 I', if_true, ltq, nnq, o53, o57, ix_n (show s < 2147483648 by omega), ix_n (show u < 2147483648 by omega), e53, e57]
          by_cases d : hI h 53 s < 0
          · rw [if_pos d, bI_id]
          · rw [if_neg d]
            rcases m2 with m2 | m2
            · exact absurd m2 d
            · rw [if_neg m2, bI_id]
      rcases J.sng.x (s := s) (by omega) with ⟨g1, g2⟩ | ⟨n, a, b, g, e1, e2, X, M, SG⟩
      · exact miss (Or.inl g2) (Or.inl (by rw [g1]; exact neg9))
      · rcases J.sng.x (s := u) (by omega) with ⟨t1, t2⟩ | ⟨n', a', b', g', t1, t2, X', M', SG'⟩
        · exact miss (Or.inr t2) (Or.inr (by rw [t1]; exact nn9))
        · have n60 := M.2.1
          have m60 := M'.2.1
          obtain ⟨⟨v, k⟩, f1, f2, f3⟩ := x_chg F o I hF SG SG' n60 m60
          dsimp only at f2 f3
          have Ik := f3.fx I
          have A29 : True := trivial
          have Mk := M.ch f3 (fun i => ⟨by omega, by omega⟩)
          have Mk' := M'.ch f3 (fun i => ⟨by omega, by omega⟩)
          obtain ⟨⟨v2, k2⟩, q1, q2, q3⟩ := m_chg F Ik hF Mk Mk'
          dsimp only at q2 q3
          have sk : St [125, 102, 107, 108] ow h k2 := ((f3.st (fs := [125]) I o (fun a i e => by rw [e]; exact ⟨by decide, List.mem_cons_self⟩)).trans (q3.st (fs := [102, 107, 108]) Ik o (fun a i e => e.ow))).sub (by decide)
          have o53 : okA k 53 20 (nI s) = true := okA_n (fT53 Ik) (fN53 Ik) (by omega) (by decide)
          have o57 : okA k 53 20 (nI u) = true := okA_n (fT53 Ik) (fN53 Ik) (by omega) (by decide)
          rw [f2] at f1
          rw [q2] at q1
          refine ⟨nI (dist g n g' n'), k, k2, ?_, ?_, ⟨ow, J.fin o sk (OwX.refl _ _) (by decide)⟩, by rw [q3.Z.1, f3.Z.1]; omega, by rw [q3.Z.2, f3.Z.2]; omega⟩
          · unfold c_X9_changes
            rw [x_isSong, bI_some, if_pos c1, ite10, x_isSong, bI_some, if_pos c2, ite10]
            simp only [fT5 I, fT28 I, fR5_2 I, fR5_9 I, if_true, ltq, nnq, o8, o9, ix_n (show s < 2147483648 by omega), ix_n (show u < 2147483648 by omega), e2, t2, nlq, f1, bIq]
          · unfold c_X10_changes
            rw [m_isSong, bI_some, if_pos c1, ite10, m_isSong, bI_some, if_pos c2, ite10]
            simp only [fT46 Ik, fR46_12 Ik, if_true, ltq, nnq, o53, o57, ix_n (show s < 2147483648 by omega), ix_n (show u < 2147483648 by omega), Mk.2.2.1, Mk'.2.2.1, if_neg (pnI (show n < 2147483648 by omega)), if_pos (nge (show n' < 2147483648 by omega)), q1, bIq]
    · refine OkI.same (-1) ⟨ow, J⟩ ?_ ?_
      · unfold c_X9_changes
        rw [x_isSong, bI_some, if_pos c1, ite10, x_isSong, bI_some, if_neg c2, ite00]
      · unfold c_X10_changes
        rw [m_isSong, bI_some, if_pos c1, ite10, m_isSong, bI_some, if_neg c2, ite00]
  · refine OkI.same (-1) ⟨ow, J⟩ ?_ ?_
    · unfold c_X9_changes
      rw [x_isSong, bI_some, if_neg c1, ite00]
    · unfold c_X10_changes
      rw [m_isSong, bI_some, if_neg c1, ite00]
end Chm
