section Sng
variable {h : z_Hp} (F : Nat) (x1 x2 x3 x4 x5 : Int32)
theorem x_linesIn (hF : 5000 ≤ F) {b n : Nat} {g : Nat → Int32} (tb : hT h b = 21) (nb : hN h b = n) (n60 : n ≤ 60) (eb : ∀ k, k < n → hI h b k = g k) : Wp (c_X7_linesIn F (some b) h) (fun r => r.2 = h ∧ ((isSg g n ∧ r.1 = nI (mks g n + 1)) ∨ (¬ isSg g n ∧ r.1 = -9))) := by
  have ol : okL h b = true := okL_n tb (by decide) (by decide)
  have ml : ∀ k, mks g k ≤ k := fun k => fb_ct_le _ _
  unfold c_X7_linesIn
  refine Wp.loop (L := fun m (u : Int32 × Int32 × Int32) => c_X7_linesIn_L6 F (some b) (fun x19 x20 h21 => (if x20 = 0 then (some ((-9), h21)) else (if 8 < x19 then (some ((-9), h21)) else (some (x19, h21))))) m u.1 u.2.1 u.2.2 h) (N := n) (fun k u => u.1 = nI (mks g k + 1) ∧ u.2.1 = (if some_ g k = true then 1 else 0) ∧ u.2.2 = nI k ∧ ∀ j, j < k → (isL (g j) = true ∨ g j = 32 ∨ g j = 47) ∧ (g j = 47 → some_ g j = true)) (fun m k u hk hP ih => ?_) (fun m u hP => ?_) F (1, 0, 0) (by omega) ⟨rfl, rfl, rfl, fun j hj => by omega⟩
  · obtain ⟨u1, u2, u3⟩ := u
    obtain ⟨q1, q2, q3, q4⟩ := hP
    dsimp only at q1 q2 q3 ⊢
    subst q1 q2 q3
    have oa : okA h b 21 (nI k) = true := okA_n tb nb hk (by omega)
    have E1 : mks g (k + 1) = mks g k + (if decide (g k = 47) = true then 1 else 0) := rfl
    have E2 : some_ g (k + 1) = if g k = 47 then false else isL (g k) || some_ g k := rfl
    rw [c_X7_linesIn_L6, nI_1 k, nI_1 (mks g k + 1), ix_n (show k < 2147483648 by omega)]
    refine Wp.rf rfl (Wp.ifT ol ?_)
    rw [nb]
    refine Wp.ifF (nI_ge hk (by omega)) (Wp.ifT oa ?_)
    rw [eb k hk]
    refine Wp.cIe (x_isL F _ _) (Wp.lj (fun j hj => ?_))
    have go : ∀ x y, x = nI (mks g (k + 1) + 1) → y = (if some_ g (k + 1) = true then 1 else 0) → ((isL (g k) = true ∨ g k = 32 ∨ g k = 47) ∧ (g k = 47 → some_ g k = true)) → Wp (j x y h) (fun r => r.2 = h ∧ ((isSg g n ∧ r.1 = nI (mks g n + 1)) ∨ (¬ isSg g n ∧ r.1 = -9))) := fun x y hx hy hv => by
      rw [hj]
      refine ih (x, y, nI (k + 1)) ⟨hx, hy, rfl, fun i hi => ?_⟩
      by_cases e : i = k
      · rw [e]; exact hv
      · exact q4 i (by omega)
    have bad : ¬ ((isL (g k) = true ∨ g k = 32 ∨ g k = 47) ∧ (g k = 47 → some_ g k = true)) → Wp (some ((-9 : Int32), h)) (fun r => r.2 = h ∧ ((isSg g n ∧ r.1 = nI (mks g n + 1)) ∨ (¬ isSg g n ∧ r.1 = -9))) := fun hb => Wp.ret ⟨rfl, Or.inr ⟨fun s => hb ⟨s.1 k hk, s.2.1 k hk⟩, rfl⟩⟩
    by_cases c : isL (g k) = true
    · refine Wp.ifF (by rw [if_pos c]; exact one0) (go _ _ ?_ ?_ ⟨Or.inl c, fun e => absurd e (ne47_L c)⟩)
      · rw [E1, decide_eq_false (ne47_L c), if_neg (by decide)]
      · rw [E2, if_neg (ne47_L c), c, Bool.true_or, if_pos rfl]
    · refine Wp.ifT (by rw [if_neg c]) (Wp.ifT oa ?_)
      rw [eb k hk]
      have cf : isL (g k) = false := by cases x : isL (g k) with | true => exact absurd x c | false => rfl
      by_cases c47 : g k = 47
      · refine Wp.ifT c47 ?_
        by_cases z : some_ g k = true
        · refine Wp.ifF (by rw [if_pos z]; exact one0) (Wp.ltI (go _ _ ?_ ?_ ⟨Or.inr (Or.inr c47), fun _ => z⟩))
          · rw [E1, decide_eq_true c47, if_pos rfl]
          · rw [E2, if_pos c47, if_neg (by decide)]
        · exact Wp.ifT (by rw [if_neg z]) (bad (fun y => z (y.2 c47)))
      · refine Wp.ifF c47 (Wp.ifT oa ?_)
        by_cases c32 : g k = 32
        · refine Wp.ifT c32 (go _ _ ?_ ?_ ⟨Or.inr (Or.inl c32), fun e => absurd e c47⟩)
          · rw [E1, decide_eq_false c47, if_neg (by decide)]
          · rw [E2, if_neg c47, cf, Bool.false_or]
        · exact Wp.ifF c32 (bad (fun y => by rcases y.1 with y | y | y; exact c y; exact c32 y; exact c47 y))
  · obtain ⟨u1, u2, u3⟩ := u
    obtain ⟨q1, q2, q3, q4⟩ := hP
    dsimp only at q1 q2 q3 ⊢
    subst q1 q2 q3
    have mn := ml n
    rw [c_X7_linesIn_L6]
    refine Wp.rf rfl (Wp.ifT ol ?_)
    rw [nb]
    refine Wp.ifT (nI_le (Nat.le_refl _) (by omega)) ?_
    by_cases z : some_ g n = true
    · refine Wp.ifF (by rw [if_pos z]; exact one0) ?_
      by_cases m8 : mks g n < 8
      · exact Wp.ifF (by rw [fa_lt, ti_8, toI_n (by omega)]; omega) (Wp.ret ⟨rfl, Or.inl ⟨⟨fun k hk => (q4 k hk).1, fun k hk => (q4 k hk).2, z, m8⟩, rfl⟩⟩)
      · exact Wp.ifT (by rw [fa_lt, ti_8, toI_n (by omega)]; omega) (Wp.ret ⟨rfl, Or.inr ⟨fun s => m8 s.2.2.2, rfl⟩⟩)
    · exact Wp.ifT (by rw [if_neg z]) (Wp.ret ⟨rfl, Or.inr ⟨fun s => z s.2.2.1, rfl⟩⟩)
theorem m_songL (I : Ifx h) (hF : 5000 ≤ F) {t n : Nat} {g : Nat → Int32} (t4 : t < 4) (n60 : n ≤ 60) (e51 : hI h 51 t = nI n) (e52 : ∀ k, k < n → hI h 52 (60 * t + k) = g k) {P : Int32 × z_Hp → Prop} (K : Int32 → Int32 → z_Hp → Option (Int32 × z_Hp)) (kS : isSg g n → Wp (K 1 (nI (mks g n + 1)) h) P) (kN : ¬ isSg g n → ∀ p c, (p = 0 ∨ (p = 1 ∧ ¬ c ≤ 8)) → Wp (K p c h) P) : Wp (c_X10_song_L42 F 46 x1 (nI t) K F 1 0 0 0 h) P := by
  have ml : ∀ k, mks g k ≤ k := fun k => fb_ct_le _ _
  have o51 : okA h 51 20 (nI t) = true := okA_n (fT51 I) (fN51 I) (by omega) (by decide)
  refine Wp.loop (L := fun m (u : Int32 × Int32 × Int32 × Int32) => c_X10_song_L42 F 46 x1 (nI t) K m u.1 u.2.1 u.2.2.1 u.2.2.2 h) (N := n + 1) (fun k u => u.2.2.2 = nI k ∧ ((u.1 = 0 ∧ ¬ isSg g n) ∨ (u.1 = 1 ∧ (∀ j, j < k → j < n → (isL (g j) = true ∨ g j = 32 ∨ g j = 47) ∧ (g j = 47 → some_ g j = true)) ∧ (k ≤ n → u.2.1 = nI (mks g k) ∧ u.2.2.1 = (if some_ g k = true then 1 else 0)) ∧ (k = n + 1 → some_ g n = true ∧ u.2.1 = nI (mks g n + 1))))) (fun m k u hk hP ih => ?_) (fun m u hP => ?_) F (1, 0, 0, 0) (by omega) ⟨rfl, Or.inr ⟨rfl, fun j hj => by omega, fun _ => ⟨rfl, rfl⟩, fun y => by omega⟩⟩
  · obtain ⟨u1, u2, u3, u4⟩ := u
    obtain ⟨q1, q2⟩ := hP
    dsimp only at q1 q2 ⊢
    subst q1
    rw [c_X10_song_L42, nI_1 k, ix_n (show t < 2147483648 by omega)]
    refine Wp.ifT (fT46 I) (Wp.ltO (Wp.rf (fR46_10 I) (Wp.ifT o51 ?_)))
    rw [e51]
    refine Wp.ifF (by rw [fa_lt, toI_n (by omega), toI_n (by omega)]; omega) ?_
    rcases q2 with ⟨q2, ns⟩ | ⟨q2, q3, q4, _⟩
    · subst q2
      exact Wp.ifT rfl (kN ns _ _ (Or.inl rfl))
    · subst q2
      obtain ⟨q5, q6⟩ := q4 (by omega)
      subst q5 q6
      refine Wp.ifF one0 (Wp.ifT (fT46 I) (Wp.ltO (Wp.rf (fR46_10 I) (Wp.ifT o51 ?_))))
      rw [e51, nI_1 (mks g k)]
      refine Wp.lj (fun jA hjA => ?_)
      have E1 : mks g (k + 1) = mks g k + (if decide (g k = 47) = true then 1 else 0) := rfl
      have E2 : some_ g (k + 1) = if g k = 47 then false else isL (g k) || some_ g k := rfl
      -- behind the sign c
      have mark : (k < n → g k = 47) → Wp (jA 47 h) P := fun c47 => by
        rw [hjA]
        refine Wp.lj (fun jB hjB => Wp.ifT rfl (Wp.ltI ?_))
        rw [hjB]
        refine ih (if some_ g k = true then 1 else 0, nI (mks g k + 1), 0, nI (k + 1)) ⟨rfl, ?_⟩
        dsimp only
        by_cases z : some_ g k = true
        · right
          refine ⟨if_pos z, fun j hj jn => ?_, fun kn => ⟨?_, ?_⟩, fun ke => ?_⟩
          · by_cases e : j = k
            · rw [e]; exact ⟨Or.inr (Or.inr (c47 (by omega))), fun _ => z⟩
            · exact q3 j (by omega) jn
          · rw [E1, decide_eq_true (c47 (by omega)), if_pos rfl]
          · rw [E2, if_pos (c47 (by omega)), if_neg (by decide)]
          · have e : k = n := by omega
            rw [← e]; exact ⟨z, rfl⟩
        · left
          refine ⟨if_neg z, fun s => z ?_⟩
          by_cases kn : k < n
          · exact s.2.1 k kn (c47 kn)
          · rw [show k = n by omega]; exact s.2.2.1
      by_cases kn : k < n
      · have o52 : okA h 52 20 (nI (60 * t + k)) = true := okA_n (fT52 I) (fN52 I) (by omega) (by decide)
        refine Wp.ifF (nI_ge kn (by omega)) (Wp.ifT (fT46 I) (Wp.ltO (Wp.rf (fR46_11 I) ?_)))
        rw [e60, ix_n (show 60 * t + k < 2147483648 by omega), e52 k kn]
        refine Wp.ifT o52 ?_
        by_cases c47 : g k = 47
        · rw [c47]; exact mark (fun _ => c47)
        · rw [hjA]
          refine Wp.lj (fun jB hjB => Wp.ifF c47 (Wp.lj (fun jC hjC => Wp.lj (fun jD hjD => ?_))))
          have fin : ∀ p l, (p = if isL (g k) = true ∨ g k = 32 then 1 else 0) → (l = if some_ g (k + 1) = true then 1 else 0) → Wp (jB p (nI (mks g k)) l h) P := fun p l hp hl => by
            rw [hjB]
            refine ih (p, nI (mks g k), l, nI (k + 1)) ⟨rfl, ?_⟩
            dsimp only
            by_cases z : isL (g k) = true ∨ g k = 32
            · right
              refine ⟨by rw [hp, if_pos z], fun j hj jn => ?_, fun _ => ⟨?_, hl⟩, fun ke => by omega⟩
              · by_cases e : j = k
                · rw [e]; exact ⟨by rcases z with z | z; exact Or.inl z; exact Or.inr (Or.inl z), fun y => absurd y c47⟩
                · exact q3 j (by omega) jn
              · rw [E1, decide_eq_false c47, if_neg (by decide)]; rfl
            · left
              refine ⟨by rw [hp, if_neg z], fun s => z ?_⟩
              rcases s.1 k kn with y | y | y
              · exact Or.inl y
              · exact Or.inr y
              · exact absurd y c47
          have nxt : ∀ p, (p = if isL (g k) = true ∨ g k = 32 then 1 else 0) → Wp (jC p h) P := fun p hp => by
            rw [hjC]
            refine Wp.lj (fun jE hjE => Wp.lj (fun jF hjF => ?_))
            have go : ∀ l, (l = if some_ g (k + 1) = true then 1 else 0) → Wp (jE l h) P := fun l hl => by
              rw [hjE]; exact fin p l hp hl
            by_cases z : some_ g k = true
            · refine Wp.ifF (by rw [if_pos z]; exact one0) ?_
              rw [hjF]
              exact go 1 (by rw [E2, if_neg c47, z, Bool.or_true, if_pos rfl])
            · have zf : some_ g k = false := by cases x : some_ g k with | true => exact absurd x z | false => rfl
              refine Wp.ifT (by rw [if_neg z]) (Wp.cIe (m_isL F _ _) ?_)
              by_cases c : isL (g k) = true
              · refine Wp.ifF (by rw [if_pos c]; exact one0) ?_
                rw [hjF]
                exact go 1 (by rw [E2, if_neg c47, c, Bool.true_or, if_pos rfl])
              · have cf : isL (g k) = false := by cases x : isL (g k) with | true => exact absurd x c | false => rfl
                refine Wp.ifT (by rw [if_neg c]) (go 0 ?_)
                rw [E2, if_neg c47, cf, zf, Bool.false_or, if_neg (by decide)]
          by_cases c32 : g k = 32
          · refine Wp.ifT c32 ?_
            rw [hjD]
            exact nxt 1 (by rw [if_pos (Or.inr c32)])
          · refine Wp.ifF c32 (Wp.cIe (m_isL F _ _) ?_)
            by_cases c : isL (g k) = true
            · refine Wp.ifF (by rw [if_pos c]; exact one0) ?_
              rw [hjD]
              exact nxt 1 (by rw [if_pos (Or.inl c)])
            · exact Wp.ifT (by rw [if_neg c]) (nxt 0 (by rw [if_neg (fun y => by rcases y with y | y; exact c y; exact c32 y)]))
      · refine Wp.ifT (nI_le (by omega) (by omega)) (mark (fun y => absurd y kn))
  · obtain ⟨u1, u2, u3, u4⟩ := u
    obtain ⟨q1, q2⟩ := hP
    dsimp only at q1 q2 ⊢
    subst q1
    have mn := ml n
    rw [c_X10_song_L42, ix_n (show t < 2147483648 by omega)]
    refine Wp.ifT (fT46 I) (Wp.ltO (Wp.rf (fR46_10 I) (Wp.ifT o51 ?_)))
    rw [e51]
    refine Wp.ifT (nI_lt (by omega) (by omega)) ?_
    rcases q2 with ⟨q2, ns⟩ | ⟨q2, q3, _, q4⟩
    · exact kN ns _ _ (Or.inl q2)
    · subst q2
      obtain ⟨q5, q6⟩ := q4 rfl
      subst q6
      by_cases m8 : mks g n < 8
      · exact kS ⟨fun k hk => (q3 k (by omega) hk).1, fun k hk => (q3 k (by omega) hk).2, q5, m8⟩
      · exact kN (fun s => m8 s.2.2.2) _ _ (Or.inr ⟨rfl, by rw [fa_le, ti_8, toI_n (by omega)]; omega⟩)
/-- the letters are put down -/
def Asg (s a i : Nat) : Prop := (a = 53 ∧ i = s) ∨ (a = 54 ∧ 60 * s ≤ i ∧ i < 60 * s + 60)
theorem m_songC (I : Ifx h) (hF : 5000 ≤ F) {s t n : Nat} {g : Nat → Int32} (s10 : s < 10) (t4 : t < 4) (n60 : n ≤ 60) (e51 : hI h 51 t = nI n) (e52 : ∀ k, k < n → hI h 52 (60 * t + k) = g k) (x : Int32) : Wp (c_X10_song_L185 F 46 (nI s) (nI t) x F 0 h) (fun r => r.1 = x ∧ ChI (Asg s) h r.2 ∧ (∀ i, hI r.2 53 i = hI h 53 i) ∧ ∀ k, k < n → hI r.2 54 (60 * s + k) = g k) := by
  refine Wp.loop (L := fun m (u : Int32 × z_Hp) => c_X10_song_L185 F 46 (nI s) (nI t) x m u.1 u.2) (N := n) (fun k u => u.1 = nI k ∧ ChI (Asg s) h u.2 ∧ (∀ i, hI u.2 53 i = hI h 53 i) ∧ ∀ j, j < k → hI u.2 54 (60 * s + j) = g j) (fun m k u hk hP ih => ?_) (fun m u hP => ?_) F (0, h) (by omega) ⟨rfl, ChI.refl _ _, fun _ => rfl, fun j hj => by omega⟩
  · obtain ⟨u1, v⟩ := u
    obtain ⟨q1, q2, q3, q4⟩ := hP
    dsimp only at q1 q2 q3 q4 ⊢
    subst q1
    have Iv := q2.fx I
    have o51 : okA v 51 20 (nI t) = true := okA_n (fT51 Iv) (fN51 Iv) (by omega) (by decide)
    have o52 : okA v 52 20 (nI (60 * t + k)) = true := okA_n (fT52 Iv) (fN52 Iv) (by omega) (by decide)
    have o54 : okA v 54 20 (nI (60 * s + k)) = true := okA_n (fT54 Iv) (fN54 Iv) (by omega) (by decide)
    rw [c_X10_song_L185, nI_1 k, ix_n (show t < 2147483648 by omega), e60, e60, ix_n (show 60 * t + k < 2147483648 by omega), ix_n (show 60 * s + k < 2147483648 by omega)]
    refine Wp.ifT (fT46 Iv) (Wp.ltO (Wp.rf (fR46_10 Iv) (Wp.ifT o51 ?_)))
    rw [q2.1 51 t (by unfold Asg; omega), e51]
    refine Wp.ifF (nI_ge hk (by omega)) (Wp.ifT (fT46 Iv) (Wp.ltO (Wp.ifT (fT46 Iv) (Wp.ltO (Wp.rf (fR46_11 Iv) (Wp.ifT o52 (Wp.rf (fR46_13 Iv) (Wp.ifT o54 (Wp.ltH (Wp.ltI ?_))))))))))
    rw [q2.1 52 (60 * t + k) (by unfold Asg; omega), e52 k hk]
    refine ih (nI (k + 1), sI v 54 (60 * s + k) (g k)) ⟨rfl, q2.set (Or.inr ⟨rfl, by omega, by omega⟩), fun i => by dsimp only; rw [hI_sI, if_neg (by omega)]; exact q3 i, fun j hj => ?_⟩
    dsimp only
    rw [hI_sI]
    by_cases e : j = k
    · rw [if_pos ⟨rfl, by omega⟩, e]
    · rw [if_neg (by omega)]; exact q4 j (by omega)
  · obtain ⟨u1, v⟩ := u
    obtain ⟨q1, q2, q3, q4⟩ := hP
    dsimp only at q1 q2 q3 q4 ⊢
    subst q1
    have Iv := q2.fx I
    have o51 : okA v 51 20 (nI t) = true := okA_n (fT51 Iv) (fN51 Iv) (by omega) (by decide)
    rw [c_X10_song_L185, ix_n (show t < 2147483648 by omega)]
    refine Wp.ifT (fT46 Iv) (Wp.ltO (Wp.rf (fR46_10 Iv) (Wp.ifT o51 ?_)))
    rw [q2.1 51 t (by unfold Asg; omega), e51]
    exact Wp.ifT (nI_le (Nat.le_refl _) (by omega)) (Wp.ret ⟨rfl, q2, q3, q4⟩)
end Sng
