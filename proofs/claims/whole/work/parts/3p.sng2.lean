section Sng2
variable {h : z_Hp} (F : Nat) (x1 x2 x3 x4 x5 : Int32)
theorem run_s (g : Nat → Int32) : ∀ d j, run g (d + 1) j = if run g d j = d ∧ isL (g (j + d)) = true then d + 1 else run g d j
  | 0, j => by
    show (if isL (g j) = true then run g 0 (j + 1) + 1 else 0) = _
    rw [Nat.add_zero]
    by_cases c : isL (g j) = true
    · rw [if_pos c, if_pos ⟨rfl, c⟩]; rfl
    · rw [if_neg c, if_neg (fun y => c y.2)]; rfl
  | d + 1, j => by
    have e1 : run g (d + 1 + 1) j = if isL (g j) = true then run g (d + 1) (j + 1) + 1 else 0 := rfl
    have e2 : run g (d + 1) j = if isL (g j) = true then run g d (j + 1) + 1 else 0 := rfl
    rw [e1, e2, run_s g d (j + 1), show j + 1 + d = j + (d + 1) by omega]
    by_cases c : isL (g j) = true
    · rw [if_pos c, if_pos c]
      by_cases x : run g d (j + 1) = d ∧ isL (g (j + (d + 1))) = true
      · rw [if_pos x, if_pos ⟨by omega, x.2⟩]
      · rw [if_neg x, if_neg (fun y => x ⟨by omega, y.2⟩)]
    · rw [if_neg c, if_neg c, if_neg (fun y => by omega)]
theorem tkn_mono (g : Nat → Int32) {a b : Nat} (hab : a ≤ b) : tkn g a ≤ tkn g b := fb_ct_mono _ hab
theorem tkb_cont {g : Nat → Int32} {j : Nat} (hb : tkb g j = true) : cont g j = false := by
  unfold tkb at hb
  cases x : cont g j with
  | false => rfl
  | true => rw [x, Bool.not_true, Bool.and_false] at hb; cases hb
/-- a word that no letter follows stays as it is -/
theorem tke_same {g : Nat → Int32} {k j : Nat} (hj : j < k) (hb : tkb g j = true) (hc : cont g k = false ∨ tkn g j + 1 < tkn g k) : tke g (k + 1) j = tke g k j := by
  unfold tke
  by_cases c47 : g j = 47
  · rw [if_pos c47, if_pos c47]
  · rw [if_neg c47, if_neg c47, show k + 1 - j = (k - j) + 1 by omega, run_s, if_neg]
    intro y
    obtain ⟨y1, y2⟩ := y
    rw [show j + (k - j) = k by omega] at y2
    rcases hc with hc | hc
    · have L := (run_spec g (k - j) j).2.1 (k - j - 1) (by omega)
      rw [show j + (k - j - 1) = k - 1 by omega] at L
      obtain ⟨k', rfl⟩ : ∃ k', k = k' + 1 := ⟨k - 1, by omega⟩
      rw [cont_s, y2] at hc
      rw [Nat.add_sub_cancel] at L
      rw [L] at hc
      cases hc
    · have := tkn_run (tkb_cont hb) (show 0 < run g (k - j) j by omega) (k - j) (by omega) (by omega)
      rw [show j + (k - j) = k by omega] at this
      omega
/-- the word that goes on at k -/
theorem tke_on {g : Nat → Int32} {k j : Nat} (hj : j < k) (hb : tkb g j = true) (hc : cont g k = true) (hl : tkn g j + 1 = tkn g k) : tke g (k + 1) j = k + 1 := by
  obtain ⟨k', rfl⟩ : ∃ k', k = k' + 1 := ⟨k - 1, by omega⟩
  rw [cont_s, Bool.and_eq_true] at hc
  have no : ∀ i, j < i → i < k' + 1 → tkb g i = false := fun i h1 h2 => by
    cases x : tkb g i with
    | false => rfl
    | true =>
      have a1 := tkn_mono g (show j + 1 ≤ i by omega)
      have a2 := tkn_mono g (show i + 1 ≤ k' + 1 by omega)
      have a3 := tkn_s g i
      have a4 := tkn_s g j
      rw [x, if_pos rfl] at a3
      rw [hb, if_pos rfl] at a4
      omega
  have L : ∀ d, d ≤ k' - j → isL (g (k' - d)) = true := by
    intro d
    induction d with
    | zero => intro _; exact hc.2
    | succ d ih =>
      intro hd
      have l := ih (by omega)
      have nb := no (k' - d) (by omega) (by omega)
      rw [tkb_L l] at nb
      obtain ⟨m, hm⟩ : ∃ m, k' - d = m + 1 := ⟨k' - d - 1, by omega⟩
      rw [hm, cont_s, Bool.not_eq_false', Bool.and_eq_true] at nb
      rw [show k' - (d + 1) = m by omega]
      exact nb.2
  have Lj : ∀ i, j ≤ i → i ≤ k' + 1 → isL (g i) = true := fun i h1 h2 => by
    by_cases e : i = k' + 1
    · rw [e]; exact hc.1
    · have := L (k' - i) (by omega)
      rw [show k' - (k' - i) = i by omega] at this
      exact this
  have R : ∀ d, d ≤ k' + 2 - j → run g d j = d := by
    intro d
    induction d with
    | zero => intro _; rfl
    | succ d ih => intro hd; rw [run_s, if_pos ⟨ih (by omega), Lj (j + d) (by omega) (by omega)⟩]
  unfold tke
  rw [if_neg (ne47_L (Lj j (by omega) (by omega))), R (k' + 1 + 1 - j) (by omega)]
  omega
theorem tke_new {g : Nat → Int32} {k : Nat} (hv : isL (g k) = true ∨ g k = 32 ∨ g k = 47) (hb : tkb g k = true) : tke g (k + 1) k = k + 1 := by
  unfold tke
  by_cases c47 : g k = 47
  · rw [if_pos c47]
  · rw [if_neg c47, show k + 1 - k = 0 + 1 by omega]
    rcases hv with c | c | c
    · show k + (if isL (g k) = true then run g 0 (k + 1) + 1 else 0) = _
      rw [if_pos c]; rfl
    · rw [tkb_32 c] at hb; cases hb
    · exact absurd c c47
theorem cont_pos {g : Nat → Int32} {k : Nat} (hc : cont g k = true) : 0 < tkn g k ∧ 0 < k := by
  cases k with
  | zero => rw [cont_0] at hc; cases hc
  | succ k =>
    rw [cont_s, Bool.and_eq_true] at hc
    refine ⟨?_, by omega⟩
    have hl := hc.2
    clear hc
    induction k with
    | zero =>
      rw [tkn_s, tkb_L hl, cont_0]; exact Nat.succ_pos _
    | succ k ih =>
      rw [tkn_s]
      by_cases x : cont g (k + 1) = true
      · have x' := x
        rw [cont_s, Bool.and_eq_true] at x'
        have := ih x'.2
        omega
      · have xf : cont g (k + 1) = false := by cases y : cont g (k + 1) with | true => exact absurd y x | false => rfl
        rw [tkb_L hl, xf, if_pos (by rfl)]; omega
/-- the words are put down -/
def Awd (z a i : Nat) : Prop := (a = z ∧ i = 4) ∨ a = z + 2 ∨ a = z + 3
theorem x_init40 (hF : 5000 ≤ F) {z n : Nat} {g : Nat → Int32} (n60 : n ≤ 60) (tz : hT h z = 7) (r0 : hR h z 0 = some (z + 1)) (r2 : hR h z 2 = some (z + 2)) (r3 : hR h z 3 = some (z + 3)) (t1 : hT h (z + 1) = 21) (n1 : hN h (z + 1) = n) (t2 : hT h (z + 2) = 20) (n2 : hN h (z + 2) = n) (t3 : hT h (z + 3) = 20) (n3 : hN h (z + 3) = n) (eb : ∀ k, k < n → hI h (z + 1) k = g k) (hv : ∀ k, k < n → isL (g k) = true ∨ g k = 32 ∨ g k = 47) : Wp (c_X7_init_L40 F z F 0 0 h) (fun r => ChI (Awd z) h r ∧ hI r z 4 = nI (tkn g n) ∧ ∀ j, j < n → tkb g j = true → hI r (z + 2) (tkn g j) = nI j ∧ hI r (z + 3) (tkn g j) = nI (tke g n j)) := by
  refine Wp.loop (L := fun m (u : Int32 × Int32 × z_Hp) => c_X7_init_L40 F z m u.1 u.2.1 u.2.2) (N := n) (fun k u => u.1 = nI (tkn g k) ∧ u.2.1 = nI k ∧ ChI (Awd z) h u.2.2 ∧ ∀ j, j < k → tkb g j = true → hI u.2.2 (z + 2) (tkn g j) = nI j ∧ hI u.2.2 (z + 3) (tkn g j) = nI (tke g k j)) (fun m k u hk hP ih => ?_) (fun m u hP => ?_) F (0, 0, h) (by omega) ⟨rfl, rfl, ChI.refl _ _, fun j hj => by omega⟩
  · obtain ⟨u1, u2, v⟩ := u
    obtain ⟨q1, q2, q3, q4⟩ := hP
    dsimp only at q1 q2 q3 q4 ⊢
    subst q1 q2
    have tl := tkn_le g k
    have T := q3.T
    have N := q3.N
    have R := q3.R
    have ol : okL v (z + 1) = true := okL_n ((T _).trans t1) (by decide) (by decide)
    have oK : okA v (z + 1) 21 (nI k) = true := okA_n ((T _).trans t1) ((N _).trans n1) hk (by omega)
    have ev : ∀ j, j < n → hI v (z + 1) j = g j := fun j hj => (q3.1 (z + 1) j (by unfold Awd; omega)).trans (eb j hj)
    have E := tkn_s g k
    rw [c_X7_init_L40, nI_1 k, nI_1 (tkn g k), ix_n (show k < 2147483648 by omega), ix_n (show tkn g k < 2147483648 by omega)]
    refine Wp.ifT ((T _).trans tz) (Wp.ltO (Wp.rf ((R _ _).trans r0) (Wp.ifT ol ?_)))
    rw [N, n1]
    refine Wp.ifF (nI_ge hk (by omega)) (Wp.ifT ((T _).trans tz) (Wp.ltO (Wp.rf ((R _ _).trans r0) (Wp.ifT oK ?_))))
    rw [ev k hk]
    refine Wp.lj (fun jA hjA => ?_)
    have nxt : ∀ x v', x = nI (tkn g (k + 1)) → ChI (Awd z) h v' → (∀ j, j < k + 1 → tkb g j = true → hI v' (z + 2) (tkn g j) = nI j ∧ hI v' (z + 3) (tkn g j) = nI (tke g (k + 1) j)) → Wp (jA x v') (fun r => ChI (Awd z) h r ∧ hI r z 4 = nI (tkn g n) ∧ ∀ j, j < n → tkb g j = true → hI r (z + 2) (tkn g j) = nI j ∧ hI r (z + 3) (tkn g j) = nI (tke g n j)) := fun x v' a1 a2 a3 => by
      rw [hjA]
      exact ih (x, nI (k + 1), v') ⟨a1, rfl, a2, a3⟩
    by_cases c32 : g k = 32
    · have bf := tkb_32 (g := g) (k := k) c32
      rw [bf, if_neg (by decide)] at E
      refine Wp.ifT c32 (nxt _ v (by rw [E]; rfl) q3 (fun j hj hb => ?_))
      have jk : j < k := by
        by_cases e : j = k
        · rw [e, bf] at hb; cases hb
        · omega
      rw [tke_same jk hb (Or.inl (cont_n (by rw [c32]; exact isL32)))]
      exact q4 j jk hb
    · refine Wp.ifF c32 (Wp.lj (fun jB hjB => Wp.lj (fun jC hjC => ?_)))
      have no_ : cont g k = false → Wp (jB 0 v) (fun r => ChI (Awd z) h r ∧ hI r z 4 = nI (tkn g n) ∧ ∀ j, j < n → tkb g j = true → hI r (z + 2) (tkn g j) = nI j ∧ hI r (z + 3) (tkn g j) = nI (tke g n j)) := fun cf => by
        have bt : tkb g k = true := by unfold tkb; rw [cf, decide_eq_false c32]; rfl
        rw [bt, if_pos rfl] at E
        have o2 : okA v (z + 2) 20 (nI (tkn g k)) = true := okA_n ((T _).trans t2) ((N _).trans n2) (by omega) (by omega)
        have o3 : okA (sI v (z + 2) (tkn g k) (nI k)) (z + 3) 20 (nI (tkn g k)) = true := okA_n (show hT v (z + 3) = 20 from (T _).trans t3) (show hN v (z + 3) = n from (N _).trans n3) (by omega) (by omega)
        rw [hjB]
        refine Wp.lj (fun jD hjD => Wp.ifT rfl (Wp.ifT ((T _).trans tz) (Wp.ltO (Wp.ltI (Wp.rf ((R _ _).trans r2) (Wp.ifT o2 (Wp.ltH ?_)))))))
        rw [hjD]
        refine Wp.ifT (show hT v z = 7 from (T _).trans tz) (Wp.ltO (Wp.rf (show hR v z 3 = some (z + 3) from (R _ _).trans r3) ?_))
        rw [show nI (tkn g k + 1) - 1 = nI (tkn g k) from nI_sub (b := 1) (by omega), ix_n (show tkn g k < 2147483648 by omega)]
        refine Wp.ifT o3 (Wp.ltH (nxt _ _ (by rw [E]) ((q3.set (Or.inr (Or.inl rfl))).set (Or.inr (Or.inr rfl))) (fun j hj hb => ?_)))
        rw [hI_sI, if_neg (by omega), hI_sI, hI_sI, hI_sI]
        by_cases e : j = k
        · subst e
          rw [if_pos ⟨rfl, rfl⟩, if_pos ⟨rfl, rfl⟩, tke_new (hv j hk) bt]
          exact ⟨rfl, rfl⟩
        · have jk : j < k := by omega
          have lt_k : tkn g j < tkn g k := by
            have a1 := tkn_mono g (show j + 1 ≤ k by omega)
            have a4 := tkn_s g j
            rw [hb, if_pos rfl] at a4
            omega
          rw [if_neg (by omega), if_neg (by omega), if_neg (by omega), tke_same jk hb (Or.inl cf)]
          exact q4 j jk hb
      have on_ : cont g k = true → Wp (jB 1 v) (fun r => ChI (Awd z) h r ∧ hI r z 4 = nI (tkn g n) ∧ ∀ j, j < n → tkb g j = true → hI r (z + 2) (tkn g j) = nI j ∧ hI r (z + 3) (tkn g j) = nI (tke g n j)) := fun ct => by
        obtain ⟨p1, p2⟩ := cont_pos ct
        have bf : tkb g k = false := by unfold tkb; rw [ct, Bool.not_true, Bool.and_false]
        rw [bf, if_neg (by decide)] at E
        have o3 : okA v (z + 3) 20 (nI (tkn g k - 1)) = true := okA_n ((T _).trans t3) ((N _).trans n3) (by omega) (by omega)
        rw [hjB]
        refine Wp.lj (fun jD hjD => Wp.ifF one0 ?_)
        rw [hjD]
        refine Wp.ifT ((T _).trans tz) (Wp.ltO (Wp.rf ((R _ _).trans r3) ?_))
        rw [show nI (tkn g k) - 1 = nI (tkn g k - 1) from nI_sub (b := 1) (by omega), ix_n (show tkn g k - 1 < 2147483648 by omega)]
        refine Wp.ifT o3 (Wp.ltH (nxt _ _ (by rw [E]; rfl) (q3.set (Or.inr (Or.inr rfl))) (fun j hj hb => ?_)))
        have jk : j < k := by
          by_cases e : j = k
          · rw [e, bf] at hb; cases hb
          · omega
        have lt_k : tkn g j + 1 ≤ tkn g k := by
          have a1 := tkn_mono g (show j + 1 ≤ k by omega)
          have a4 := tkn_s g j
          rw [hb, if_pos rfl] at a4
          omega
        rw [hI_sI, if_neg (by omega), hI_sI]
        by_cases e : tkn g j = tkn g k - 1
        · rw [if_pos ⟨rfl, e⟩, tke_on jk hb ct (by omega)]
          exact ⟨(q4 j jk hb).1, rfl⟩
        · rw [if_neg (by omega), tke_same jk hb (Or.inr (by omega))]
          exact q4 j jk hb
      by_cases p : tkn g k = 0
      · refine Wp.ifT (by rw [p]; decide) ?_
        rw [hjC]
        refine no_ ?_
        cases x : cont g k with
        | false => rfl
        | true => have := (cont_pos x).1; omega
      · have k0 : 0 < k := by omega
        have oP : okA v (z + 1) 21 (nI (k - 1)) = true := okA_n ((T _).trans t1) ((N _).trans n1) (by omega) (by omega)
        have ck : cont g k = (isL (g k) && isL (g (k - 1))) := by unfold cont; rw [decide_eq_true k0, Bool.true_and]
        refine Wp.ifF (by rw [fa_le, ti_0, toI_n (by omega)]; omega) (Wp.ifT ((T _).trans tz) (Wp.ltO (Wp.rf ((R _ _).trans r0) (Wp.ifT oK ?_))))
        rw [ev k hk]
        refine Wp.cIe (x_isL F _ _) ?_
        by_cases c : isL (g k) = true
        · refine Wp.ifF (by rw [if_pos c]; exact one0) (Wp.ifT ((T _).trans tz) (Wp.ltO (Wp.rf ((R _ _).trans r0) ?_)))
          rw [show nI k - 1 = nI (k - 1) from nI_sub (b := 1) (by omega), ix_n (show k - 1 < 2147483648 by omega), ev (k - 1) (by omega)]
          refine Wp.ifT oP (Wp.cIe (x_isL F _ _) ?_)
          by_cases c' : isL (g (k - 1)) = true
          · exact Wp.ifF (by rw [if_pos c']; exact one0) (on_ (by rw [ck, c, c']; rfl))
          · have cf : isL (g (k - 1)) = false := by cases x : isL (g (k - 1)) with | true => exact absurd x c' | false => rfl
            refine Wp.ifT (by rw [if_neg c']) ?_
            rw [hjC]
            exact no_ (by rw [ck, cf, Bool.and_false])
        · have cf : isL (g k) = false := by cases x : isL (g k) with | true => exact absurd x c | false => rfl
          refine Wp.ifT (by rw [if_neg c]) ?_
          rw [hjC]
          exact no_ (by rw [ck, cf, Bool.false_and])
  · obtain ⟨u1, u2, v⟩ := u
    obtain ⟨q1, q2, q3, q4⟩ := hP
    dsimp only at q1 q2 q3 q4 ⊢
    subst q1 q2
    have T := q3.T
    have ol : okL v (z + 1) = true := okL_n ((T _).trans t1) (by decide) (by decide)
    rw [c_X7_init_L40]
    refine Wp.ifT ((T _).trans tz) (Wp.ltO (Wp.rf ((q3.R _ _).trans r0) (Wp.ifT ol ?_)))
    rw [q3.N, n1]
    refine Wp.ifT (nI_le (Nat.le_refl _) (by omega)) (Wp.ifT ((T _).trans tz) (Wp.ltH (Wp.ret ⟨q3.set (Or.inl ⟨rfl, rfl⟩), by rw [hI_sI, if_pos ⟨rfl, rfl⟩], fun j hj hb => ?_⟩)))
    rw [hI_sI, if_neg (by omega), hI_sI, if_neg (by omega)]
    exact q4 j hj hb
end Sng2
