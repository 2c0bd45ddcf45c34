section Beat
def vow (c : Int32) : Bool := decide (c = 97 ∨ c = 101 ∨ c = 105 ∨ c = 111 ∨ c = 117 ∨ c = 121)
theorem vow_L {c : Int32} (hc : vow c = true) : isL c = true := by
  unfold vow at hc
  rw [decide_eq_true_iff] at hc
  rcases hc with e | e | e | e | e | e
  · rw [e]; decide
  · rw [e]; decide
  · rw [e]; decide
  · rw [e]; decide
  · rw [e]; decide
  · rw [e]; decide
theorem vow_no {c : Int32} (hc : isL c = false) : vow c = false := by
  cases x : vow c with
  | true => rw [vow_L x] at hc; cases hc
  | false => rfl
theorem vow_if {α : Type} (c : Int32) (A B : α) : (if c = 97 then A else if c = 101 then A else if c = 105 then A else if c = 111 then A else if c = 117 then A else if c = 121 then A else B) = if vow c = true then A else B := by
  unfold vow
  by_cases e1 : c = 97
  · rw [if_pos e1, decide_eq_true (Or.inl e1), if_pos rfl]
  · rw [if_neg e1]
    by_cases e2 : c = 101
    · rw [if_pos e2, decide_eq_true (Or.inr (Or.inl e2)), if_pos rfl]
    · rw [if_neg e2]
      by_cases e3 : c = 105
      · rw [if_pos e3, decide_eq_true (Or.inr (Or.inr (Or.inl e3))), if_pos rfl]
      · rw [if_neg e3]
        by_cases e4 : c = 111
        · rw [if_pos e4, decide_eq_true (Or.inr (Or.inr (Or.inr (Or.inl e4)))), if_pos rfl]
        · rw [if_neg e4]
          by_cases e5 : c = 117
          · rw [if_pos e5, decide_eq_true (Or.inr (Or.inr (Or.inr (Or.inr (Or.inl e5))))), if_pos rfl]
          · rw [if_neg e5]
            by_cases e6 : c = 121
            · rw [if_pos e6, decide_eq_true (Or.inr (Or.inr (Or.inr (Or.inr (Or.inr e6))))), if_pos rfl]
            · rw [if_neg e6, decide_eq_false (fun y => by
                rcases y with y | y | y | y | y | y
                · exact e1 y
                · exact e2 y
                · exact e3 y
                · exact e4 y
                · exact e5 y
                · exact e6 y), if_neg (by decide)]
theorem x_vow (F : Nat) (c : Int32) (g : z_Hp) : c_X7_isVowel F c g = some (if vow c = true then 1 else 0, g) := by
  unfold c_X7_isVowel
  rw [vow_if]
  split <;> rfl
theorem m_vow (F : Nat) (c : Int32) (g : z_Hp) : c_X10_isVowel F c g = some (if vow c = true then 1 else 0, g) := by
  unfold c_X10_isVowel
  rw [vow_if]
  split <;> rfl
def beat (g : Nat → Int32) (k : Nat) : Bool := vow (g k) && !(decide (0 < k) && vow (g (k - 1)))
def acc (g : Nat → Int32) (i k : Nat) : Nat := fb_ct (fun j => beat g j && decide (mks g j = i)) k
theorem acc_s (g : Nat → Int32) (i k : Nat) : acc g i (k + 1) = acc g i k + (if (beat g k && decide (mks g k = i)) = true then 1 else 0) := rfl
theorem mks_s (g : Nat → Int32) (k : Nat) : mks g (k + 1) = mks g k + (if g k = 47 then 1 else 0) := by
  show fb_ct _ (k + 1) = _
  rw [fb_ct_succ]
  by_cases c : g k = 47
  · rw [if_pos (decide_eq_true c), if_pos c]; rfl
  · rw [if_neg (by rw [decide_eq_true_iff]; exact c), if_neg c]; rfl
theorem ct_flat {p : Nat → Bool} {k n : Nat} (hk : k ≤ n) (hp : ∀ j, k ≤ j → j < n → p j = false) : fb_ct p n = fb_ct p k := by
  obtain ⟨d, rfl⟩ : ∃ d, n = k + d := ⟨n - k, by omega⟩
  clear hk
  induction d with
  | zero => rfl
  | succ d ih =>
    rw [← Nat.add_assoc, fb_ct_succ, ih (fun j h1 h2 => hp j h1 (by omega)), hp (k + d) (by omega) (by omega), if_neg (by decide), Nat.add_zero]
theorem mks_mono (g : Nat → Int32) {j k : Nat} (hj : j ≤ k) : mks g j ≤ mks g k := fb_ct_mono _ hj
theorem acc_stop {g : Nat → Int32} {i k n : Nat} (hk : k ≤ n) (hi : i < mks g k) : acc g i n = acc g i k := ct_flat hk (fun j h1 _ => by
  have := mks_mono g h1
  rw [decide_eq_false (by omega), Bool.and_false])
theorem beat_32 {g : Nat → Int32} {k : Nat} (hc : isL (g k) = false) : beat g k = false := by
  unfold beat
  rw [vow_no hc]; rfl
/-! places of words -/
def pos (g : Nat → Int32) (n w : Nat) : Nat := if w < tkn g n then tp g n w else n
theorem pos_lt {g : Nat → Int32} {n w : Nat} (hw : w < tkn g n) : pos g n w = tp g n w := if_pos hw
theorem pos_end (g : Nat → Int32) (n : Nat) : pos g n (tkn g n) = n := if_neg (Nat.lt_irrefl _)
theorem pos_le (g : Nat → Int32) (n w : Nat) : pos g n w ≤ n := by
  unfold pos
  split
  · have := (tp_ok ‹w < tkn g n›).1
    omega
  · exact Nat.le_refl _
theorem pos_tkn {g : Nat → Int32} {n w : Nat} (hw : w ≤ tkn g n) : tkn g (pos g n w) = w := by
  by_cases c : w < tkn g n
  · rw [pos_lt c]; exact (tp_ok c).2.2
  · have : w = tkn g n := by omega
    rw [this, pos_end]
/-- between the beginnings of two that follow one another nothing begins -/
theorem pos_gap {g : Nat → Int32} {n w : Nat} (hw : w < tkn g n) : tp g n w < pos g n (w + 1) ∧ ∀ j, tp g n w < j → j < pos g n (w + 1) → tkb g j = false := by
  obtain ⟨t1, t2, t3⟩ := tp_ok hw
  have e := pos_tkn (g := g) (n := n) (w := w + 1) (by omega)
  have s1 : tkn g (tp g n w + 1) = w + 1 := by rw [tkn_s, if_pos t2, t3]
  have mono : ∀ a b, a ≤ b → tkn g a ≤ tkn g b := fun a b h => fb_ct_mono _ h
  have lt : tp g n w < pos g n (w + 1) := by
    apply Nat.lt_of_not_le
    intro y
    have := mono _ _ y
    omega
  refine ⟨lt, fun j h1 h2 => ?_⟩
  cases x : tkb g j with
  | false => rfl
  | true =>
    have a1 := mono (tp g n w + 1) j (by omega)
    have a2 := mono (j + 1) (pos g n (w + 1)) (by omega)
    have a3 : tkn g (j + 1) = tkn g j + 1 := by rw [tkn_s, if_pos x]
    omega
theorem pos_0 {g : Nat → Int32} {n : Nat} : ∀ j, j < pos g n 0 → tkb g j = false := fun j hj => by
  have e := pos_tkn (g := g) (n := n) (w := 0) (by omega)
  cases x : tkb g j with
  | false => rfl
  | true =>
    have a2 : tkn g (j + 1) ≤ tkn g (pos g n 0) := fb_ct_mono _ (by omega)
    have a3 : tkn g (j + 1) = tkn g j + 1 := by rw [tkn_s, if_pos x]
    omega
/-- where nothing begins, and no word goes on, there are blanks -/
theorem blanks {g : Nat → Int32} {a b : Nat} (h0 : a < b → cont g a = false) (ht : ∀ j, a ≤ j → j < b → tkb g j = false) : ∀ j, a ≤ j → j < b → g j = 32 := by
  have key : ∀ d, a + d < b → g (a + d) = 32 := by
    intro d
    induction d with
    | zero =>
      intro hd
      have t := ht a (Nat.le_refl _) hd
      unfold tkb at t
      rw [h0 hd, Bool.not_false, Bool.and_true, Bool.not_eq_false', decide_eq_true_iff] at t
      exact t
    | succ d ih =>
      intro hd
      have p := ih (by omega)
      have t := ht (a + (d + 1)) (by omega) hd
      unfold tkb at t
      rw [← Nat.add_assoc, cont_s, p, isL32, Bool.and_false, Bool.not_false, Bool.and_true, Bool.not_eq_false', decide_eq_true_iff] at t
      rw [← Nat.add_assoc]
      exact t
  intro j h1 h2
  obtain ⟨d, rfl⟩ : ∃ d, j = a + d := ⟨j - a, by omega⟩
  exact key d h2
theorem fb_Z {g : Nat → Int32} {n w : Nat} (hv : ∀ k, k < n → isL (g k) = true ∨ g k = 32 ∨ g k = 47) (hw : w ≤ tkn g n) : fb_ct (Zw g n) w = mks g (pos g n w) := by
  have e := ct_sel (tkb g) (Zw g n) (pos g n w)
  have e2 : fb_ct (tkb g) (pos g n w) = w := pos_tkn hw
  rw [e2] at e
  rw [← e]
  have pl := pos_le g n w
  refine fb_ct_cong (fun k hk => ?_)
  by_cases c : g k = 47
  · have z : Zw g n (fb_ct (tkb g) k) = true := by
      unfold Zw tp
      rw [nth_at (tkb_47 c) rfl n (by omega)]
      exact decide_eq_true ((wsz_47 hv (by omega) (tkb_47 c)).mpr c)
    rw [tkb_47 c, z, decide_eq_true c]; rfl
  · rw [decide_eq_false c]
    cases x : tkb g k with
    | false => rfl
    | true =>
      have z : Zw g n (fb_ct (tkb g) k) = false := by
        unfold Zw tp
        rw [nth_at x rfl n (by omega)]
        exact decide_eq_false (fun y => c ((wsz_47 hv (by omega) x).mp y))
      rw [z]; rfl
theorem Zw_47 {g : Nat → Int32} {n w : Nat} (hv : ∀ k, k < n → isL (g k) = true ∨ g k = 32 ∨ g k = 47) (hw : w < tkn g n) : Zw g n w = true ↔ g (tp g n w) = 47 := by
  obtain ⟨t1, t2, _⟩ := tp_ok hw
  unfold Zw
  rw [decide_eq_true_iff]
  exact wsz_47 hv t1 t2
/-- a word: its letters, and what follows -/
theorem wd_at2 {g : Nat → Int32} {n w : Nat} (hv : ∀ k, k < n → isL (g k) = true ∨ g k = 32 ∨ g k = 47) (hw : w < tkn g n) (hz : Zw g n w = false) : isL (g (tp g n w)) = true ∧ cont g (tp g n w) = false ∧ 0 < wsz g n (tp g n w) ∧ (∀ j, j < wsz g n (tp g n w) → isL (g (tp g n w + j)) = true) ∧ tp g n w + wsz g n (tp g n w) ≤ pos g n (w + 1) ∧ ∀ j, tp g n w + wsz g n (tp g n w) ≤ j → j < pos g n (w + 1) → g j = 32 := by
  obtain ⟨t1, t2, t3⟩ := tp_ok hw
  obtain ⟨g1, g2⟩ := pos_gap hw
  have n47 : ¬ g (tp g n w) = 47 := fun y => by
    have := (Zw_47 hv hw).mpr y
    rw [hz] at this; cases this
  have L : isL (g (tp g n w)) = true := by
    rcases hv _ t1 with c | c | c
    · exact c
    · rw [tkb_32 c] at t2; cases t2
    · exact absurd c n47
  have cn : cont g (tp g n w) = false := by
    have := tkb_L L
    rw [t2] at this
    cases x : cont g (tp g n w) with
    | true => rw [x] at this; cases this
    | false => rfl
  have ws : wsz g n (tp g n w) = run g (n - tp g n w) (tp g n w) := if_neg n47
  obtain ⟨r1, r2, r3⟩ := run_spec g (n - tp g n w) (tp g n w)
  have rp := run_pos (g := g) (d := n - tp g n w) (k := tp g n w) (by omega) L
  rw [ws]
  have pl := pos_le g n (w + 1)
  have le : tp g n w + run g (n - tp g n w) (tp g n w) ≤ pos g n (w + 1) := by
    apply Nat.le_of_not_lt
    intro y
    obtain ⟨d, hd⟩ : ∃ d, pos g n (w + 1) = tp g n w + (d + 1) := ⟨pos g n (w + 1) - tp g n w - 1, by omega⟩
    have Ld := r2 (d + 1) (by omega)
    have cd : cont g (tp g n w + (d + 1)) = true := by rw [← Nat.add_assoc, cont_s, r2 d (by omega), Nat.add_assoc, Ld]; rfl
    have e := pos_tkn (g := g) (n := n) (w := w + 1) (by omega)
    by_cases c : w + 1 < tkn g n
    · have := (tp_ok c).2.1
      rw [← pos_lt c, hd, tkb_L Ld, cd] at this
      cases this
    · have : w + 1 = tkn g n := by omega
      rw [this, pos_end] at y
      omega
  refine ⟨L, cn, by omega, r2, le, ?_⟩
  exact blanks (fun y => cont_n (r3 (by omega))) (fun j h1 h2 => g2 j (by omega) h2)
end Beat
section Beat2
variable {h : z_Hp} (F : Nat) (x1 x2 x3 x4 x5 : Int32)
theorem x_beats (hF : 5000 ≤ F) {a b n i : Nat} {g : Nat → Int32} (S : SgX h a b n g) (hi : i < 100) : Wp (c_X7_beats F a (nI i) h) (fun r => r = (nI (acc g i n), h)) := by
  obtain ⟨ta, ra, tb, nb, n60, eb, _, _⟩ := S
  have ol : okL h b = true := okL_n tb (by decide) (by decide)
  unfold c_X7_beats
  refine Wp.loop (L := fun m (u : Int32 × Int32 × Int32 × Int32) => c_X7_beats_L10 F a (nI i) m u.1 u.2.1 u.2.2.1 u.2.2.2 h) (N := n) (fun k u => u.1 = nI (mks g k) ∧ u.2.1 = nI (acc g i k) ∧ (u.2.2.1 = if (decide (0 < k) && vow (g (k - 1))) = true then 1 else 0) ∧ u.2.2.2 = nI k) (fun m k u hk hP ih => ?_) (fun m u hP => ?_) F (0, 0, 0, 0) (by omega) ⟨rfl, rfl, rfl, rfl⟩
  · obtain ⟨u1, u2, u3, u4⟩ := u
    obtain ⟨q1, q2, q3, q4⟩ := hP
    dsimp only at q1 q2 q3 q4 ⊢
    subst q1 q2 q4
    have m60 : mks g k ≤ k := fb_ct_le _ _
    have o1 : okA h b 21 (nI k) = true := okA_n tb nb hk (by omega)
    rw [c_X7_beats_L10, nI_1 k, nI_1 (mks g k), nI_1 (acc g i k), ix_n (show k < 2147483648 by omega)]
    refine Wp.ifT ta (Wp.ltO (Wp.rf ra (Wp.ifT ol ?_)))
    rw [nb]
    refine Wp.ifF (nI_ge hk (by omega)) ?_
    by_cases c : i < mks g k
    · exact Wp.ifT (nI_lt c (by omega)) (Wp.ret (by rw [acc_stop (Nat.le_of_lt hk) c]))
    · refine Wp.ifF (nI_nlt (by omega) (by omega)) (Wp.ifT ta (Wp.ltO (Wp.rf ra (Wp.ifT o1 ?_))))
      rw [eb k hk]
      refine Wp.cIe (x_vow F _ _) (Wp.lj (fun j hj => ?_))
      have pv : decide (0 < k + 1) = true := decide_eq_true (by omega)
      have nx : ∀ m' v', m' = mks g (k + 1) → v' = acc g i (k + 1) → Wp (c_X7_beats_L10 F a (nI i) m (nI m') (nI v') (if vow (g k) = true then 1 else 0) (nI (k + 1)) h) (fun r => r = (nI (acc g i n), h)) := fun m' v' hm hv' => ih (nI m', nI v', if vow (g k) = true then 1 else 0, nI (k + 1)) ⟨by rw [hm], by rw [hv'], by dsimp only; rw [pv, Bool.true_and, Nat.add_sub_cancel], rfl⟩
      have go : ∀ v', v' = acc g i (k + 1) → Wp (j (nI v') h) (fun r => r = (nI (acc g i n), h)) := fun v' hv' => by
        rw [hj]
        dsimp only
        refine Wp.ifT ta (Wp.ltO (Wp.rf ra (Wp.ifT o1 (Wp.lj (fun j2 hj2 => ?_)))))
        rw [eb k hk]
        by_cases d : g k = 47
        · refine Wp.ifT d (Wp.ltI ?_)
          rw [hj2]
          exact nx _ _ (by rw [mks_s, if_pos d]) hv'
        · refine Wp.ifF d ?_
          rw [hj2]
          exact nx _ _ (by rw [mks_s, if_neg d]; rfl) hv'
      by_cases v1 : vow (g k) = true
      · refine Wp.ifF (by rw [if_pos v1]; exact one0) ?_
        by_cases v2 : (decide (0 < k) && vow (g (k - 1))) = true
        · refine Wp.ifF (by rw [q3, if_pos v2]; exact one0) (go _ ?_)
          rw [acc_s]
          unfold beat
          rw [v2, Bool.not_true, Bool.and_false, Bool.false_and, if_neg (by decide)]; rfl
        · have vf : (decide (0 < k) && vow (g (k - 1))) = false := by cases y : (decide (0 < k) && vow (g (k - 1))) with | true => exact absurd y v2 | false => rfl
          refine Wp.ifT (by rw [q3, if_neg v2]) ?_
          by_cases e : mks g k = i
          · refine Wp.ifT (by rw [e]) (Wp.ltI (go _ ?_))
            rw [acc_s]
            unfold beat
            rw [vf, v1, decide_eq_true e]; rfl
          · refine Wp.ifF (fun y => e ((nI_eq (by omega) (by omega)).mp y)) (go _ ?_)
            rw [acc_s, decide_eq_false e, Bool.and_false, if_neg (by decide)]; rfl
      · refine Wp.ifT (by rw [if_neg v1]) (go _ ?_)
        have vf : vow (g k) = false := by cases y : vow (g k) with | true => exact absurd y v1 | false => rfl
        rw [acc_s]
        unfold beat
        rw [vf, Bool.false_and, Bool.false_and, if_neg (by decide)]; rfl
  · obtain ⟨u1, u2, u3, u4⟩ := u
    obtain ⟨q1, q2, q3, q4⟩ := hP
    dsimp only at q1 q2 q3 q4 ⊢
    subst q1 q2 q4
    rw [c_X7_beats_L10]
    refine Wp.ifT ta (Wp.ltO (Wp.rf ra (Wp.ifT ol ?_)))
    rw [nb]
    exact Wp.ifT (nI_le (Nat.le_refl n) (by omega)) (Wp.ret rfl)
/-- the first word of line i -/
def LA (g : Nat → Int32) (n i w : Nat) : Prop := w ≤ tkn g n ∧ fb_ct (Zw g n) w = i ∧ (i = 0 → w = 0) ∧ (0 < i → 0 < w ∧ Zw g n (w - 1) = true)
theorem m_lineAt (I : Ifx h) (hF : 5000 ≤ F) {n i : Nat} {g : Nat → Int32} (n60 : n ≤ 60) (hv : ∀ k, k < n → isL (g k) = true ∨ g k = 32 ∨ g k = 47) (W : Wd h n g) (hi : i ≤ mks g n) : Wp (c_X10_lineAt F 46 (nI i) h) (fun r => ∃ w, r = (nI w, h) ∧ LA g n i w) := by
  have tl := tkn_le g n
  have ml : mks g n ≤ n := fb_ct_le _ _
  have fz : fb_ct (Zw g n) (tkn g n) = mks g n := mks_w hv
  unfold c_X10_lineAt
  refine Wp.dn (L := fun m (u : Int32 × Int32) => c_X10_lineAt_L4 F 46 (nI i) m u.1 u.2 h) (fun d u => ∃ w, d = tkn g n - w ∧ w ≤ tkn g n ∧ u.1 = nI w ∧ u.2 = nI (fb_ct (Zw g n) w) ∧ fb_ct (Zw g n) w ≤ i ∧ (fb_ct (Zw g n) w = i → LA g n i w)) (fun m d u hP ih => ?_) F (tkn g n) (0, 0) (by omega) ⟨0, rfl, by omega, rfl, rfl, by show 0 ≤ i; omega, fun e => ⟨by omega, e, fun _ => rfl, fun y => by have : i = 0 := e.symm; omega⟩⟩
  obtain ⟨u1, u2⟩ := u
  obtain ⟨w, rfl, hw, q1, q2, q3, q4⟩ := hP
  dsimp only at q1 q2 ⊢
  subst q1 q2
  have fl := fb_ct_le (Zw g n) w
  rw [c_X10_lineAt_L4, nI_1]
  by_cases c : i ≤ fb_ct (Zw g n) w
  · exact Wp.ifT (nI_le c (by omega)) (Wp.ret ⟨w, rfl, q4 (by omega)⟩)
  · have hw' : w < tkn g n := by
      apply Nat.lt_of_not_le
      intro y
      have : w = tkn g n := by omega
      rw [this, fz] at c
      omega
    have o56 : okA h 56 20 (nI w) = true := okA_n (fT56 I) (fN56 I) (by omega) (by decide)
    have wl := wsz_le g (n := n) (k := tp g n w) (by have := (tp_ok hw').1; omega)
    refine Wp.ifF (nI_ge (by omega) (by omega)) (Wp.ifT (fT46 I) (Wp.ltO (Wp.rf (fR46_16 I) (Wp.ifT o56 (Wp.lj (fun j hj => ?_))))))
    rw [ix_n (show w < 2147483648 by omega), (W.at hw').2]
    have go : ∀ z : Nat, fb_ct (Zw g n) w + z = fb_ct (Zw g n) (w + 1) → (0 < z → Zw g n w = true) → Wp (j (nI z) h) (fun r => ∃ w, r = (nI w, h) ∧ LA g n i w) := fun z hz hz2 => by
      rw [hj]
      dsimp only [lt_]
      rw [nI_add]
      have z1 : z ≤ 1 := by
        rw [fb_ct_succ] at hz
        split at hz <;> omega
      refine ih (tkn g n - (w + 1)) (nI (w + 1), nI (fb_ct (Zw g n) w + z)) (by omega) ⟨w + 1, rfl, by omega, rfl, by rw [hz], by omega, fun e => ⟨by omega, e, fun y => by omega, fun _ => ⟨by omega, ?_⟩⟩⟩
      rw [Nat.add_sub_cancel]
      exact hz2 (by omega)
    by_cases z : wsz g n (tp g n w) = 0
    · have zt : Zw g n w = true := decide_eq_true z
      exact Wp.ifT (by rw [z]; rfl) (go 1 (by rw [fb_ct_succ, if_pos zt]) (fun _ => zt))
    · refine Wp.ifF (nI_ne0 (by omega) (by omega)) (go 0 ?_ (fun y => by omega))
      rw [fb_ct_succ, if_neg (by unfold Zw; rw [decide_eq_true_iff]; exact z)]
theorem LA.ac0 {g : Nat → Int32} {n i w : Nat} (hv : ∀ k, k < n → isL (g k) = true ∨ g k = 32 ∨ g k = 47) (A : LA g n i w) : acc g i (pos g n w) = 0 := by
  obtain ⟨a1, a2, a3, a4⟩ := A
  have fz := fb_Z hv a1
  have key : ∀ j, j < pos g n w → (beat g j && decide (mks g j = i)) = false := by
    intro j hj
    by_cases i0 : i = 0
    · have w0 := a3 i0
      subst w0
      have b := blanks (g := g) (a := 0) (b := pos g n 0) (fun _ => rfl) (fun j _ h2 => pos_0 j h2) j (by omega) hj
      rw [beat_32 (by rw [b]; exact isL32)]; rfl
    · obtain ⟨wp, zz⟩ := a4 (by omega)
      obtain ⟨v, rfl⟩ : ∃ v, w = v + 1 := ⟨w - 1, by omega⟩
      rw [Nat.add_sub_cancel] at zz
      have hv' : v < tkn g n := by omega
      have g47 := (Zw_47 hv hv').mp zz
      obtain ⟨p1, p2⟩ := pos_gap hv'
      have fv : fb_ct (Zw g n) (v + 1) = fb_ct (Zw g n) v + 1 := by rw [fb_ct_succ, if_pos zz]
      have fz2 := fb_Z hv (Nat.le_of_lt hv')
      rw [pos_lt hv'] at fz2
      by_cases c : j ≤ tp g n v
      · have := mks_mono g c
        rw [decide_eq_false (by omega), Bool.and_false]
      · have b := blanks (g := g) (a := tp g n v + 1) (b := pos g n (v + 1)) (fun _ => by rw [cont_s, g47, isL47, Bool.and_false]) (fun j h1 h2 => p2 j (by omega) h2) j (by omega) hj
        rw [beat_32 (by rw [b]; exact isL32)]; rfl
  exact fb_ct_zero.mpr key
theorem m_measureOf (I : Ifx h) (hF : 5000 ≤ F) {s n i : Nat} {g : Nat → Int32} (S : SgM h s n g) (hi : i ≤ mks g n) : Wp (c_X10_measureOf F 46 (nI s) (nI i) h) (fun r => r.1 = nI (acc g i n) ∧ ChI Aw h r.2 ∧ Wd r.2 n g) := by
  have n60 := S.2.1
  have s10 := S.1
  have hv := S.2.2.2.2.1
  have tl := tkn_le g n
  unfold c_X10_measureOf
  refine Wp.ifT (fT46 I) (Wp.cV ((m_words F I hF S).mono (fun v d => ?_)))
  obtain ⟨d1, W⟩ := d
  have Iv := d1.fx I
  have Sv := S.ch d1 (fun i => ⟨by unfold Aw; omega, by unfold Aw; omega⟩)
  refine Wp.ifT (fT46 Iv) (Wp.cI ((m_lineAt F Iv hF n60 hv W hi).mono (fun r e => ?_)))
  obtain ⟨w0, rfl, A⟩ := e
  dsimp only
  refine Wp.dn (L := fun m (u : Int32 × Int32) => c_X10_measureOf_L14 F 46 (nI s) m u.1 u.2 v) (fun d u => ∃ w, d = tkn g n - w ∧ w ≤ tkn g n ∧ u.1 = nI (acc g i (pos g n w)) ∧ u.2 = nI w ∧ fb_ct (Zw g n) w = i) (fun m d u hP ih => ?_) F (tkn g n - w0) (0, nI w0) (by omega) ⟨w0, rfl, A.1, by rw [A.ac0 hv]; rfl, rfl, A.2.1⟩
  obtain ⟨u1, u2⟩ := u
  obtain ⟨w, rfl, hw, q1, q2, q3⟩ := hP
  dsimp only at q1 q2 ⊢
  subst q1 q2
  have fz := fb_Z hv hw
  rw [c_X10_measureOf_L14, nI_1]
  by_cases c : tkn g n ≤ w
  · have we : w = tkn g n := by omega
    refine Wp.ifT (fT46 Iv) (Wp.ifT (by rw [W.1]; exact nI_le c (by omega)) (Wp.ret ⟨?_, d1, W⟩))
    rw [we, pos_end]
  · have hw' : w < tkn g n := by omega
    obtain ⟨t1, t2, t3⟩ := tp_ok hw'
    have o56 : okA v 56 20 (nI w) = true := okA_n (fT56 Iv) (fN56 Iv) (by omega) (by decide)
    have o55 : okA v 55 20 (nI w) = true := okA_n (fT55 Iv) (fN55 Iv) (by omega) (by decide)
    have wl := wsz_le g (n := n) (k := tp g n w) (by omega)
    rw [ix_n (show w < 2147483648 by omega)]
    refine Wp.ifT (fT46 Iv) (Wp.ifF (by rw [W.1]; exact nI_ge hw' (by omega)) (Wp.ifT (fT46 Iv) (Wp.ltO (Wp.rf (fR46_16 Iv) (Wp.ifT o56 ?_)))))
    rw [(W.at hw').2]
    rw [pos_lt hw'] at fz ⊢
    by_cases z : wsz g n (tp g n w) = 0
    · have g47 := (Zw_47 hv hw').mp (decide_eq_true z)
      refine Wp.ifT (by rw [z]; decide) (Wp.ret ⟨?_, d1, W⟩)
      dsimp only
      congr 1
      refine (ct_flat (Nat.le_of_lt t1) (fun j h1 h2 => ?_)).symm
      by_cases e : j = tp g n w
      · rw [e, beat_32 (by rw [g47]; exact isL47)]; rfl
      · have m1 := mks_mono g (show tp g n w + 1 ≤ j by omega)
        rw [mks_s, if_pos g47] at m1
        rw [decide_eq_false (by omega), Bool.and_false]
    · have zf : Zw g n w = false := decide_eq_false z
      obtain ⟨L, cn, wp, lets, le, bl⟩ := wd_at2 hv hw' zf
      refine Wp.ifF (nI_nle wp (by omega)) (Wp.ifT (fT46 Iv) (Wp.ltO (Wp.rf (fR46_15 Iv) (Wp.ifT o55 (Wp.ltI ?_)))))
      rw [(W.at hw').1]
      have mk : ∀ j, j ≤ wsz g n (tp g n w) → mks g (tp g n w + j) = i := by
        intro j
        induction j with
        | zero => intro _; rw [Nat.add_zero]; omega
        | succ j ihj =>
          intro hj
          rw [← Nat.add_assoc, mks_s, ihj (by omega), if_neg (ne47_L (lets j (by omega)))]; rfl
      generalize hp : tp g n w = p at *
      generalize hr : wsz g n p = r at *
      refine Wp.loop (L := fun m' (u : Int32 × Int32 × Int32) => c_X10_measureOf_L45 F 46 (nI s) (nI w) _ m' u.1 u.2.1 u.2.2 v) (N := r) (fun j u => u.1 = nI (acc g i (p + j)) ∧ (u.2.1 = if (decide (0 < j) && vow (g (p + j - 1))) = true then 1 else 0) ∧ u.2.2 = nI (p + j)) (fun m' j u hj hP ih2 => ?_) (fun m' u hP => ?_) F (nI (acc g i p), 0, nI p) (by omega) ⟨rfl, rfl, rfl⟩
      · obtain ⟨b1, b2, b3⟩ := u
        obtain ⟨q4, q5, q6⟩ := hP
        dsimp only at q4 q5 q6 ⊢
        subst q4 q6
        have o54 : okA v 54 20 (nI (60 * s + (p + j))) = true := okA_n (fT54 Iv) (fN54 Iv) (by omega) (by decide)
        rw [c_X10_measureOf_L45, nI_1 (p + j), e60, ix_n (show w < 2147483648 by omega), ix_n (show 60 * s + (p + j) < 2147483648 by omega)]
        refine Wp.ifT (fT46 Iv) (Wp.ltO (Wp.rf (fR46_15 Iv) (Wp.ifT o55 (Wp.ifT (fT46 Iv) (Wp.ltO (Wp.rf (fR46_16 Iv) (Wp.ifT o56 (Wp.ifF (by rw [(W.at hw').1, (W.at hw').2, hp, hr, nI_add]; exact nI_ge (by omega) (by omega)) (Wp.ifT (fT46 Iv) (Wp.ltO (Wp.rf (fR46_13 Iv) (Wp.ifT o54 ?_))))))))))))
        rw [Sv.2.2.2.1 (p + j) (by omega)]
        refine Wp.cIe (m_vow F _ _) (Wp.lj (fun j3 hj3 => Wp.lj (fun j4 hj4 => ?_)))
        have be : beat g (p + j) = (vow (g (p + j)) && !(decide (0 < j) && vow (g (p + j - 1)))) := by
          unfold beat
          by_cases j0 : j = 0
          · subst j0
            rw [Nat.add_zero, decide_eq_false (Nat.lt_irrefl 0), Bool.false_and]
            by_cases p0 : p = 0
            · rw [decide_eq_false (by omega), Bool.false_and]
            · obtain ⟨p', rfl⟩ : ∃ p', p = p' + 1 := ⟨p - 1, by omega⟩
              rw [cont_s, L, Bool.true_and] at cn
              rw [Nat.add_sub_cancel, vow_no cn, Bool.and_false]
          · rw [decide_eq_true (show 0 < p + j by omega), decide_eq_true (show 0 < j by omega)]
        have ac : acc g i (p + (j + 1)) = acc g i (p + j) + (if (vow (g (p + j)) && !(decide (0 < j) && vow (g (p + j - 1)))) = true then 1 else 0) := by
          rw [← Nat.add_assoc, acc_s, be, decide_eq_true (mk j (by omega)), Bool.and_true]
        have go : ∀ z : Nat, acc g i (p + j) + z = acc g i (p + (j + 1)) → Wp (j3 (nI z) v) (fun r => r.1 = nI (acc g i n) ∧ ChI Aw h r.2 ∧ Wd r.2 n g) := fun z hz => by
          rw [hj3]
          dsimp only [lt_]
          rw [nI_add]
          refine ih2 (nI (acc g i (p + j) + z), if vow (g (p + j)) = true then 1 else 0, nI (p + j + 1)) ⟨by rw [hz], ?_, rfl⟩
          dsimp only
          rw [decide_eq_true (show 0 < j + 1 by omega), Bool.true_and, show p + (j + 1) - 1 = p + j by omega]
        by_cases v1 : vow (g (p + j)) = true
        · refine Wp.ifF (by rw [if_pos v1]; exact one0) ?_
          by_cases v2 : (decide (0 < j) && vow (g (p + j - 1))) = true
          · refine Wp.ifF (by rw [q5, if_pos v2]; exact one0) ?_
            rw [hj4]
            exact go 0 (by rw [ac, v2, Bool.not_true, Bool.and_false, if_neg (by decide)])
          · refine Wp.ifT (by rw [q5, if_neg v2]) (go 1 ?_)
            have vf : (decide (0 < j) && vow (g (p + j - 1))) = false := by cases y : (decide (0 < j) && vow (g (p + j - 1))) with | true => exact absurd y v2 | false => rfl
            rw [ac, v1, vf]; rfl
        · refine Wp.ifT (by rw [if_neg v1]) ?_
          have vf : vow (g (p + j)) = false := by cases y : vow (g (p + j)) with | true => exact absurd y v1 | false => rfl
          rw [hj4]
          exact go 0 (by rw [ac, vf, Bool.false_and, if_neg (by decide)])
      · obtain ⟨b1, b2, b3⟩ := u
        obtain ⟨q4, q5, q6⟩ := hP
        dsimp only at q4 q5 q6 ⊢
        subst q4 q6
        rw [c_X10_measureOf_L45, ix_n (show w < 2147483648 by omega)]
        refine Wp.ifT (fT46 Iv) (Wp.ltO (Wp.rf (fR46_15 Iv) (Wp.ifT o55 (Wp.ifT (fT46 Iv) (Wp.ltO (Wp.rf (fR46_16 Iv) (Wp.ifT o56 (Wp.ifT (by rw [(W.at hw').1, (W.at hw').2, hp, hr, nI_add]; exact nI_le (Nat.le_refl _) (by omega)) (Wp.ltI ?_)))))))))
        refine ih (tkn g n - (w + 1)) (nI (acc g i (p + r)), nI (w + 1)) (by omega) ⟨w + 1, rfl, by omega, ?_, rfl, ?_⟩
        · dsimp only
          congr 1
          refine (ct_flat le (fun j h1 h2 => ?_)).symm
          rw [beat_32 (by rw [bl j h1 h2]; exact isL32)]; rfl
        · rw [fb_ct_succ, zf, q3]; rfl
theorem x_hasLine {a b n : Nat} {g : Nat → Int32} (S : SgX h a b n g) (x : Int32) : c_X7_hasLine F a x h = some (if 0 ≤ x.toInt ∧ x.toInt ≤ (mks g n : Int) then 1 else 0, h) := by
  have ml : mks g n ≤ n := fb_ct_le _ _
  have n60 := S.2.2.2.2.1
  unfold c_X7_hasLine
  rw [S.1, if_pos rfl, S.2.2.2.2.2.2.1]
  simp only [fa_lt, fa_le, ti_0, toI_n (show mks g n + 1 < 2147483648 by omega)]
  by_cases c : 0 ≤ x.toInt ∧ x.toInt ≤ (mks g n : Int)
  · rw [if_pos c, if_neg (by omega), if_neg (by omega)]
  · rw [if_neg c]
    by_cases d : x.toInt < 0
    · rw [if_pos d]
    · rw [if_neg d, if_pos (by omega)]
theorem m_inL {n : Nat} {g : Nat → Int32} (n60 : n ≤ 60) (x : Int32) (k : z_Hp) : c_X10_in F x 0 (nI (mks g n + 1) - 1) k = some (if 0 ≤ x.toInt ∧ x.toInt ≤ (mks g n : Int) then 1 else 0, k) := by
  have ml : mks g n ≤ n := fb_ct_le _ _
  rw [m_in, ti_0, predI (by omega)]
  congr 2
  by_cases c : 0 ≤ x.toInt ∧ x.toInt ≤ (mks g n : Int)
  · rw [if_pos c, if_pos (by omega)]
  · rw [if_neg c, if_neg (by omega)]
theorem op_measure (hF : 5000 ≤ F) (J : Inv h) : OkI h (c_X9_measure F 5 x1 x2 h) (c_X10_measure F 46 x1 x2) := by
  obtain ⟨ow, J⟩ := J
  have o := J.1
  have I := J.2.1
  by_cases c1 : 0 ≤ x1.toInt ∧ x1.toInt ≤ 9
  · obtain ⟨s, hs, rfl⟩ := rng (x := x1) (n := 9) c1
    have o8 : okA h 8 25 (nI s) = true := okA_n (fT8 I) (fN8 I) (by omega) (by decide)
    rcases J.sng.x (s := s) (by omega) with ⟨g1, g2⟩ | ⟨n, a, b, g, e1, e2, X, M, _⟩
    · refine OkI.found0 (F := F) 1 (by decide) J ?_ (fun h' w => ?_)
      · unfold c_X9_measure
        show _ = c_X9_found F 5 1 h
        rw [x_isSong, bI_some, if_pos c1, ite10]
        simp only [fT5 I, fR5_2 I, if_true, ltq, nnq, o8, ix_n (show s < 2147483648 by omega), g2, nlz, bI_id]
      · have I' := I.st o w (by decide)
        have e : hI h' 53 s = -9 := (w.fam I o (c := 62) (by decide) 53 s (by omega) rfl).1.trans g1
        unfold c_X10_measure
        show _ = c_X10_meets F 46 1 h'
        rw [fT46 I', if_pos rfl, m_askS F I' (by omega), e, if_neg nn9, m_meets I' F 1 1 rfl (by decide), bI_some, if_neg (by decide)]
    · have n60 := M.2.1
      have ml : mks g n ≤ n := fb_ct_le _ _
      have asked : ∀ k, Ifx k → SgM k s n g → c_X10_askedSong F 46 (nI s) k = some (0, k) := fun k Ik Mk => by rw [m_askS F Ik (by omega), Mk.2.2.1, if_pos (nge (by omega))]
      by_cases c2 : 0 ≤ x2.toInt ∧ x2.toInt ≤ (mks g n : Int)
      · obtain ⟨i, hi, rfl⟩ := rng (x := x2) (n := mks g n) c2
        obtain ⟨⟨l, k⟩, k1, k2, k3, k4⟩ := m_lines F I hF M
        dsimp only at k2 k3 k4
        subst k2
        have Ik := k3.fx I
        have Mk := M.ch k3 (fun i => ⟨by unfold Aw; omega, by unfold Aw; omega⟩)
        obtain ⟨⟨v, k'⟩, f1, f2, f3, f4⟩ := m_measureOf F Ik hF Mk hi
        dsimp only at f2 f3 f4
        subst f2
        obtain ⟨r, d1, d2⟩ := x_beats F hF X (show i < 100 by omega)
        subst d2
        have sk : St [102] ow h k' := ((k3.st (fs := [102]) I o (fun a i e => e.ow)).trans (f3.st (fs := [102]) Ik o (fun a i e => e.ow))).sub (by decide)
        refine ⟨nI (acc g i n), h, k', ?_, ?_, ⟨ow, J.fin o sk (OwX.refl _ _) (by decide)⟩, by rw [f3.Z.1, k3.Z.1]; omega, by rw [f3.Z.2, k3.Z.2]; omega⟩
        · unfold c_X9_measure
          rw [x_isSong, bI_some, if_pos c1, ite10]
          simp only [fT5 I, fR5_2 I, if_true, ltq, nnq, o8, ix_n (show s < 2147483648 by omega), e2, nlq, X.1, x_hasLine F X, bIq, if_pos c2, ite10, d1]
        · unfold c_X10_measure
          rw [fT46 I, if_pos rfl, asked h I M, bI_some, if_pos (by decide), fT46 I, if_pos rfl, k1, bI_some, m_inL F n60, bI_some, if_pos c2, ite10, fT46 Ik, if_pos rfl, f1, bI_some]
      · have I2 : ∀ k, k = sI (sI h 5 12 (nI 2)) 45 2 (hI h 45 2 + 1) → Ifx k ∧ SgM k s n g := fun k ek => by
          have c0 : ChI (fun a i => a = 5 ∨ a = 45) h k := by rw [ek]; exact ((ChI.refl _ _).set (Or.inl rfl)).set (Or.inr rfl)
          exact ⟨c0.fx I, M.ch c0 (fun i => ⟨by omega, by omega⟩)⟩
        refine OkI.found (F := F) 2 (by decide) J (St.r I) (Szs.refl _) ?_ ?_
        · unfold c_X9_measure
          rw [x_isSong, bI_some, if_pos c1, ite10]
          simp only [fT5 I, fR5_2 I, if_true, ltq, nnq, o8, ix_n (show s < 2147483648 by omega), e2, nlq, X.1, x_hasLine F X, bIq, if_neg c2, ite00, bI_id]
          rfl
        · obtain ⟨Ik0, Mk0⟩ := I2 _ rfl
          obtain ⟨⟨l, k⟩, k1, k2, k3, k4⟩ := m_lines F Ik0 hF Mk0
          dsimp only at k2 k3 k4
          subst k2
          have Ik := k3.fx Ik0
          refine ⟨k, (k3.st (fs := [102]) Ik0 o (fun a i e => e.ow)).sub (by decide), ⟨k3.Z.1, k3.Z.2⟩, ?_⟩
          unfold c_X10_measure
          rw [fT46 Ik0, if_pos rfl, asked _ Ik0 Mk0, bI_some, if_pos (by decide), fT46 Ik0, if_pos rfl, k1, bI_some, m_inL F n60, bI_some, if_neg c2, ite00, fT46 Ik, if_pos rfl, bI_id]
          rfl
  · refine OkI.same (-1) ⟨ow, J⟩ ?_ ?_
    · unfold c_X9_measure
      rw [x_isSong, bI_some, if_neg c1, ite00]
    · unfold c_X10_measure
      rw [fT46 I, if_pos rfl, m_askS_no F c1, bI_some, if_neg (by decide)]
end Beat2
