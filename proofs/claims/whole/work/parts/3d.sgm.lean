section Sgm
/-! songs: letters, words and marks -/
theorem isL32 : isL 32 = false := by decide
theorem isL47 : isL 47 = false := by decide
theorem run_spec (g : Nat → Int32) : ∀ d k, run g d k ≤ d ∧ (∀ j, j < run g d k → isL (g (k + j)) = true) ∧ (run g d k < d → isL (g (k + run g d k)) = false)
  | 0, k => ⟨Nat.le_refl _, fun j hj => absurd hj (Nat.not_lt_zero _), fun hj => absurd hj (Nat.not_lt_zero _)⟩
  | d + 1, k => by
    obtain ⟨h1, h2, h3⟩ := run_spec g d (k + 1)
    by_cases c : isL (g k) = true
    · have e : run g (d + 1) k = run g d (k + 1) + 1 := if_pos c
      rw [e]
      refine ⟨by omega, fun j hj => ?_, fun hj => ?_⟩
      · cases j with
        | zero => exact c
        | succ j => rw [show k + (j + 1) = k + 1 + j by omega]; exact h2 j (by omega)
      · rw [show k + (run g d (k + 1) + 1) = k + 1 + run g d (k + 1) by omega]; exact h3 (by omega)
    · have e : run g (d + 1) k = 0 := if_neg c
      rw [e]
      refine ⟨by omega, fun j hj => by omega, fun _ => ?_⟩
      cases x : isL (g k) with
      | true => exact absurd x c
      | false => rfl
theorem run_pos {g : Nat → Int32} {d k : Nat} (hd : 0 < d) (c : isL (g k) = true) : run g d k = run g (d - 1) (k + 1) + 1 := by
  obtain ⟨e, rfl⟩ : ∃ e, d = e + 1 := ⟨d - 1, by omega⟩
  exact if_pos c
theorem run_zero {g : Nat → Int32} {d k : Nat} (c : isL (g k) = false) : run g d k = 0 := by
  cases d with
  | zero => rfl
  | succ d => exact if_neg (by rw [c]; decide)
def wsz (g : Nat → Int32) (n k : Nat) : Nat := if g k = 47 then 0 else run g (n - k) k
theorem ne32_L {c : Int32} (h : isL c = true) : ¬ c = 32 := fun e => by rw [e, isL32] at h; cases h
theorem ne47_L {c : Int32} (h : isL c = true) : ¬ c = 47 := fun e => by rw [e, isL47] at h; cases h
theorem cont_0 (g : Nat → Int32) : cont g 0 = false := rfl
theorem cont_s (g : Nat → Int32) (k : Nat) : cont g (k + 1) = (isL (g (k + 1)) && isL (g k)) := by
  unfold cont
  rw [decide_eq_true (by omega), Bool.true_and, Nat.add_sub_cancel]
theorem cont_n {g : Nat → Int32} {k : Nat} (h : isL (g k) = false) : cont g k = false := by
  unfold cont
  rw [h]; simp
theorem tkb_L {g : Nat → Int32} {k : Nat} (h : isL (g k) = true) : tkb g k = !cont g k := by
  unfold tkb
  rw [decide_eq_false (ne32_L h)]; rfl
theorem tkb_47 {g : Nat → Int32} {k : Nat} (h : g k = 47) : tkb g k = true := by
  unfold tkb
  rw [cont_n (by rw [h]; exact isL47), h]; decide
theorem tkb_32 {g : Nat → Int32} {k : Nat} (h : g k = 32) : tkb g k = false := by
  unfold tkb
  rw [h]; rfl
theorem tkn_s (g : Nat → Int32) (k : Nat) : tkn g (k + 1) = tkn g k + (if tkb g k = true then 1 else 0) := rfl
/-- a whole word begins once -/
theorem tkn_run {g : Nat → Int32} {d k : Nat} (hb : cont g k = false) (hr : 0 < run g d k) : ∀ j, 0 < j → j ≤ run g d k → tkn g (k + j) = tkn g k + 1
  | 0, h, _ => by omega
  | j + 1, _, h => by
    obtain ⟨_, h2, _⟩ := run_spec g d k
    have Lk := h2 j (by omega)
    rw [← Nat.add_assoc, tkn_s]
    cases j with
    | zero =>
      rw [Nat.add_zero] at Lk ⊢
      rw [tkb_L Lk, hb]; rfl
    | succ j =>
      have Lk2 : isL (g (k + j + 1)) = true := Lk
      rw [tkn_run hb hr (j + 1) (by omega) (by omega), tkb_L Lk, ← Nat.add_assoc, cont_s, h2 j (by omega), Lk2]; rfl
/-- letters and sizes of words -/
theorem let_sum {g : Nat → Int32} {n : Nat} (hv : ∀ k, k < n → isL (g k) = true ∨ g k = 32 ∨ g k = 47) : ∀ k, k ≤ n → fb_sm (fun j => if tkb g j = true then wsz g n j else 0) k = fb_ct (fun j => isL (g j)) k + (if cont g k = true then run g (n - k) k else 0)
  | 0, _ => rfl
  | k + 1, hk => by
    have ih := let_sum hv k (by omega)
    rw [fb_sm_succ, ih, fb_ct_succ]
    rcases hv k (by omega) with c | c | c
    · have z : wsz g n k = run g (n - k) k := if_neg (ne47_L c)
      have p := run_pos (g := g) (d := n - k) (k := k) (by omega) c
      rw [show n - k - 1 = n - (k + 1) by omega] at p
      have nx : (if cont g (k + 1) = true then run g (n - (k + 1)) (k + 1) else 0) = run g (n - (k + 1)) (k + 1) := by
        by_cases d : isL (g (k + 1)) = true
        · rw [cont_s, d, c, if_pos (by rfl)]
        · have df : isL (g (k + 1)) = false := by cases x : isL (g (k + 1)) with | true => exact absurd x d | false => rfl
          rw [cont_s, df, Bool.false_and, if_neg (by decide), run_zero df]
      rw [nx, z, tkb_L c, c, if_pos rfl]
      cases x : cont g k with
      | true => rw [if_pos rfl, if_neg (by decide)]; omega
      | false => rw [if_neg (by decide), if_pos (by rfl)]; omega
    · have Lf : isL (g k) = false := by rw [c]; exact isL32
      have nx : cont g (k + 1) = false := by rw [cont_s, Lf, Bool.and_false]
      rw [tkb_32 c, cont_n Lf, Lf, nx]; rfl
    · have Lf : isL (g k) = false := by rw [c]; exact isL47
      have nx : cont g (k + 1) = false := by rw [cont_s, Lf, Bool.and_false]
      have z : wsz g n k = 0 := if_pos c
      rw [tkb_47 c, cont_n Lf, Lf, nx, z]; rfl
theorem ct_nth {p : Nat → Bool} {n : Nat} (Z : Nat → Bool) : fb_ct (fun w => Z (nth p n w)) (fb_ct p n) = fb_ct (fun k => p k && Z k) n := by
  have := ct_sel p (fun w => Z (nth p n w)) n
  rw [← this]
  refine fb_ct_cong (fun k hk => ?_)
  cases x : p k with
  | false => rfl
  | true => rw [nth_at x rfl n hk]
theorem sm_sel (p : Nat → Bool) (f : Nat → Nat) : ∀ q, fb_sm (fun s => if p s = true then f (fb_ct p s) else 0) q = fb_sm f (fb_ct p q)
  | 0 => rfl
  | q + 1 => by
    rw [fb_sm_succ, sm_sel p f q, fb_ct_succ p q]
    by_cases c : p q = true
    · rw [if_pos c, if_pos c, fb_sm_succ]
    · rw [if_neg c, if_neg c, Nat.add_zero, Nat.add_zero]
theorem sm_nth {p : Nat → Bool} {n : Nat} (f : Nat → Nat) : fb_sm (fun w => f (nth p n w)) (fb_ct p n) = fb_sm (fun k => if p k = true then f k else 0) n := by
  rw [← sm_sel p (fun w => f (nth p n w)) n]
  refine fb_sm_cong (fun k hk => ?_)
  by_cases x : p k = true
  · rw [if_pos x, if_pos x, nth_at x rfl n hk]
  · rw [if_neg x, if_neg x]
/-- the place at which the word or mark w begins -/
def tp (g : Nat → Int32) (n w : Nat) : Nat := nth (tkb g) n w
theorem tp_ok {g : Nat → Int32} {n w : Nat} (h : w < tkn g n) : tp g n w < n ∧ tkb g (tp g n w) = true ∧ tkn g (tp g n w) = w := nth_ok h
theorem tkn_le (g : Nat → Int32) (n : Nat) : tkn g n ≤ n := fb_ct_le _ _
theorem wsz_47 {g : Nat → Int32} {n k : Nat} (hv : ∀ k, k < n → isL (g k) = true ∨ g k = 32 ∨ g k = 47) (hk : k < n) (ht : tkb g k = true) : wsz g n k = 0 ↔ g k = 47 := by
  constructor
  · intro e
    rcases hv k hk with c | c | c
    · have z : wsz g n k = run g (n - k) k := if_neg (ne47_L c)
      rw [z, run_pos (by omega) c] at e
      omega
    · rw [tkb_32 c] at ht; cases ht
    · exact c
  · intro e
    exact if_pos e
theorem wsz_le (g : Nat → Int32) {n k : Nat} (hk : k ≤ n) : k + wsz g n k ≤ n := by
  unfold wsz
  split
  · omega
  · have := (run_spec g (n - k) k).1
    omega
theorem mks_w {g : Nat → Int32} {n : Nat} (hv : ∀ k, k < n → isL (g k) = true ∨ g k = 32 ∨ g k = 47) : fb_ct (fun w => decide (wsz g n (tp g n w) = 0)) (tkn g n) = mks g n := by
  have := ct_nth (p := tkb g) (n := n) (fun k => decide (wsz g n k = 0))
  unfold tp tkn
  rw [this]
  refine fb_ct_cong (fun k hk => ?_)
  by_cases c : g k = 47
  · rw [tkb_47 c, decide_eq_true c, decide_eq_true ((wsz_47 hv hk (tkb_47 c)).mpr c)]; rfl
  · rw [decide_eq_false c]
    cases x : tkb g k with
    | false => rfl
    | true => rw [decide_eq_false (fun y => c ((wsz_47 hv hk x).mp y))]; rfl
theorem let_w {g : Nat → Int32} {n : Nat} (hv : ∀ k, k < n → isL (g k) = true ∨ g k = 32 ∨ g k = 47) : fb_sm (fun w => wsz g n (tp g n w)) (tkn g n) = fb_ct (fun j => isL (g j)) n := by
  have e := sm_nth (p := tkb g) (n := n) (wsz g n)
  unfold tp tkn
  rw [e, let_sum hv n (Nat.le_refl _), Nat.sub_self]
  have z : (if cont g n = true then run g 0 n else 0) = 0 := by split <;> rfl
  rw [z, Nat.add_zero]
end Sgm
section Sgw
variable {h : z_Hp} (F : Nat)
/-- what the reference reads of a song -/
def SgM (h : z_Hp) (s n : Nat) (g : Nat → Int32) : Prop := s < 10 ∧ n ≤ 60 ∧ hI h 53 s = nI n ∧ (∀ k, k < n → hI h 54 (60 * s + k) = g k) ∧ isSg g n
def Aw (a i : Nat) : Prop := (a = 46 ∧ i = 14) ∨ a = 55 ∨ a = 56
theorem Aw.ow {a i : Nat} (e : Aw a i) : a < 94 ∧ ow0 a i ∈ [102] := by
  rcases e with ⟨rfl, rfl⟩ | rfl | rfl
  · exact ⟨by decide, by decide⟩
  · exact ⟨by decide, List.mem_cons_self⟩
  · exact ⟨by decide, List.mem_cons_self⟩
theorem Aw.sc {a i : Nat} (e : Aw a i) : ¬ (50 ≤ ow0 a i ∧ ow0 a i < 100) := by
  have := e.ow.2
  rw [List.mem_singleton] at this
  omega
theorem SgM.ch {s n : Nat} {g : Nat → Int32} (S : SgM h s n g) {h' : z_Hp} {A : Nat → Nat → Prop} (c : ChI A h h') (hA : ∀ i, ¬ A 53 i ∧ ¬ A 54 i) : SgM h' s n g := ⟨S.1, S.2.1, (c.1 53 s (hA s).1).trans S.2.2.1, fun k hk => (c.1 54 _ (hA _).2).trans (S.2.2.2.1 k hk), S.2.2.2.2⟩
theorem m_isL (c : Int32) (g : z_Hp) : c_X10_isLetter F c g = some (if isL c = true then 1 else 0, g) := by
  rw [m_isLetter]
  unfold isL
  by_cases x : 97 ≤ c.toInt ∧ c.toInt ≤ 122
  · rw [if_pos x, decide_eq_true x, if_pos rfl]
  · rw [if_neg x, decide_eq_false x, if_neg (by decide)]
theorem e60 (s k : Nat) : (60 : Int32) * nI s + nI k = nI (60 * s + k) := by rw [show (60 : Int32) = nI 60 from rfl, nI_mul, nI_add]
theorem m_wL32 (I : Ifx h) (hF : 5000 ≤ F) {s n k : Nat} {g : Nat → Int32} (S : SgM h s n g) (hk : k < n) (x y : Int32) (K : Int32 → z_Hp → Option z_Hp) {P : z_Hp → Prop} (kk : Wp (K (nI (k + run g (n - k) k)) h) P) : Wp (c_X10_setWords_L32 F 46 (nI s) x y K F (nI k) h) P := by
  obtain ⟨s10, n60, e53, e54, _⟩ := S
  obtain ⟨r1, r2, r3⟩ := run_spec g (n - k) k
  refine Wp.loop (L := fun m (u : Int32) => c_X10_setWords_L32 F 46 (nI s) x y K m u h) (N := run g (n - k) k) (fun j u => u = nI (k + j)) (fun m j u hj hP ih => ?_) (fun m u hP => ?_) F (nI k) (by omega) rfl
  · subst hP
    have o53 : okA h 53 20 (nI s) = true := okA_n (fT53 I) (fN53 I) (by omega) (by decide)
    have o54 : okA h 54 20 (nI (60 * s + (k + j))) = true := okA_n (fT54 I) (fN54 I) (by omega) (by decide)
    rw [c_X10_setWords_L32, nI_1, e60, ix_n (show s < 2147483648 by omega), ix_n (show 60 * s + (k + j) < 2147483648 by omega)]
    refine Wp.ifT (fT46 I) (Wp.ltO (Wp.rf (fR46_12 I) (Wp.ifT o53 (Wp.ifF (by rw [e53]; exact nI_ge (by omega) (by omega)) (Wp.ifT (fT46 I) (Wp.ltO (Wp.rf (fR46_13 I) (Wp.ifT o54 (Wp.cIe (m_isL F _ _) ?_)))))))))
    rw [e54 (k + j) (by omega), r2 j hj]
    exact Wp.ifF one0 (Wp.ltI (ih _ rfl))
  · subst hP
    have o53 : okA h 53 20 (nI s) = true := okA_n (fT53 I) (fN53 I) (by omega) (by decide)
    rw [c_X10_setWords_L32]
    refine Wp.ifT (fT46 I) (Wp.ltO (Wp.rf (fR46_12 I) (Wp.ifT o53 ?_)))
    rw [ix_n (show s < 2147483648 by omega), e53]
    by_cases c : run g (n - k) k < n - k
    · have o54 : okA h 54 20 (nI (60 * s + (k + run g (n - k) k))) = true := okA_n (fT54 I) (fN54 I) (by omega) (by decide)
      rw [e60, ix_n (show 60 * s + (k + run g (n - k) k) < 2147483648 by omega)]
      refine Wp.ifF (nI_ge (by omega) (by omega)) (Wp.ifT (fT46 I) (Wp.ltO (Wp.rf (fR46_13 I) (Wp.ifT o54 (Wp.cIe (m_isL F _ _) ?_)))))
      rw [e54 _ (by omega), r3 c]
      exact Wp.ifT rfl kk
    · exact Wp.ifT (nI_le (by omega) (by omega)) kk
theorem w3_55 (v : z_Hp) (t : Nat) (X Y Z : Int32) (j : Nat) : hI (sI (sI (sI v 55 t X) 56 t Y) 46 14 Z) 55 j = if j = t then X else hI v 55 j := by
  rw [hI_sI, if_neg (by omega), hI_sI, if_neg (by omega), hI_sI]
  by_cases e : j = t
  · rw [if_pos ⟨rfl, e⟩, if_pos e]
  · rw [if_neg (fun y => e y.2), if_neg e]
theorem w3_56 (v : z_Hp) (t : Nat) (X Y Z : Int32) (j : Nat) : hI (sI (sI (sI v 55 t X) 56 t Y) 46 14 Z) 56 j = if j = t then Y else hI v 56 j := by
  rw [hI_sI, if_neg (by omega), hI_sI]
  by_cases e : j = t
  · rw [if_pos ⟨rfl, e⟩, if_pos e]
  · rw [if_neg (fun y => e y.2), if_neg e, hI_sI, if_neg (by omega)]
/-- the words and marks of a song, as the reference lays them -/
def Wd (h : z_Hp) (n : Nat) (g : Nat → Int32) : Prop := hI h 46 14 = nI (tkn g n) ∧ ∀ k, k < n → tkb g k = true → hI h 55 (tkn g k) = nI k ∧ hI h 56 (tkn g k) = nI (wsz g n k)
theorem m_words (I : Ifx h) (hF : 5000 ≤ F) {s n : Nat} {g : Nat → Int32} (S : SgM h s n g) : Wp (c_X10_setWords F 46 (nI s) h) (fun h' => ChI Aw h h' ∧ Wd h' n g) := by
  have n60 := S.2.1
  have s10 := S.1
  have hv := S.2.2.2.2.1
  unfold c_X10_setWords
  refine Wp.ifT (fT46 I) (Wp.ltH ?_)
  have c0 : ChI Aw h (sI h 46 14 0) := (ChI.refl _ _).set (Or.inl ⟨rfl, rfl⟩)
  refine Wp.dn (L := fun m (u : Int32 × z_Hp) => c_X10_setWords_L7 F 46 (nI s) m u.1 u.2) (fun d u => ∃ k, k ≤ n ∧ d = n - k ∧ u.1 = nI k ∧ ChI Aw h u.2 ∧ (k < n → cont g k = false) ∧ hI u.2 46 14 = nI (tkn g k) ∧ ∀ j, j < k → tkb g j = true → hI u.2 55 (tkn g j) = nI j ∧ hI u.2 56 (tkn g j) = nI (wsz g n j)) (fun m d u hP ih => ?_) F n (0, sI h 46 14 0) (by omega) ⟨0, by omega, rfl, rfl, c0, fun _ => rfl, by rw [hI_sI, if_pos ⟨rfl, rfl⟩]; rfl, fun j hj => by omega⟩
  obtain ⟨u1, v⟩ := u
  obtain ⟨k, hk, rfl, e1, e2, e3, e4, e5⟩ := hP
  dsimp only at e1 e2 e3 e4 e5 ⊢
  subst e1
  have Iv := e2.fx I
  have Sv := S.ch e2 (fun i => ⟨by unfold Aw; omega, by unfold Aw; omega⟩)
  have o53 : okA v 53 20 (nI s) = true := okA_n (fT53 Iv) (fN53 Iv) (by omega) (by decide)
  rw [c_X10_setWords_L7]
  refine Wp.ifT (fT46 Iv) (Wp.ltO (Wp.rf (fR46_12 Iv) (Wp.ifT o53 ?_)))
  rw [ix_n (show s < 2147483648 by omega), Sv.2.2.1]
  by_cases c : k < n
  · have o54 : okA v 54 20 (nI (60 * s + k)) = true := okA_n (fT54 Iv) (fN54 Iv) (by omega) (by decide)
    have hb := e3 c
    have tl := tkn_le g k
    rw [e60, ix_n (show 60 * s + k < 2147483648 by omega)]
    refine Wp.ifF (nI_ge c (by omega)) (Wp.ifT (fT46 Iv) (Wp.ltO (Wp.rf (fR46_13 Iv) (Wp.ifT o54 (Wp.ltI (m_wL32 F Iv hF Sv c _ _ _ ?_))))))
    rw [Sv.2.2.2.1 k c]
    have o55 : okA v 55 20 (nI (tkn g k)) = true := okA_n (fT55 Iv) (fN55 Iv) (by omega) (by decide)
    have o56 : okA v 56 20 (nI (tkn g k)) = true := okA_n (fT56 Iv) (fN56 Iv) (by omega) (by decide)
    obtain ⟨r1, r2, r3⟩ := run_spec g (n - k) k
    refine Wp.lj (fun j hj => Wp.lj (fun j2 hj2 => ?_))
    have nxt : ∀ v' k', k < k' → k' ≤ n → (k' < n → cont g k' = false) → k' = (k + run g (n - k) k) + (if run g (n - k) k = 0 then 1 else 0) → ChI Aw h v' → hI v' 46 14 = nI (tkn g k') → (∀ j, j < k' → tkb g j = true → hI v' 55 (tkn g j) = nI j ∧ hI v' 56 (tkn g j) = nI (wsz g n j)) → Wp (j v') (fun h' => ChI Aw h h' ∧ Wd h' n g) := fun v' k' l1 l2 b1 ek cv t1 t2 => by
      rw [hj]
      dsimp only [lt_]
      by_cases z : run g (n - k) k = 0
      · rw [if_pos z] at ek
        refine Wp.ifT (by rw [z]; rfl) ?_
        rw [show (1 : Int32) = nI 1 from rfl, nI_add]
        exact ih (n - k') (nI (k + run g (n - k) k + 1), v') (by omega) ⟨k', l2, rfl, by rw [ek], cv, b1, t1, t2⟩
      · rw [if_neg z] at ek
        refine Wp.ifF (fun y => z (by have := (nI_eq (by omega) (by omega)).mp y; omega)) ?_
        rw [show (0 : Int32) = nI 0 from rfl, nI_add]
        exact ih (n - k') (nI (k + run g (n - k) k + 0), v') (by omega) ⟨k', l2, rfl, by rw [ek], cv, b1, t1, t2⟩
    have rec_ : tkb g k = true → wsz g n k = run g (n - k) k → ∀ k', k < k' → k' ≤ n → (k' < n → cont g k' = false) → k' = (k + run g (n - k) k) + (if run g (n - k) k = 0 then 1 else 0) → tkn g k' = tkn g k + 1 → (∀ j, k < j → j < k' → tkb g j = false) → Wp (j2 v) (fun h' => ChI Aw h h' ∧ Wd h' n g) := fun tb ws k' l1 l2 b1 ek tk gap => by
      rw [hj2]
      dsimp only
      refine Wp.ifT (fT46 Iv) (Wp.ltO (Wp.ifT (fT46 Iv) ?_))
      rw [e4, ix_n (show tkn g k < 2147483648 by omega)]
      refine Wp.rf (fR46_15 Iv) (Wp.ifT o55 (Wp.ltH (Wp.ifT (fT46 Iv) (Wp.ltO (Wp.ifT (fT46 Iv) ?_)))))
      have w1 : hI (sI v 55 (tkn g k) (nI k)) 46 14 = nI (tkn g k) := by rw [hI_sI, if_neg (by omega)]; exact e4
      rw [w1, ix_n (show tkn g k < 2147483648 by omega)]
      refine Wp.rf (fR46_16 Iv) (Wp.ifT o56 (Wp.ltH (Wp.ifT (fT46 Iv) (Wp.ifT (fT46 Iv) (Wp.ltH ?_)))))
      have w2 : ∀ X, hI (sI (sI v 55 (tkn g k) (nI k)) 56 (tkn g k) X) 46 14 = nI (tkn g k) := fun X => by rw [hI_sI, if_neg (by omega)]; exact w1
      rw [w2, nI_1, nI_sub (by omega), show k + run g (n - k) k - k = wsz g n k by omega]
      refine nxt _ k' l1 l2 b1 ek (((e2.set (Or.inr (Or.inl rfl))).set (Or.inr (Or.inr rfl))).set (Or.inl ⟨rfl, rfl⟩)) (by rw [hI_sI, if_pos ⟨rfl, rfl⟩, tk]) (fun j hj tj => ?_)
      rw [w3_55, w3_56]
      by_cases x : j = k
      · subst x
        rw [if_pos rfl, if_pos rfl]; exact ⟨rfl, rfl⟩
      · have jk : j < k := by
          apply Classical.byContradiction
          intro y
          rw [gap j (by omega) hj] at tj; cases tj
        have nj : ¬ tkn g j = tkn g k := fun y => x (fb_ct_kth_one tj tb y)
        rw [if_neg nj, if_neg nj]
        exact e5 j jk tj
    rcases hv k c with L | L | L
    · have rp := run_pos (g := g) (d := n - k) (k := k) (by omega) L
      have tb : tkb g k = true := by rw [tkb_L L, hb]; rfl
      refine Wp.ifT (nI_lt (by omega) (by omega)) (rec_ tb (if_neg (ne47_L L)) (k + run g (n - k) k) (by omega) (by omega) (fun y => cont_n (r3 (by omega))) (by rw [if_neg (by omega)]; rfl) (tkn_run hb (by omega) _ (by omega) (Nat.le_refl _)) (fun j l1 l2 => ?_))
      obtain ⟨i, rfl⟩ : ∃ i, j = k + (i + 1) := ⟨j - k - 1, by omega⟩
      have Lk2 : isL (g (k + i + 1)) = true := r2 (i + 1) (by omega)
      rw [tkb_L (r2 (i + 1) (by omega)), ← Nat.add_assoc, cont_s, r2 i (by omega), Lk2]; rfl
    · have Lf : isL (g k) = false := by rw [L]; exact isL32
      have z : run g (n - k) k = 0 := run_zero Lf
      refine Wp.ifF (nI_nlt (by omega) (by omega)) (Wp.ifF (by rw [L]; decide) (nxt v (k + 1) (by omega) (by omega) (fun _ => by rw [cont_s, Lf, Bool.and_false]) (by rw [z, if_pos rfl]) e2 (by rw [tkn_s, tkb_32 L, e4]; rfl) (fun j hj tj => ?_)))
      by_cases x : j = k
      · subst x; rw [tkb_32 L] at tj; cases tj
      · exact e5 j (by omega) tj
    · have Lf : isL (g k) = false := by rw [L]; exact isL47
      have z : run g (n - k) k = 0 := run_zero Lf
      refine Wp.ifF (nI_nlt (by omega) (by omega)) (Wp.ifT (by rw [L]) (rec_ (tkb_47 L) (by rw [z]; exact if_pos L) (k + 1) (by omega) (by omega) (fun _ => by rw [cont_s, Lf, Bool.and_false]) (by rw [z, if_pos rfl]) (by rw [tkn_s, tkb_47 L]; rfl) (fun j l1 l2 => by omega)))
  · have : k = n := by omega
    subst this
    exact Wp.ifT (nI_le (Nat.le_refl _) (by omega)) (Wp.ret ⟨e2, e4, e5⟩)
end Sgw
