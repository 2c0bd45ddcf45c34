section OpsR
variable {h : z_Hp} (F : Nat) (x1 x2 x3 x4 x5 : Int32)
variable {ow : Ow} {d : Nat}
/-- printing i is of the song, by day d, where j is then -/
def c33 (M : Nat → Nat → Int32) (sg : Int32) (d i j : Nat) : Bool := decide (M 91 i = sg) && (decide (ix (M 93 i) ≤ d) && decide (plc M j d = M 92 i))
def s1_ (M : Nat → Nat → Int32) (sg : Int32) (d z : Nat) : Nat → Nat
  | 0 => z
  | i + 1 => orf (c33 M sg d i) (fun j => j) (s1_ M sg d z i) 4
theorem s1_lt (M : Nat → Nat → Int32) (sg : Int32) (d : Nat) {z : Nat} (hz : z < 1048576) : ∀ i, s1_ M sg d z i < 1048576
  | 0 => hz
  | i + 1 => orf_lt (s1_lt M sg d hz i) 4 (fun k hk _ => by show k < 20; omega)
theorem s1_tb (M : Nat → Nat → Int32) (sg : Int32) (d z : Nat) : ∀ n j, (s1_ M sg d z n).testBit j = true ↔ z.testBit j = true ∨ (j < 4 ∧ ∃ i, i < n ∧ M 91 i = sg ∧ ix (M 93 i) ≤ d ∧ plc M j d = M 92 i)
  | 0, j => by
    constructor
    · intro g; exact Or.inl g
    · rintro (g | ⟨_, i, hi, _⟩)
      · exact g
      · omega
  | n + 1, j => by
    have ih := s1_tb M sg d z n j
    show (orf (c33 M sg d n) (fun j => j) (s1_ M sg d z n) 4).testBit j = true ↔ _
    rw [orf_tb, ih]
    constructor
    · rintro ((g | ⟨g0, i, hi, g⟩) | ⟨k, hk, g1, g2⟩)
      · exact Or.inl g
      · exact Or.inr ⟨g0, i, by omega, g⟩
      · subst g2
        unfold c33 at g1
        rw [Bool.and_eq_true, Bool.and_eq_true, decide_eq_true_iff, decide_eq_true_iff, decide_eq_true_iff] at g1
        exact Or.inr ⟨hk, n, by omega, g1.1, g1.2.1, g1.2.2⟩
    · rintro (g | ⟨g0, i, hi, g1, g2, g3⟩)
      · exact Or.inl (Or.inl g)
      · by_cases e : i = n
        · subst e
          exact Or.inr ⟨j, g0, by unfold c33; rw [decide_eq_true g1, decide_eq_true g2, decide_eq_true g3]; rfl, rfl⟩
        · exact Or.inl (Or.inr ⟨g0, i, by omega, g1, g2, g3⟩)
theorem m_wc33 (I : Ifx h) (W : Rwlk ow h) (hF : 5000 ≤ F) (hd : d < 100) (sg y1 y2 : Int32) {i q : Nat} (hi : i < q) (hq : q ≤ 30) (h3 : ∀ k, k < q → (∃ v, v < 10 ∧ hI h 92 k = nI v) ∧ ∃ v, v < 100 ∧ hI h 93 k = nI v) (K : Int32 → z_Hp → Option (Int32 × z_Hp)) (z : Nat) : c_X10_whoCan_L33 F 46 sg y1 y2 (nI d) (nI i) K F (nI z) 0 h = K (nI (orf (c33 (mm h) sg d i) (fun j => j) z 4)) h := by
  obtain ⟨⟨v, hv, ev⟩, w, hw, ew⟩ := h3 i hi
  have b1 : okA h 91 20 (nI i) = true := okA_n (fT91 I) (fN91 I) (by omega) (by decide)
  have b2 : okA h 92 20 (nI i) = true := okA_n (fT92 I) (fN92 I) (by omega) (by decide)
  have b3 : okA h 93 20 (nI i) = true := okA_n (fT93 I) (fN93 I) (by omega) (by decide)
  refine lpS (L := fun m (u : Int32 × Int32) => c_X10_whoCan_L33 F 46 sg y1 y2 (nI d) (nI i) K m u.1 u.2 h) (fun k => (nI (orf (c33 (mm h) sg d i) (fun j => j) z k), nI k)) 4 (fun m k hk => ?_) (fun m => ?_) F (by omega)
  · show c_X10_whoCan_L33 F 46 sg y1 y2 (nI d) (nI i) K (m + 1) (nI (orf (c33 (mm h) sg d i) (fun j => j) z k)) (nI k) h = c_X10_whoCan_L33 F 46 sg y1 y2 (nI d) (nI i) K m (nI (orf (c33 (mm h) sg d i) (fun j => j) z (k + 1))) (nI (k + 1)) h
    have nz : nI (orf (c33 (mm h) sg d i) (fun j => j) z k) ||| 0 = nI (orf (c33 (mm h) sg d i) (fun j => j) z k) := by rw [show (0 : Int32) = nI 0 from rfl, fa_or, Nat.or_zero]
    rw [c_X10_whoCan_L33, if_neg (show ¬ (4 : Int32) ≤ nI k from nI_ge (b := 4) hk (by decide)), fT46 I, if_pos rfl, fR46_56 I]
    dsimp only [lt_, nn]
    rw [if_pos b1, ix_n (by omega), nI_1, nz]
    by_cases c : hI h 91 i = sg
    · rw [if_pos c, fR46_58 I, if_pos rfl]
      dsimp only [nn]
      rw [if_pos b3, ew]
      by_cases c2 : w ≤ d
      · rw [if_neg (nI_nlt c2 (by omega)), if_pos rfl, m_placeOf F I W hk hd, bI_some, if_pos (fT46 I), fR46_57 I]
        dsimp only [nn]
        rw [if_pos b2]
        by_cases c3 : plc (mm h) k d = hI h 92 i
        · rw [if_pos c3, shl_1 _ (by omega), fa_or, orf_y (show c33 (mm h) sg d i k = true by unfold c33; rw [(mm_sl h).2.2.1, (mm_sl h).2.2.2.1, (mm_sl h).2.2.2.2.1, ew, ix_n (by omega), decide_eq_true c, decide_eq_true c2, decide_eq_true c3]; rfl)]
        · rw [if_neg c3, orf_n (show c33 (mm h) sg d i k = false by unfold c33; rw [(mm_sl h).2.2.2.1, decide_eq_false c3, Bool.and_false, Bool.and_false])]
      · rw [if_pos (nI_lt (by omega) (by omega)), orf_n (show c33 (mm h) sg d i k = false by unfold c33; rw [(mm_sl h).2.2.2.2.1, ew, ix_n (by omega), decide_eq_false c2, Bool.false_and, Bool.and_false])]
    · rw [if_neg c, orf_n (show c33 (mm h) sg d i k = false by unfold c33; rw [(mm_sl h).2.2.1, decide_eq_false c, Bool.false_and])]
  · show c_X10_whoCan_L33 F 46 sg y1 y2 (nI d) (nI i) K (m + 1) _ (nI 4) h = _
    rw [c_X10_whoCan_L33, if_pos (by decide)]
theorem m_wc21 (I : Ifx h) (W : Rwlk ow h) (hF : 5000 ≤ F) (hd : d < 100) (sg y1 y2 : Int32) {q : Nat} (hq : q ≤ 30) (h2 : hI h 46 55 = nI q) (h3 : ∀ k, k < q → (∃ v, v < 10 ∧ hI h 92 k = nI v) ∧ ∃ v, v < 100 ∧ hI h 93 k = nI v) (K : Int32 → z_Hp → Option (Int32 × z_Hp)) (z : Nat) : c_X10_whoCan_L21 F 46 sg y1 y2 (nI d) K F (nI z) 0 h = K (nI (s1_ (mm h) sg d z q)) h := by
  refine lpS (L := fun m (u : Int32 × Int32) => c_X10_whoCan_L21 F 46 sg y1 y2 (nI d) K m u.1 u.2 h) (fun k => (nI (s1_ (mm h) sg d z k), nI k)) q (fun m k hk => ?_) (fun m => ?_) F (by omega)
  · show c_X10_whoCan_L21 F 46 sg y1 y2 (nI d) K (m + 1) (nI (s1_ (mm h) sg d z k)) (nI k) h = c_X10_whoCan_L21 F 46 sg y1 y2 (nI d) K m (nI (s1_ (mm h) sg d z (k + 1))) (nI (k + 1)) h
    rw [c_X10_whoCan_L21, fT46 I, if_pos rfl, h2, if_neg (nI_ge hk (by omega)), m_wc33 F I W hF hd sg y1 y2 hk hq h3, nI_1]; rfl
  · show c_X10_whoCan_L21 F 46 sg y1 y2 (nI d) K (m + 1) _ (nI q) h = _
    rw [c_X10_whoCan_L21, fT46 I, if_pos rfl, h2, if_pos (nI_le (Nat.le_refl q) (by omega))]
def pwm (M : Nat → Nat → Int32) (d S : Nat) (n : Nat) : Nat := orf (fun j => S.testBit j) (fun j => pp M j d) 0 n
theorem m_wc113 (J : InvO ow h) (hF : 5000 ≤ F) (hd : d < 100) (sg y1 y2 : Int32) {S : Nat} (hS : S < 1048576) (hw : ∀ j, S.testBit j = true → j < 4 ∧ wk (mm h) j = true) (K : z_Hp → Option (Int32 × z_Hp)) : c_X10_whoCan_L113 F 46 sg y1 y2 (nI S) (nI d) K F 0 (sI h 46 59 0) = K (sI h 46 59 (nI (pwm (mm h) d S 4))) := by
  refine lpS (L := fun m (u : Int32 × z_Hp) => c_X10_whoCan_L113 F 46 sg y1 y2 (nI S) (nI d) K m u.1 u.2) (fun k => (nI k, sI h 46 59 (nI (pwm (mm h) d S k)))) 4 (fun m k hk => ?_) (fun m => ?_) F (by omega)
  · show c_X10_whoCan_L113 F 46 sg y1 y2 (nI S) (nI d) K (m + 1) (nI k) (sI h 46 59 (nI (pwm (mm h) d S k))) = c_X10_whoCan_L113 F 46 sg y1 y2 (nI S) (nI d) K m (nI (k + 1)) (sI h 46 59 (nI (pwm (mm h) d S (k + 1))))
    generalize hg : sI h 46 59 (nI (pwm (mm h) d S k)) = g
    have sg1 : St SC ow h g := by rw [← hg]; exact (St.r J.2.1).wI J.1 109 (by decide) rfl (by decide)
    have Jg : InvO ow g := J.sc sg1
    have Ig := Jg.2.1
    have mg : mm g = mm h := mm_st J.2.1 J.1 sg1 (by decide)
    have f59 : hI g 46 59 = nI (pwm (mm h) d S k) := by rw [← hg, hI_sI, if_pos ⟨rfl, rfl⟩]
    have co : ∀ x, sI g 46 59 x = sI h 46 59 x := fun x => by rw [← hg]; exact sI_sI _ _ _ _ _
    rw [c_X10_whoCan_L113, if_neg (show ¬ (4 : Int32) ≤ nI k from nI_ge (b := 4) hk (by decide)), fT46 Ig, if_pos rfl, m_has F (by omega) (by omega), bI_some]
    dsimp only [lt_]
    rw [f59]
    by_cases c : S.testBit k = true
    · rw [if_pos c, ite10, if_pos (fT46 Ig), m_placeOf F Ig Jg.wlk hk hd, bI_some, if_pos (fT46 Ig), mg]
      rcases pp_rng (h := h) J.wlk hk d with ⟨w1, w2⟩ | ⟨w1, w2, w3⟩
      · rw [(hw k c).2] at w1; exact absurd w1 (by decide)
      · rw [w3, shl_1 _ (by omega), fa_or, nI_1, co]
        show _ = c_X10_whoCan_L113 F 46 sg y1 y2 (nI S) (nI d) K m (nI (k + 1)) (sI h 46 59 (nI (orf (fun j => S.testBit j) (fun j => pp (mm h) j d) 0 (k + 1))))
        rw [orf_y c]; rfl
    · have cf : S.testBit k = false := by cases e : S.testBit k with | true => exact absurd e c | false => rfl
      rw [if_neg c, ite00, if_pos (fT46 Ig), show (0 : Int32) = nI 0 from rfl, fa_or, Nat.or_zero, nI_1, co]
      show _ = c_X10_whoCan_L113 F 46 sg y1 y2 (nI S) (nI d) K m (nI (k + 1)) (sI h 46 59 (nI (orf (fun j => S.testBit j) (fun j => pp (mm h) j d) 0 (k + 1))))
      rw [orf_n cf]; rfl
  · show c_X10_whoCan_L113 F 46 sg y1 y2 (nI S) (nI d) K (m + 1) (nI 4) _ = _
    rw [c_X10_whoCan_L113, if_pos (by decide)]
theorem m_wc161 (I : Ifx h) (W : Rwlk ow h) (hF : 5000 ≤ F) (hd : d < 100) (sg y1 y2 : Int32) {P : Nat} (hP : P < 1048576) (h59 : hI h 46 59 = nI P) (K : Int32 → z_Hp → Option (Int32 × z_Hp)) (z : Nat) : c_X10_whoCan_L161 F 46 sg y1 y2 (nI d) K F (nI z) 0 h = K (nI (orf (sac (mm h) d P) (fun j => j) z 4)) h := by
  refine lpS (L := fun m (u : Int32 × Int32) => c_X10_whoCan_L161 F 46 sg y1 y2 (nI d) K m u.1 u.2 h) (fun k => (nI (orf (sac (mm h) d P) (fun j => j) z k), nI k)) 4 (fun m k hk => ?_) (fun m => ?_) F (by omega)
  · show c_X10_whoCan_L161 F 46 sg y1 y2 (nI d) K (m + 1) (nI (orf (sac (mm h) d P) (fun j => j) z k)) (nI k) h = c_X10_whoCan_L161 F 46 sg y1 y2 (nI d) K m (nI (orf (sac (mm h) d P) (fun j => j) z (k + 1))) (nI (k + 1)) h
    have nz : nI (orf (sac (mm h) d P) (fun j => j) z k) ||| 0 = nI (orf (sac (mm h) d P) (fun j => j) z k) := by rw [show (0 : Int32) = nI 0 from rfl, fa_or, Nat.or_zero]
    have b1 : okA h 89 20 (nI k) = true := okA_n (fT89 I) (fN89 I) (by omega) (by decide)
    rw [c_X10_whoCan_L161, if_neg (show ¬ (4 : Int32) ≤ nI k from nI_ge (b := 4) hk (by decide)), fT46 I, if_pos rfl, fR46_53 I]
    dsimp only [lt_, nn]
    rw [if_pos b1, ix_n (by omega), nI_1, nz]
    rcases pp_rng W hk d with ⟨w1, w2⟩ | ⟨w1, w2, w3⟩
    · have c : hI h 89 k < 0 := Classical.byContradiction (fun e => by rw [wk_y k e] at w1; exact absurd w1 (by decide))
      rw [if_pos c, orf_n (by unfold sac; rw [w1]; rfl)]
    · have c : ¬ hI h 89 k < 0 := fun e => by rw [wk_n k e] at w1; exact absurd w1 (by decide)
      rw [if_neg c, if_pos rfl, if_pos rfl, m_placeOf F I W hk hd, bI_some, h59, w3, m_has F (by omega) (by omega), bI_some]
      by_cases c2 : P.testBit (pp (mm h) k d) = true
      · rw [if_pos c2, ite10, shl_1 _ (by omega), fa_or, orf_y (by unfold sac; rw [w1, c2]; rfl)]
      · have cf : P.testBit (pp (mm h) k d) = false := by cases e : P.testBit (pp (mm h) k d) with | true => exact absurd e c2 | false => rfl
        rw [if_neg c2, ite00, orf_n (by unfold sac; rw [w1, cf]; rfl)]
  · show c_X10_whoCan_L161 F 46 sg y1 y2 (nI d) K (m + 1) _ (nI 4) h = _
    rw [c_X10_whoCan_L161, if_pos (by decide)]
/-! the two ways to the same sets -/
theorem s1_iff (W : Rwlk ow h) (hd : d < 100) (sg : Int32) {q : Nat} (z j : Nat) (hz : z.testBit j = true → j < 4 ∧ wk (mm h) j = true) (h3 : ∀ k, k < q → (∃ v, v < 10 ∧ hI h 92 k = nI v) ∧ ∃ v, v < 100 ∧ hI h 93 k = nI v) : (s1_ (mm h) sg d z q).testBit j = true ↔ j < 4 ∧ wk (mm h) j = true ∧ (z.testBit j = true ∨ pfv (mm h) sg q (pp (mm h) j d) ≤ d) := by
  rw [s1_tb]
  constructor
  · rintro (g | ⟨g0, i, hi, g1, g2, g3⟩)
    · exact ⟨(hz g).1, (hz g).2, Or.inl g⟩
    · obtain ⟨⟨v, hv, ev⟩, -⟩ := h3 i hi
      rcases pp_rng W g0 d with ⟨w1, w2⟩ | ⟨w1, w2, w3⟩
      · rw [w2, (mm_sl h).2.2.2.1, ev] at g3; exact absurd g3.symm (enc9 (by omega))
      · exact ⟨g0, w1, Or.inr ((pfv_iff _ _ hd _ _).mpr ⟨i, hi, g1, by rw [← g3]; exact w3, g2⟩)⟩
  · rintro ⟨g0, g1, g | g⟩
    · exact Or.inl g
    · obtain ⟨i, hi, a1, a2, a3⟩ := (pfv_iff _ _ hd _ _).mp g
      rcases pp_rng W g0 d with ⟨w1, w2⟩ | ⟨w1, w2, w3⟩
      · rw [g1] at w1; exact absurd w1 (by decide)
      · exact Or.inr ⟨g0, i, hi, a1, a3, by rw [a2]; exact w3⟩
theorem bool_ext {a b : Bool} (e : a = true ↔ b = true) : a = b := by
  cases a <;> cases b <;> simp at e <;> rfl
section Two
variable (W : Rwlk ow h) (hd : d < 100) (sg : Int32) {q : Nat} (h3 : ∀ k, k < q → (∃ v, v < 10 ∧ hI h 92 k = nI v) ∧ ∃ v, v < 100 ∧ hI h 93 k = nI v)
theorem pw_two (W : Rwlk ow h) (hd : d < 100) (sg : Int32) {q : Nat} (h3 : ∀ k, k < q → (∃ v, v < 10 ∧ hI h 92 k = nI v) ∧ ∃ v, v < 100 ∧ hI h 93 k = nI v) : pwm (mm h) d (s1_ (mm h) sg d (hv (mm h) (pfv (mm h) sg q) d) q) 4 = pw (mm h) (pfv (mm h) sg q) d (hv (mm h) (pfv (mm h) sg q) d) := by
  apply Nat.eq_of_testBit_eq
  intro p
  apply bool_ext
  rw [pw_tb]
  unfold pwm
  rw [orf_tb]
  constructor
  · rintro (g | ⟨k, hk, g1, g2⟩)
    · rw [Nat.zero_testBit] at g; exact absurd g (by decide)
    · obtain ⟨a1, a2, a3⟩ := (s1_iff W hd sg _ k (hv_wk _ _ d k) h3).mp g1
      exact ⟨k, a1, a2, a3, g2⟩
  · rintro ⟨j, g1, g2, g3, g4⟩
    exact Or.inr ⟨j, g1, (s1_iff W hd sg _ j (hv_wk _ _ d j) h3).mpr ⟨g1, g2, g3⟩, g4⟩
theorem hv_two (W : Rwlk ow h) (hd : d < 100) (sg : Int32) {q : Nat} (h3 : ∀ k, k < q → (∃ v, v < 10 ∧ hI h 92 k = nI v) ∧ ∃ v, v < 100 ∧ hI h 93 k = nI v) : orf (sac (mm h) d (pw (mm h) (pfv (mm h) sg q) d (hv (mm h) (pfv (mm h) sg q) d))) (fun j => j) (s1_ (mm h) sg d (hv (mm h) (pfv (mm h) sg q) d) q) 4 = hv (mm h) (pfv (mm h) sg q) (d + 1) := by
  apply Nat.eq_of_testBit_eq
  intro j
  apply bool_ext
  rw [show hv (mm h) (pfv (mm h) sg q) (d + 1) = hv (mm h) (pfv (mm h) sg q) d ||| sat (mm h) d (pw (mm h) (pfv (mm h) sg q) d (hv (mm h) (pfv (mm h) sg q) d)) from rfl, Nat.testBit_or, Bool.or_eq_true, sat_tb, orf_tb, s1_iff W hd sg _ j (hv_wk _ _ d j) h3]
  constructor
  · rintro (⟨a1, a2, a3⟩ | ⟨k, hk, g1, g2⟩)
    · exact Or.inr ⟨a1, a2, (pw_tb _ _ _ _ _).mpr ⟨j, a1, a2, a3, rfl⟩⟩
    · subst g2
      unfold sac at g1
      rw [Bool.and_eq_true] at g1
      exact Or.inr ⟨hk, g1.1, g1.2⟩
  · rintro (g | ⟨a1, a2, a3⟩)
    · exact Or.inl ⟨(hv_wk _ _ d j g).1, (hv_wk _ _ d j g).2, Or.inl g⟩
    · exact Or.inr ⟨j, a1, by unfold sac; rw [a2, a3]; rfl, rfl⟩
end Two
end OpsR
