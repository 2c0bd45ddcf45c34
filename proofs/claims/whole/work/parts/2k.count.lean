section OpsF
variable {h : z_Hp} (F : Nat) (x1 x2 x3 x4 x5 : Int32)
/-- how many of N numbers aren't negative -/
def cnN (f : Nat → Int32) (N : Nat) : Nat := fb_ct (fun k => !(decide (f k < 0))) N
theorem cnN_s (f : Nat → Int32) (k : Nat) : cnN f (k + 1) = if f k < 0 then cnN f k else cnN f k + 1 := by
  unfold cnN
  rw [fb_ct_succ]
  by_cases c : f k < 0
  · simp [c]
  · simp [c]

theorem x_songsThere (I : Ifx h) (hF : 5000 ≤ F) (Q : ∀ r, r < 10 → (hI h 53 r = -9 ∧ hR h 8 r = none) ∨ ∃ n a, n ≤ 60 ∧ hI h 53 r = nI n ∧ hR h 8 r = some a) : c_X9_songsThere F 5 h = some (nI (cnN (hI h 53) 10), h) := by
  unfold c_X9_songsThere
  refine lpS (L := fun m (s : Int32 × Int32) => c_X9_songsThere_L4 F 5 m s.1 s.2 h) (fun k => (nI (cnN (hI h 53) k), nI k)) 10 (fun m k hk => ?_) (fun m => ?_) F (by omega)
  · show c_X9_songsThere_L4 F 5 (m + 1) (nI (cnN (hI h 53) k)) (nI k) h = c_X9_songsThere_L4 F 5 m (nI (cnN (hI h 53) (k + 1))) (nI (k + 1)) h
    have b1 : okA h 8 25 (nI k) = true := okA_n (fT8 I) (fN8 I) (by omega) (by decide)
    have K := cnN_s (hI h 53) k
    rw [c_X9_songsThere_L4]
    rw [if_neg (show ¬ (10 : Int32) ≤ nI k from nI_ge hk (by decide)), fT5 I, if_pos rfl, fR5_2 I]
    dsimp only [lt_, nn]
    rw [if_pos b1, ix_n (by omega)]
    rcases Q k hk with ⟨g1, g2⟩ | ⟨n, a, g0, g1, g2⟩
    · rw [g1, if_pos nlt9] at K
      simp only [g2, nl, K, nI_1]
    · rw [g1, if_neg (pnI (by omega))] at K
      simp only [g2, nl, K, nI_1]
  · show c_X9_songsThere_L4 F 5 (m + 1) _ (nI 10) h = _
    rw [c_X9_songsThere_L4]
    rw [if_pos (by decide)]

theorem x_textsThere (I : Ifx h) (hF : 5000 ≤ F) (Q : ∀ r, r < 4 → (hI h 51 r = -9 ∧ hR h 7 r = none) ∨ ∃ n a, n ≤ 60 ∧ hI h 51 r = nI n ∧ hR h 7 r = some a) : c_X9_textsThere F 5 h = some (nI (cnN (hI h 51) 4), h) := by
  unfold c_X9_textsThere
  refine lpS (L := fun m (s : Int32 × Int32) => c_X9_textsThere_L4 F 5 m s.1 s.2 h) (fun k => (nI (cnN (hI h 51) k), nI k)) 4 (fun m k hk => ?_) (fun m => ?_) F (by omega)
  · show c_X9_textsThere_L4 F 5 (m + 1) (nI (cnN (hI h 51) k)) (nI k) h = c_X9_textsThere_L4 F 5 m (nI (cnN (hI h 51) (k + 1))) (nI (k + 1)) h
    have b1 : okA h 7 24 (nI k) = true := okA_n (fT7 I) (fN7 I) (by omega) (by decide)
    have K := cnN_s (hI h 51) k
    rw [c_X9_textsThere_L4]
    rw [if_neg (show ¬ (4 : Int32) ≤ nI k from nI_ge hk (by decide)), fT5 I, if_pos rfl, fR5_1 I]
    dsimp only [lt_, nn]
    rw [if_pos b1, ix_n (by omega)]
    rcases Q k hk with ⟨g1, g2⟩ | ⟨n, a, g0, g1, g2⟩
    · rw [g1, if_pos nlt9] at K
      simp only [g2, nl, K, nI_1]
    · rw [g1, if_neg (pnI (by omega))] at K
      simp only [g2, nl, K, nI_1]
  · show c_X9_textsThere_L4 F 5 (m + 1) _ (nI 4) h = _
    rw [c_X9_textsThere_L4]
    rw [if_pos (by decide)]

theorem x_rowsThere6 (I : Ifx h) (hF : 5000 ≤ F) (Q : ∀ r, r < 6 → (hI h 48 r = -9 ∧ hR h 6 r = none) ∨ ∃ n a, n ≤ 60 ∧ hI h 48 r = nI n ∧ hR h 6 r = some a) : c_X9_rowsThere F (some 6) h = some (nI (cnN (hI h 48) 6), h) := by
  unfold c_X9_rowsThere
  refine lpS (L := fun m (s : Int32 × Int32) => c_X9_rowsThere_L4 F (some 6) m s.1 s.2 h) (fun k => (nI (cnN (hI h 48) k), nI k)) 6 (fun m k hk => ?_) (fun m => ?_) F (by omega)
  · show c_X9_rowsThere_L4 F (some 6) (m + 1) (nI (cnN (hI h 48) k)) (nI k) h = c_X9_rowsThere_L4 F (some 6) m (nI (cnN (hI h 48) (k + 1))) (nI (k + 1)) h
    have b1 : okA h 6 23 (nI k) = true := okA_n (fT6 I) (fN6 I) (by omega) (by decide)
    have K := cnN_s (hI h 48) k
    rw [c_X9_rowsThere_L4]
    have b2 : okL h 6 = true := okL_n (fT6 I) (by decide) (by decide)
    simp only [nn, b2, if_true, fN6 I, if_neg (nI_ge hk (show 6 < 2 ^ 31 by decide)), b1, ix_n (show k < 2147483648 by omega), lt_]
    rcases Q k hk with ⟨g1, g2⟩ | ⟨n, a, g0, g1, g2⟩
    · rw [g1, if_pos nlt9] at K
      simp only [g2, nl, K, nI_1]
    · rw [g1, if_neg (pnI (by omega))] at K
      simp only [g2, nl, K, nI_1]
  · show c_X9_rowsThere_L4 F (some 6) (m + 1) _ (nI 6) h = _
    rw [c_X9_rowsThere_L4]
    have b2 : okL h 6 = true := okL_n (fT6 I) (by decide) (by decide)
    simp only [nn, b2, if_true, fN6 I, if_pos (nI_le (Nat.le_refl 6) (show 6 < 2 ^ 31 by decide))]

theorem x_rowsThere9 (I : Ifx h) (hF : 5000 ≤ F) (Q : ∀ r, r < 6 → (hI h 57 r = -9 ∧ hR h 9 r = none) ∨ ∃ n a, n ≤ 60 ∧ hI h 57 r = nI n ∧ hR h 9 r = some a) : c_X9_rowsThere F (some 9) h = some (nI (cnN (hI h 57) 6), h) := by
  unfold c_X9_rowsThere
  refine lpS (L := fun m (s : Int32 × Int32) => c_X9_rowsThere_L4 F (some 9) m s.1 s.2 h) (fun k => (nI (cnN (hI h 57) k), nI k)) 6 (fun m k hk => ?_) (fun m => ?_) F (by omega)
  · show c_X9_rowsThere_L4 F (some 9) (m + 1) (nI (cnN (hI h 57) k)) (nI k) h = c_X9_rowsThere_L4 F (some 9) m (nI (cnN (hI h 57) (k + 1))) (nI (k + 1)) h
    have b1 : okA h 9 23 (nI k) = true := okA_n (fT9 I) (fN9 I) (by omega) (by decide)
    have K := cnN_s (hI h 57) k
    rw [c_X9_rowsThere_L4]
    have b2 : okL h 9 = true := okL_n (fT9 I) (by decide) (by decide)
    simp only [nn, b2, if_true, fN9 I, if_neg (nI_ge hk (show 6 < 2 ^ 31 by decide)), b1, ix_n (show k < 2147483648 by omega), lt_]
    rcases Q k hk with ⟨g1, g2⟩ | ⟨n, a, g0, g1, g2⟩
    · rw [g1, if_pos nlt9] at K
      simp only [g2, nl, K, nI_1]
    · rw [g1, if_neg (pnI (by omega))] at K
      simp only [g2, nl, K, nI_1]
  · show c_X9_rowsThere_L4 F (some 9) (m + 1) _ (nI 6) h = _
    rw [c_X9_rowsThere_L4]
    have b2 : okL h 9 = true := okL_n (fT9 I) (by decide) (by decide)
    simp only [nn, b2, if_true, fN9 I, if_pos (nI_le (Nat.le_refl 6) (show 6 < 2 ^ 31 by decide))]

theorem m_cL165 (I : Ifx h) (hF : 5000 ≤ F) : c_X10_counts_L165 F 46 F 0 0 h = some (nI (cnN (hI h 51) 4), h) := by
  refine lpS (L := fun m (s : Int32 × Int32) => c_X10_counts_L165 F 46 m s.1 s.2 h) (fun k => (nI (cnN (hI h 51) k), nI k)) 4 (fun m k hk => ?_) (fun m => ?_) F (by omega)
  · show c_X10_counts_L165 F 46 (m + 1) (nI (cnN (hI h 51) k)) (nI k) h = c_X10_counts_L165 F 46 m (nI (cnN (hI h 51) (k + 1))) (nI (k + 1)) h
    have b1 : okA h 51 20 (nI k) = true := okA_n (fT51 I) (fN51 I) (by omega) (by decide)
    have K := cnN_s (hI h 51) k
    rw [c_X10_counts_L165, if_neg (show ¬ (4 : Int32) ≤ nI k from nI_ge hk (by decide)), fT46 I, if_pos rfl, fR46_10 I]
    dsimp only [lt_, nn]
    rw [if_pos b1, ix_n (by omega)]
    by_cases c : hI h 51 k < 0
    · rw [if_pos c] at K
      rw [if_pos c, K, nI_1, show (0 : Int32) = nI 0 from rfl, nI_add]; rfl
    · rw [if_neg c] at K
      rw [if_neg c, K, nI_1, nI_1]
  · show c_X10_counts_L165 F 46 (m + 1) _ (nI 4) h = _
    rw [c_X10_counts_L165, if_pos (by decide)]

theorem m_cL51 (I : Ifx h) (hF : 5000 ≤ F) : c_X10_counts_L51 F 46 F 0 0 h = some (nI (cnN (hI h 53) 10), h) := by
  refine lpS (L := fun m (s : Int32 × Int32) => c_X10_counts_L51 F 46 m s.1 s.2 h) (fun k => (nI (cnN (hI h 53) k), nI k)) 10 (fun m k hk => ?_) (fun m => ?_) F (by omega)
  · show c_X10_counts_L51 F 46 (m + 1) (nI (cnN (hI h 53) k)) (nI k) h = c_X10_counts_L51 F 46 m (nI (cnN (hI h 53) (k + 1))) (nI (k + 1)) h
    have b1 : okA h 53 20 (nI k) = true := okA_n (fT53 I) (fN53 I) (by omega) (by decide)
    have K := cnN_s (hI h 53) k
    rw [c_X10_counts_L51, if_neg (show ¬ (10 : Int32) ≤ nI k from nI_ge hk (by decide)), fT46 I, if_pos rfl, fR46_12 I]
    dsimp only [lt_, nn]
    rw [if_pos b1, ix_n (by omega)]
    by_cases c : hI h 53 k < 0
    · rw [if_pos c] at K
      rw [if_pos c, K, nI_1, show (0 : Int32) = nI 0 from rfl, nI_add]; rfl
    · rw [if_neg c] at K
      rw [if_neg c, K, nI_1, nI_1]
  · show c_X10_counts_L51 F 46 (m + 1) _ (nI 10) h = _
    rw [c_X10_counts_L51, if_pos (by decide)]

theorem m_cL84 (I : Ifx h) (hF : 5000 ≤ F) : c_X10_counts_L84 F 46 F 0 0 h = some (nI (cnN (hI h 57) 6), h) := by
  refine lpS (L := fun m (s : Int32 × Int32) => c_X10_counts_L84 F 46 m s.1 s.2 h) (fun k => (nI (cnN (hI h 57) k), nI k)) 6 (fun m k hk => ?_) (fun m => ?_) F (by omega)
  · show c_X10_counts_L84 F 46 (m + 1) (nI (cnN (hI h 57) k)) (nI k) h = c_X10_counts_L84 F 46 m (nI (cnN (hI h 57) (k + 1))) (nI (k + 1)) h
    have b1 : okA h 57 20 (nI k) = true := okA_n (fT57 I) (fN57 I) (by omega) (by decide)
    have K := cnN_s (hI h 57) k
    rw [c_X10_counts_L84, if_neg (show ¬ (6 : Int32) ≤ nI k from nI_ge hk (by decide)), fT46 I, if_pos rfl, fR46_17 I]
    dsimp only [lt_, nn]
    rw [if_pos b1, ix_n (by omega)]
    by_cases c : hI h 57 k < 0
    · rw [if_pos c] at K
      rw [if_pos c, K, nI_1, show (0 : Int32) = nI 0 from rfl, nI_add]; rfl
    · rw [if_neg c] at K
      rw [if_neg c, K, nI_1, nI_1]
  · show c_X10_counts_L84 F 46 (m + 1) _ (nI 6) h = _
    rw [c_X10_counts_L84, if_pos (by decide)]

theorem m_cL132 (I : Ifx h) (hF : 5000 ≤ F) : c_X10_counts_L132 F 46 F 0 0 h = some (nI (cnN (hI h 48) 6), h) := by
  refine lpS (L := fun m (s : Int32 × Int32) => c_X10_counts_L132 F 46 m s.1 s.2 h) (fun k => (nI (cnN (hI h 48) k), nI k)) 6 (fun m k hk => ?_) (fun m => ?_) F (by omega)
  · show c_X10_counts_L132 F 46 (m + 1) (nI (cnN (hI h 48) k)) (nI k) h = c_X10_counts_L132 F 46 m (nI (cnN (hI h 48) (k + 1))) (nI (k + 1)) h
    have b1 : okA h 48 20 (nI k) = true := okA_n (fT48 I) (fN48 I) (by omega) (by decide)
    have K := cnN_s (hI h 48) k
    rw [c_X10_counts_L132, if_neg (show ¬ (6 : Int32) ≤ nI k from nI_ge hk (by decide)), fT46 I, if_pos rfl, fR46_7 I]
    dsimp only [lt_, nn]
    rw [if_pos b1, ix_n (by omega)]
    by_cases c : hI h 48 k < 0
    · rw [if_pos c] at K
      rw [if_pos c, K, nI_1, show (0 : Int32) = nI 0 from rfl, nI_add]; rfl
    · rw [if_neg c] at K
      rw [if_neg c, K, nI_1, nI_1]
  · show c_X10_counts_L132 F 46 (m + 1) _ (nI 6) h = _
    rw [c_X10_counts_L132, if_pos (by decide)]

/-- what count() tells -/
def cnt (h : z_Hp) (w : Nat) : Int32 := match w with
  | 0 => hI h 46 6
  | 1 => nI (cnN (hI h 53) 10)
  | 2 => nI (cnN (hI h 57) 6)
  | 3 => hI h 46 26
  | 4 => hI h 46 19
  | 5 => hI h 46 49
  | 6 => nI (cnN (hI h 48) 6)
  | _ => nI (cnN (hI h 51) 4)
theorem x_cnt {ow : Ow} (J : InvO ow h) (hF : 5000 ≤ F) {w : Nat} (hw : w ≤ 7) : c_X9_count F 5 (nI w) h = some (cnt h w, h) := by
  have I := J.2.1
  obtain ⟨t, -, t1, t2⟩ := J.tod
  obtain ⟨q, -, q1, q2, -⟩ := J.she
  obtain ⟨r, -, r1, r2, -⟩ := J.rul
  obtain ⟨u, -, u1, u2, -⟩ := J.reg
  have A : ∀ r, r < 6 → (hI h 48 r = -9 ∧ hR h 6 r = none) ∨ ∃ n a, n ≤ 60 ∧ hI h 48 r = nI n ∧ hR h 6 r = some a := fun r hr => by
    rcases J.row.1 r hr with g | ⟨n, a, g1, g2, g3, -⟩
    · exact Or.inl g
    · exact Or.inr ⟨n, a, by omega, g2, g3⟩
  have B : ∀ r, r < 6 → (hI h 57 r = -9 ∧ hR h 9 r = none) ∨ ∃ n a, n ≤ 60 ∧ hI h 57 r = nI n ∧ hR h 9 r = some a := fun r hr => by
    rcases (J.tun r hr).1 with g | ⟨n, a, g1, g2, g3, -⟩
    · exact Or.inl g
    · exact Or.inr ⟨n, a, by omega, g2, g3⟩
  have C : ∀ r, r < 4 → (hI h 51 r = -9 ∧ hR h 7 r = none) ∨ ∃ n a, n ≤ 60 ∧ hI h 51 r = nI n ∧ hR h 7 r = some a := fun r hr => by
    rcases J.txt.1 r hr with g | ⟨n, a, g1, g2, g3, -⟩
    · exact Or.inl g
    · exact Or.inr ⟨n, a, by omega, g2, g3⟩
  have D : ∀ r, r < 10 → (hI h 53 r = -9 ∧ hR h 8 r = none) ∨ ∃ n a, n ≤ 60 ∧ hI h 53 r = nI n ∧ hR h 8 r = some a := fun r hr => by
    rcases J.sng r hr with g | ⟨n, a, g1, g2, g3, -⟩
    · exact Or.inl g
    · exact Or.inr ⟨n, a, by omega, g2, g3⟩
  unfold c_X9_count
  rcases (show w = 0 ∨ w = 1 ∨ w = 2 ∨ w = 3 ∨ w = 4 ∨ w = 5 ∨ w = 6 ∨ w = 7 by omega) with rfl | rfl | rfl | rfl | rfl | rfl | rfl | rfl
  · rw [if_neg (by decide), if_pos (by decide), fT5 I, if_pos rfl, t1, show cnt h 0 = hI h 46 6 from rfl, t2]
  · rw [if_neg (by decide), if_neg (by decide), if_pos (by decide), fT5 I, if_pos rfl, x_songsThere F I hF D, bI_some, show cnt h 1 = nI (cnN (hI h 53) 10) from rfl]
  · rw [if_neg (by decide), if_neg (by decide), if_neg (by decide), if_pos (by decide), fT5 I, if_pos rfl, fR5_3 I, lt_, x_rowsThere9 F I hF B, bI_some, show cnt h 2 = nI (cnN (hI h 57) 6) from rfl]
  · rw [if_neg (by decide), if_neg (by decide), if_neg (by decide), if_neg (by decide), if_pos (by decide), fT5 I, if_pos rfl, fR5_6 I, lt_, nn, fT14 I, if_pos rfl, q1, show cnt h 3 = hI h 46 26 from rfl, q2]
  · rw [if_neg (by decide), if_neg (by decide), if_neg (by decide), if_neg (by decide), if_neg (by decide), if_pos (by decide), fT5 I, if_pos rfl, fR5_5 I, lt_, nn, fT10 I, if_pos rfl, r1, show cnt h 4 = hI h 46 19 from rfl, r2]
  · rw [if_neg (by decide), if_neg (by decide), if_neg (by decide), if_neg (by decide), if_neg (by decide), if_neg (by decide), if_pos (by decide), fT5 I, if_pos rfl, fR5_10 I, lt_, nn, fT34 I, if_pos rfl, u1, show cnt h 5 = hI h 46 49 from rfl, u2]
  · rw [if_neg (by decide), if_neg (by decide), if_neg (by decide), if_neg (by decide), if_neg (by decide), if_neg (by decide), if_neg (by decide), if_pos (by decide), fT5 I, if_pos rfl, fR5_0 I, lt_, x_rowsThere6 F I hF A, bI_some, show cnt h 6 = nI (cnN (hI h 48) 6) from rfl]
  · rw [if_neg (by decide), if_neg (by decide), if_neg (by decide), if_neg (by decide), if_neg (by decide), if_neg (by decide), if_neg (by decide), if_neg (by decide), if_pos (by decide), fT5 I, if_pos rfl, x_textsThere F I hF C, bI_some, show cnt h 7 = nI (cnN (hI h 51) 4) from rfl]
theorem m_cnt (I : Ifx h) (hF : 5000 ≤ F) {w : Nat} (hw : w ≤ 7) : c_X10_counts F 46 (nI w) h = some (cnt h w, h) := by
  unfold c_X10_counts
  rcases (show w = 0 ∨ w = 1 ∨ w = 2 ∨ w = 3 ∨ w = 4 ∨ w = 5 ∨ w = 6 ∨ w = 7 by omega) with rfl | rfl | rfl | rfl | rfl | rfl | rfl | rfl
  · rw [if_neg (by decide), if_pos (by decide), fT46 I, if_pos rfl]; rfl
  · rw [if_neg (by decide), if_neg (by decide), if_pos (by decide), m_cL51 F I hF]; rfl
  · rw [if_neg (by decide), if_neg (by decide), if_neg (by decide), if_pos (by decide), m_cL84 F I hF]; rfl
  · rw [if_neg (by decide), if_neg (by decide), if_neg (by decide), if_neg (by decide), if_pos (by decide), fT46 I, if_pos rfl]; rfl
  · rw [if_neg (by decide), if_neg (by decide), if_neg (by decide), if_neg (by decide), if_neg (by decide), if_pos (by decide), fT46 I, if_pos rfl]; rfl
  · rw [if_neg (by decide), if_neg (by decide), if_neg (by decide), if_neg (by decide), if_neg (by decide), if_neg (by decide), if_pos (by decide), fT46 I, if_pos rfl]; rfl
  · rw [if_neg (by decide), if_neg (by decide), if_neg (by decide), if_neg (by decide), if_neg (by decide), if_neg (by decide), if_neg (by decide), if_pos (by decide), m_cL132 F I hF]; rfl
  · rw [if_pos (by decide), m_cL165 F I hF]; rfl
theorem op_count (hF : 5000 ≤ F) (J : Inv h) : OkI h (c_X9_count F 5 x1 h) (c_X10_count F 46 x1) := by
  obtain ⟨ow, J⟩ := J
  have I := J.2.1
  unfold c_X10_count
  by_cases c : 0 ≤ x1.toInt ∧ x1.toInt ≤ 7
  · obtain ⟨w, hw, rfl⟩ := rng (x := x1) (n := 7) c
    refine OkI.same (cnt h w) ⟨ow, J⟩ (x_cnt F J hF hw) ?_
    rw [m_in, bI_some, ti_0, ti_7, if_pos c, ite10, fT46 I, if_pos rfl, m_cnt F I hF hw, bI_some]
  · refine OkI.same (-1) ⟨ow, J⟩ ?_ ?_
    · rw [c_X9_count, if_pos (by omega)]
    · rw [m_in, bI_some, ti_0, ti_7, if_neg c, ite00]
end OpsF
