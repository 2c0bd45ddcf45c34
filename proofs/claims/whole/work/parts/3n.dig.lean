section Dig
variable {h : z_Hp} (F : Nat) (x1 x2 x3 x4 x5 : Int32)
def mx (y : Int64) (v : Int32) : Int64 := 31 * y + v.toInt64
def mr (f : Nat → Int32) (y : Int64) (n : Nat) : Int64 := itr (fun k y => mx y (f k)) y n
def mrow (sz : Int32) (f : Nat → Int32) (y : Int64) : Int64 := if sz < 0 then mx y (-1) else mr f (mx y sz) (ix sz)
theorem mr_cong {f g : Nat → Int32} {n : Nat} (e : ∀ k, k < n → f k = g k) (y : Int64) : mr f y n = mr g y n := itr_cong (fun k t hk => by rw [e k hk])
theorem x_mix (y : Int64) (v : Int32) : c_X9_mix F y v h = some (mx y v, h) := rfl
theorem sJ_sJ (h : z_Hp) (a i : Nat) (x y : Int64) : sJ (sJ h a i x) a i y = sJ h a i y := by
  unfold sJ
  congr 1
  congr 1
  funext b j
  by_cases e : b = a ∧ j = i
  · rw [if_pos e, if_pos e]
  · rw [if_neg e, if_neg e]; show (if b = a ∧ j = i then x else h.2.1 b j) = _; rw [if_neg e]
/-- the reference's heap with y told so far -/
def dh (h : z_Hp) (y : Int64) : z_Hp := sJ h 46 61 y
theorem dh_T (y : Int64) (a : Nat) : hT (dh h y) a = hT h a := Eq.trans rfl rfl
theorem dh_R (y : Int64) (a i : Nat) : hR (dh h y) a i = hR h a i := Eq.trans rfl rfl
theorem dh_I (y : Int64) (a i : Nat) : hI (dh h y) a i = hI h a i := Eq.trans rfl rfl
theorem dh_A (y : Int64) (a t : Nat) (k : Int32) : okA (dh h y) a t k = okA h a t k := Eq.trans rfl rfl
theorem dh_J (y : Int64) : hJ (dh h y) 46 61 = y := by unfold dh; rw [hJ_sJ, if_pos ⟨rfl, rfl⟩]
theorem dh_dh (y z : Int64) : sJ (dh h y) 46 61 z = dh h z := sJ_sJ h 46 61 y z
theorem dh_fx (I : Ifx h) (y : Int64) : Ifx (dh h y) := I.gJ
theorem m_mix (I : Ifx h) (y : Int64) (v : Int32) : c_X10_mix F 46 v (dh h y) = some (dh h (mx y v)) := by
  unfold c_X10_mix
  simp only [dh_T, fT46 I, if_true, ltq, dh_J, dh_dh]
  rfl
theorem x_mixRow0 (y : Int64) : c_X9_mixRow F y none h = some (mx y (-1), h) := rfl
theorem x_mixRow1 (hF : 5000 ≤ F) {a n : Nat} {f : Nat → Int32} (ol : okL h a = true) (na : hN h a = n) (n60 : n ≤ 60) (ta : 0 < n → hT h a = 20) (ea : ∀ k, k < n → hI h a k = f k) (y : Int64) : c_X9_mixRow F y (some a) h = some (mrow (nI n) f y, h) := by
  unfold c_X9_mixRow mrow
  rw [nlq, if_pos ol, x_mix, bL_some, na, if_neg (pnI (by omega)), ix_n (by omega)]
  refine lpS (L := fun m (u : Int64 × Int32) => c_X9_mixRow_L20 F a m u.1 u.2 h) (fun k => (mr f (mx y (nI n)) k, nI k)) n (fun m k hk => ?_) (fun m => ?_) F (by omega)
  · show c_X9_mixRow_L20 F a (m + 1) (mr f (mx y (nI n)) k) (nI k) h = c_X9_mixRow_L20 F a m (mx (mr f (mx y (nI n)) k) (f k)) (nI (k + 1)) h
    have o1 : okA h a 20 (nI k) = true := okA_n (ta (by omega)) na hk (by omega)
    rw [c_X9_mixRow_L20]
    simp only [ol, if_true, na, if_neg (nI_ge hk (show n < 2 ^ 31 by omega)), o1, ix_n (show k < 2147483648 by omega), ea k hk, x_mix, bLq, ltq, nI_1]
  · show c_X9_mixRow_L20 F a (m + 1) _ (nI n) h = _
    rw [c_X9_mixRow_L20]
    simp only [ol, if_true, na, if_pos (nI_le (Nat.le_refl n) (show n < 2 ^ 31 by omega))]
theorem x_mixText0 (y : Int64) : c_X9_mixText F y none h = some (mx y (-1), h) := rfl
theorem x_mixText1 (hF : 5000 ≤ F) {a n : Nat} {f : Nat → Int32} (ta : hT h a = 21) (na : hN h a = n) (n60 : n ≤ 60) (ea : ∀ k, k < n → hI h a k = f k) (y : Int64) : c_X9_mixText F y (some a) h = some (mrow (nI n) f y, h) := by
  have ol : okL h a = true := okL_n ta (by decide) (by decide)
  unfold c_X9_mixText mrow
  rw [nlq, if_pos ol, x_mix, bL_some, na, if_neg (pnI (by omega)), ix_n (by omega)]
  refine lpS (L := fun m (u : Int64 × Int32) => c_X9_mixText_L20 F a m u.1 u.2 h) (fun k => (mr f (mx y (nI n)) k, nI k)) n (fun m k hk => ?_) (fun m => ?_) F (by omega)
  · show c_X9_mixText_L20 F a (m + 1) (mr f (mx y (nI n)) k) (nI k) h = c_X9_mixText_L20 F a m (mx (mr f (mx y (nI n)) k) (f k)) (nI (k + 1)) h
    have o1 : okA h a 21 (nI k) = true := okA_n ta na hk (by omega)
    rw [c_X9_mixText_L20]
    simp only [ol, if_true, na, if_neg (nI_ge hk (show n < 2 ^ 31 by omega)), o1, ix_n (show k < 2147483648 by omega), ea k hk, x_mix, bLq, ltq, nI_1]
  · show c_X9_mixText_L20 F a (m + 1) _ (nI n) h = _
    rw [c_X9_mixText_L20]
    simp only [ol, if_true, na, if_pos (nI_le (Nat.le_refl n) (show n < 2 ^ 31 by omega))]
theorem m_mixRow (I : Ifx h) (hF : 5000 ≤ F) {a b N : Nat} {sz : Int32} (ta : hT h a = 20) (na : hN h a = N) (hN : N ≤ 1000) (hs : sz = -9 ∨ ∃ n, n ≤ 60 ∧ b + n ≤ N ∧ sz = nI n) (y : Int64) : c_X10_mixRow F 46 sz (some a) (nI b) (dh h y) = some (dh h (mrow sz (fun k => hI h a (b + k)) y)) := by
  unfold c_X10_mixRow mrow
  rcases hs with hs | ⟨n, n60, bn, hs⟩
  · subst hs
    obtain ⟨F1, hF1⟩ : ∃ F1, F = F1 + 1 := ⟨F - 1, by omega⟩
    simp only [ltq, if_neg nn9, dh_T, fT46 I, if_true, m_mix F I, bVq]
    rw [if_pos neg9, hF1, c_X10_mixRow_L16, if_pos (by decide)]
  · subst hs
    simp only [ltq, if_pos (nge (show n < 2147483648 by omega)), dh_T, fT46 I, if_true, m_mix F I, bVq]
    rw [if_neg (pnI (by omega)), ix_n (by omega)]
    refine lpS (L := fun m (u : Int32 × Int64) => c_X10_mixRow_L16 F 46 (nI n) (some a) (nI b) m u.1 (dh h u.2)) (fun k => (nI k, mr (fun k => hI h a (b + k)) (mx y (nI n)) k)) n (fun m k hk => ?_) (fun m => ?_) F (by omega)
    · show c_X10_mixRow_L16 F 46 (nI n) (some a) (nI b) (m + 1) (nI k) (dh h (mr (fun k => hI h a (b + k)) (mx y (nI n)) k)) = c_X10_mixRow_L16 F 46 (nI n) (some a) (nI b) m (nI (k + 1)) (dh h (mx (mr (fun k => hI h a (b + k)) (mx y (nI n)) k) (hI h a (b + k))))
      have o1 : okA h a 20 (nI (b + k)) = true := okA_n ta na (by omega) (by omega)
      rw [c_X10_mixRow_L16]
      simp only [if_neg (nI_ge hk (show n < 2 ^ 31 by omega)), nnq, nI_add, dh_A, o1, if_true, dh_T, fT46 I, dh_I, ix_n (show b + k < 2147483648 by omega), m_mix F I, bVq, ltq, nI_1]
    · show c_X10_mixRow_L16 F 46 (nI n) (some a) (nI b) (m + 1) (nI n) _ = _
      rw [c_X10_mixRow_L16, if_pos (nI_le (Nat.le_refl n) (by omega))]

def sg_tun (h : z_Hp) (n : Nat) (y : Int64) : Int64 := itr (fun u y => mrow (hI h 57 u) (fun k => hI h 58 (8 * u + k)) y) y n
def Q_tun (h : z_Hp) : Prop := ∀ u, u < 6 → (hI h 57 u = -9 ∧ hR h 9 u = none) ∨ ∃ n a, n ≤ 8 ∧ hI h 57 u = nI n ∧ hR h 9 u = some a ∧ hT h a = 20 ∧ hN h a = n ∧ ∀ k, k < n → hI h a k = hI h 58 (8 * u + k)
theorem xs_tun (I : Ifx h) (hF : 5000 ≤ F) (Q : Q_tun h) (K : Int64 → z_Hp → Option (Int64 × z_Hp)) (y : Int64) : c_X9_digest_L71 F 5 K F y 0 h = K (sg_tun h 6 y) h := by
  refine lpS (L := fun m (u : Int64 × Int32) => c_X9_digest_L71 F 5 K m u.1 u.2 h) (fun k => (sg_tun h k y, nI k)) 6 (fun m k hk => ?_) (fun m => ?_) F (by omega)
  · show c_X9_digest_L71 F 5 K (m + 1) (sg_tun h k y) (nI k) h = c_X9_digest_L71 F 5 K m (mrow (hI h 57 k) (fun j => hI h 58 (8 * k + j)) (sg_tun h k y)) (nI (k + 1)) h
    have o1 : okA h 9 23 (nI k) = true := okA_n (fT9 I) (fN9 I) (by omega) (by decide)
    have e : c_X9_mixRow F (sg_tun h k y) (hR h 9 k) h = some (mrow (hI h 57 k) (fun j => hI h 58 (8 * k + j)) (sg_tun h k y), h) := by
      rcases Q k hk with ⟨e1, e2⟩ | ⟨n, a, n60, e1, e2, ta, na, ea⟩
      · rw [e1, e2, x_mixRow0]; rfl
      · rw [e1, e2, x_mixRow1 F hF (okL_n ta (by decide) (by decide)) na (by omega) (fun _ => ta) ea]
    rw [c_X9_digest_L71]
    simp only [if_neg (nI_ge (b := 6) hk (by decide)), fT5 I, fR5_3 I, if_true, ltq, nnq, o1, ix_n (show k < 2147483648 by omega), e, bLq, nI_1]
    rw [if_neg (show ¬ (6 : Int32) ≤ nI k from nI_ge (b := 6) hk (by decide))]
  · show c_X9_digest_L71 F 5 K (m + 1) (sg_tun h 6 y) (nI 6) h = _
    rw [c_X9_digest_L71, if_pos (by decide)]
theorem ms_tun (I : Ifx h) (hF : 5000 ≤ F) (Q : Q_tun h) (K : z_Hp → Option (Int64 × z_Hp)) (y : Int64) : c_X10_digest_L64 F 46 K F 0 (dh h y) = K (dh h (sg_tun h 6 y)) := by
  refine lpS (L := fun m (u : Int32 × Int64) => c_X10_digest_L64 F 46 K m u.1 (dh h u.2)) (fun k => (nI k, sg_tun h k y)) 6 (fun m k hk => ?_) (fun m => ?_) F (by omega)
  · show c_X10_digest_L64 F 46 K (m + 1) (nI k) (dh h (sg_tun h k y)) = c_X10_digest_L64 F 46 K m (nI (k + 1)) (dh h (mrow (hI h 57 k) (fun j => hI h 58 (8 * k + j)) (sg_tun h k y)))
    have o1 : okA h 57 20 (nI k) = true := okA_n (fT57 I) (fN57 I) (by omega) (by decide)
    have e : c_X10_mixRow F 46 (hI h 57 k) (some 58) (nI (8 * k)) (dh h (sg_tun h k y)) = some (dh h (mrow (hI h 57 k) (fun j => hI h 58 (8 * k + j)) (sg_tun h k y))) := by
      refine m_mixRow F I hF (fT58 I) (fN58 I) (by decide) ?_ _
      rcases Q k hk with ⟨e1, _⟩ | ⟨n, a, n60, e1, _⟩
      · exact Or.inl e1
      · exact Or.inr ⟨n, by omega, by omega, e1⟩
    have em : (8 : Int32) * nI k = nI (8 * k) := by rw [show (8 : Int32) = nI 8 from rfl, nI_mul]
    rw [c_X10_digest_L64, if_neg (show ¬ (6 : Int32) ≤ nI k from nI_ge (b := 6) hk (by decide))]
    simp only [dh_T, dh_R, dh_I, dh_A, fT46 I, fR46_17 I, fR46_18 I, if_true, ltq, nnq, o1, ix_n (show k < 2147483648 by omega), em, e, bVq, nI_1]
  · show c_X10_digest_L64 F 46 K (m + 1) (nI 6) (dh h (sg_tun h 6 y)) = _
    rw [c_X10_digest_L64, if_pos (by decide)]
def sg_row (h : z_Hp) (n : Nat) (y : Int64) : Int64 := itr (fun u y => mrow (hI h 48 u) (fun k => hI h 49 (40 * u + k)) y) y n
def Q_row (h : z_Hp) : Prop := ∀ u, u < 6 → (hI h 48 u = -9 ∧ hR h 6 u = none) ∨ ∃ n a, n ≤ 40 ∧ hI h 48 u = nI n ∧ hR h 6 u = some a ∧ hT h a = 20 ∧ hN h a = n ∧ ∀ k, k < n → hI h a k = hI h 49 (40 * u + k)
theorem xs_row (I : Ifx h) (hF : 5000 ≤ F) (Q : Q_row h) (K : Int64 → z_Hp → Option (Int64 × z_Hp)) (y : Int64) : c_X9_digest_L141 F 5 K F y 0 h = K (sg_row h 6 y) h := by
  refine lpS (L := fun m (u : Int64 × Int32) => c_X9_digest_L141 F 5 K m u.1 u.2 h) (fun k => (sg_row h k y, nI k)) 6 (fun m k hk => ?_) (fun m => ?_) F (by omega)
  · show c_X9_digest_L141 F 5 K (m + 1) (sg_row h k y) (nI k) h = c_X9_digest_L141 F 5 K m (mrow (hI h 48 k) (fun j => hI h 49 (40 * k + j)) (sg_row h k y)) (nI (k + 1)) h
    have o1 : okA h 6 23 (nI k) = true := okA_n (fT6 I) (fN6 I) (by omega) (by decide)
    have e : c_X9_mixRow F (sg_row h k y) (hR h 6 k) h = some (mrow (hI h 48 k) (fun j => hI h 49 (40 * k + j)) (sg_row h k y), h) := by
      rcases Q k hk with ⟨e1, e2⟩ | ⟨n, a, n60, e1, e2, ta, na, ea⟩
      · rw [e1, e2, x_mixRow0]; rfl
      · rw [e1, e2, x_mixRow1 F hF (okL_n ta (by decide) (by decide)) na (by omega) (fun _ => ta) ea]
    rw [c_X9_digest_L141]
    simp only [if_neg (nI_ge (b := 6) hk (by decide)), fT5 I, fR5_0 I, if_true, ltq, nnq, o1, ix_n (show k < 2147483648 by omega), e, bLq, nI_1]
    rw [if_neg (show ¬ (6 : Int32) ≤ nI k from nI_ge (b := 6) hk (by decide))]
  · show c_X9_digest_L141 F 5 K (m + 1) (sg_row h 6 y) (nI 6) h = _
    rw [c_X9_digest_L141, if_pos (by decide)]
theorem ms_row (I : Ifx h) (hF : 5000 ≤ F) (Q : Q_row h) (K : z_Hp → Option (Int64 × z_Hp)) (y : Int64) : c_X10_digest_L293 F 46 K F 0 (dh h y) = K (dh h (sg_row h 6 y)) := by
  refine lpS (L := fun m (u : Int32 × Int64) => c_X10_digest_L293 F 46 K m u.1 (dh h u.2)) (fun k => (nI k, sg_row h k y)) 6 (fun m k hk => ?_) (fun m => ?_) F (by omega)
  · show c_X10_digest_L293 F 46 K (m + 1) (nI k) (dh h (sg_row h k y)) = c_X10_digest_L293 F 46 K m (nI (k + 1)) (dh h (mrow (hI h 48 k) (fun j => hI h 49 (40 * k + j)) (sg_row h k y)))
    have o1 : okA h 48 20 (nI k) = true := okA_n (fT48 I) (fN48 I) (by omega) (by decide)
    have e : c_X10_mixRow F 46 (hI h 48 k) (some 49) (nI (40 * k)) (dh h (sg_row h k y)) = some (dh h (mrow (hI h 48 k) (fun j => hI h 49 (40 * k + j)) (sg_row h k y))) := by
      refine m_mixRow F I hF (fT49 I) (fN49 I) (by decide) ?_ _
      rcases Q k hk with ⟨e1, _⟩ | ⟨n, a, n60, e1, _⟩
      · exact Or.inl e1
      · exact Or.inr ⟨n, by omega, by omega, e1⟩
    have em : (40 : Int32) * nI k = nI (40 * k) := by rw [show (40 : Int32) = nI 40 from rfl, nI_mul]
    rw [c_X10_digest_L293, if_neg (show ¬ (6 : Int32) ≤ nI k from nI_ge (b := 6) hk (by decide))]
    simp only [dh_T, dh_R, dh_I, dh_A, fT46 I, fR46_7 I, fR46_8 I, if_true, ltq, nnq, o1, ix_n (show k < 2147483648 by omega), em, e, bVq, nI_1]
  · show c_X10_digest_L293 F 46 K (m + 1) (nI 6) (dh h (sg_row h 6 y)) = _
    rw [c_X10_digest_L293, if_pos (by decide)]
def sg_wlk (h : z_Hp) (n : Nat) (y : Int64) : Int64 := itr (fun u y => mrow (hI h 89 u) (fun k => hI h 90 (40 * u + k)) y) y n
def Q_wlk (h : z_Hp) : Prop := ∀ u, u < 4 → (hI h 89 u = -9 ∧ hR h 40 u = none) ∨ ∃ n a, n ≤ 40 ∧ hI h 89 u = nI n ∧ hR h 40 u = some a ∧ hT h a = 20 ∧ hN h a = n ∧ ∀ k, k < n → hI h a k = hI h 90 (40 * u + k)
theorem xs_wlk (I : Ifx h) (hF : 5000 ≤ F) (Q : Q_wlk h) (K : Int64 → z_Hp → Option (Int64 × z_Hp)) (y : Int64) : c_X4_mixAll_L5 F 39 K F y 0 h = K (sg_wlk h 4 y) h := by
  refine lpS (L := fun m (u : Int64 × Int32) => c_X4_mixAll_L5 F 39 K m u.1 u.2 h) (fun k => (sg_wlk h k y, nI k)) 4 (fun m k hk => ?_) (fun m => ?_) F (by omega)
  · show c_X4_mixAll_L5 F 39 K (m + 1) (sg_wlk h k y) (nI k) h = c_X4_mixAll_L5 F 39 K m (mrow (hI h 89 k) (fun j => hI h 90 (40 * k + j)) (sg_wlk h k y)) (nI (k + 1)) h
    have o1 : okA h 40 23 (nI k) = true := okA_n (fT40 I) (fN40 I) (by omega) (by decide)
    have e : c_X9_mixRow F (sg_wlk h k y) (hR h 40 k) h = some (mrow (hI h 89 k) (fun j => hI h 90 (40 * k + j)) (sg_wlk h k y), h) := by
      rcases Q k hk with ⟨e1, e2⟩ | ⟨n, a, n60, e1, e2, ta, na, ea⟩
      · rw [e1, e2, x_mixRow0]; rfl
      · rw [e1, e2, x_mixRow1 F hF (okL_n ta (by decide) (by decide)) na (by omega) (fun _ => ta) ea]
    rw [c_X4_mixAll_L5]
    simp only [if_neg (nI_ge (b := 4) hk (by decide)), fT39 I, fR39_0 I, if_true, ltq, nnq, o1, ix_n (show k < 2147483648 by omega), e, bLq, nI_1]
    rw [if_neg (show ¬ (4 : Int32) ≤ nI k from nI_ge (b := 4) hk (by decide))]
  · show c_X4_mixAll_L5 F 39 K (m + 1) (sg_wlk h 4 y) (nI 4) h = _
    rw [c_X4_mixAll_L5, if_pos (by decide)]
theorem ms_wlk (I : Ifx h) (hF : 5000 ≤ F) (Q : Q_wlk h) (K : z_Hp → Option (Int64 × z_Hp)) (y : Int64) : c_X10_digest_L216 F 46 K F 0 (dh h y) = K (dh h (sg_wlk h 4 y)) := by
  refine lpS (L := fun m (u : Int32 × Int64) => c_X10_digest_L216 F 46 K m u.1 (dh h u.2)) (fun k => (nI k, sg_wlk h k y)) 4 (fun m k hk => ?_) (fun m => ?_) F (by omega)
  · show c_X10_digest_L216 F 46 K (m + 1) (nI k) (dh h (sg_wlk h k y)) = c_X10_digest_L216 F 46 K m (nI (k + 1)) (dh h (mrow (hI h 89 k) (fun j => hI h 90 (40 * k + j)) (sg_wlk h k y)))
    have o1 : okA h 89 20 (nI k) = true := okA_n (fT89 I) (fN89 I) (by omega) (by decide)
    have e : c_X10_mixRow F 46 (hI h 89 k) (some 90) (nI (40 * k)) (dh h (sg_wlk h k y)) = some (dh h (mrow (hI h 89 k) (fun j => hI h 90 (40 * k + j)) (sg_wlk h k y))) := by
      refine m_mixRow F I hF (fT90 I) (fN90 I) (by decide) ?_ _
      rcases Q k hk with ⟨e1, _⟩ | ⟨n, a, n60, e1, _⟩
      · exact Or.inl e1
      · exact Or.inr ⟨n, by omega, by omega, e1⟩
    have em : (40 : Int32) * nI k = nI (40 * k) := by rw [show (40 : Int32) = nI 40 from rfl, nI_mul]
    rw [c_X10_digest_L216, if_neg (show ¬ (4 : Int32) ≤ nI k from nI_ge (b := 4) hk (by decide))]
    simp only [dh_T, dh_R, dh_I, dh_A, fT46 I, fR46_53 I, fR46_54 I, if_true, ltq, nnq, o1, ix_n (show k < 2147483648 by omega), em, e, bVq, nI_1]
  · show c_X10_digest_L216 F 46 K (m + 1) (nI 4) (dh h (sg_wlk h 4 y)) = _
    rw [c_X10_digest_L216, if_pos (by decide)]
def sg_txt (h : z_Hp) (n : Nat) (y : Int64) : Int64 := itr (fun u y => mrow (hI h 51 u) (fun k => hI h 52 (60 * u + k)) y) y n
def Q_txt (h : z_Hp) : Prop := ∀ u, u < 4 → (hI h 51 u = -9 ∧ hR h 7 u = none) ∨ ∃ n a, n ≤ 60 ∧ hI h 51 u = nI n ∧ hR h 7 u = some a ∧ hT h a = 21 ∧ hN h a = n ∧ ∀ k, k < n → hI h a k = hI h 52 (60 * u + k)
theorem xs_txt (I : Ifx h) (hF : 5000 ≤ F) (Q : Q_txt h) (y : Int64) : c_X9_digest_L166 F 5 F y 0 h = some (sg_txt h 4 y, h) := by
  refine lpS (L := fun m (u : Int64 × Int32) => c_X9_digest_L166 F 5 m u.1 u.2 h) (fun k => (sg_txt h k y, nI k)) 4 (fun m k hk => ?_) (fun m => ?_) F (by omega)
  · show c_X9_digest_L166 F 5 (m + 1) (sg_txt h k y) (nI k) h = c_X9_digest_L166 F 5 m (mrow (hI h 51 k) (fun j => hI h 52 (60 * k + j)) (sg_txt h k y)) (nI (k + 1)) h
    have o1 : okA h 7 24 (nI k) = true := okA_n (fT7 I) (fN7 I) (by omega) (by decide)
    have e : c_X9_mixText F (sg_txt h k y) (hR h 7 k) h = some (mrow (hI h 51 k) (fun j => hI h 52 (60 * k + j)) (sg_txt h k y), h) := by
      rcases Q k hk with ⟨e1, e2⟩ | ⟨n, a, n60, e1, e2, ta, na, ea⟩
      · rw [e1, e2, x_mixText0]; rfl
      · rw [e1, e2, x_mixText1 F hF ta na (by omega) ea]
    rw [c_X9_digest_L166]
    simp only [if_neg (nI_ge (b := 4) hk (by decide)), fT5 I, fR5_1 I, if_true, ltq, nnq, o1, ix_n (show k < 2147483648 by omega), e, bLq, nI_1]
    rw [if_neg (show ¬ (4 : Int32) ≤ nI k from nI_ge (b := 4) hk (by decide))]
  · show c_X9_digest_L166 F 5 (m + 1) (sg_txt h 4 y) (nI 4) h = _
    rw [c_X9_digest_L166, if_pos (by decide)]
theorem ms_txt (I : Ifx h) (hF : 5000 ≤ F) (Q : Q_txt h) (y : Int64) : c_X10_digest_L325 F 46 F 0 (dh h y) = some (sg_txt h 4 y, dh h (sg_txt h 4 y)) := by
  refine lpS (L := fun m (u : Int32 × Int64) => c_X10_digest_L325 F 46 m u.1 (dh h u.2)) (fun k => (nI k, sg_txt h k y)) 4 (fun m k hk => ?_) (fun m => ?_) F (by omega)
  · show c_X10_digest_L325 F 46 (m + 1) (nI k) (dh h (sg_txt h k y)) = c_X10_digest_L325 F 46 m (nI (k + 1)) (dh h (mrow (hI h 51 k) (fun j => hI h 52 (60 * k + j)) (sg_txt h k y)))
    have o1 : okA h 51 20 (nI k) = true := okA_n (fT51 I) (fN51 I) (by omega) (by decide)
    have e : c_X10_mixRow F 46 (hI h 51 k) (some 52) (nI (60 * k)) (dh h (sg_txt h k y)) = some (dh h (mrow (hI h 51 k) (fun j => hI h 52 (60 * k + j)) (sg_txt h k y))) := by
      refine m_mixRow F I hF (fT52 I) (fN52 I) (by decide) ?_ _
      rcases Q k hk with ⟨e1, _⟩ | ⟨n, a, n60, e1, _⟩
      · exact Or.inl e1
      · exact Or.inr ⟨n, by omega, by omega, e1⟩
    have em : (60 : Int32) * nI k = nI (60 * k) := by rw [show (60 : Int32) = nI 60 from rfl, nI_mul]
    rw [c_X10_digest_L325, if_neg (show ¬ (4 : Int32) ≤ nI k from nI_ge (b := 4) hk (by decide))]
    simp only [dh_T, dh_R, dh_I, dh_A, fT46 I, fR46_10 I, fR46_11 I, if_true, ltq, nnq, o1, ix_n (show k < 2147483648 by omega), em, e, bVq, nI_1]
  · show c_X10_digest_L325 F 46 (m + 1) (nI 4) (dh h (sg_txt h 4 y)) = _
    rw [c_X10_digest_L325, if_pos (by decide), dh_T, fT46 I, if_pos rfl, dh_J]
def sg_rul (h : z_Hp) (n : Nat) (y : Int64) : Int64 := itr (fun k y => (mx (mx y (hI h 59 k)) (hI h 60 k))) y n
theorem xs_rul (I : Ifx h) (hF : 5000 ≤ F) {q : Nat} (hq : q ≤ 16) (eq : hI h 10 3 = nI q) (E : ∀ k, k < q → hI h 11 k = hI h 59 k ∧ hI h 12 k = hI h 60 k) (y : Int64) : c_X3_mixAll_L5 F 10 F y 0 h = some (sg_rul h q y, h) := by
  refine lpS (L := fun m (u : Int64 × Int32) => c_X3_mixAll_L5 F 10 m u.1 u.2 h) (fun k => (sg_rul h k y, nI k)) q (fun m k hk => ?_) (fun m => ?_) F (by omega)
  · show c_X3_mixAll_L5 F 10 (m + 1) (sg_rul h k y) (nI k) h = c_X3_mixAll_L5 F 10 m (mx (mx (sg_rul h k y) (hI h 59 k)) (hI h 60 k)) (nI (k + 1)) h
    have o0 : okA h 11 20 (nI k) = true := okA_n (fT11 I) (fN11 I) (by omega) (by decide)
    have o1 : okA h 12 20 (nI k) = true := okA_n (fT12 I) (fN12 I) (by omega) (by decide)
    obtain ⟨E0, E1⟩ := E k hk
    rw [c_X3_mixAll_L5]
    simp only [fT10 I, fR10_0 I, fR10_1 I, if_true, eq, if_neg (nI_ge hk (show q < 2 ^ 31 by omega)), ltq, nnq, o0, o1, ix_n (show k < 2147483648 by omega), E0, E1, x_mix, bLq, nI_1]
  · show c_X3_mixAll_L5 F 10 (m + 1) _ (nI q) h = _
    rw [c_X3_mixAll_L5, fT10 I, if_pos rfl, eq, if_pos (nI_le (Nat.le_refl q) (by omega))]
theorem ms_rul (I : Ifx h) (hF : 5000 ≤ F) {q : Nat} (hq : q ≤ 16) (eq : hI h 46 19 = nI q) (K : z_Hp → Option (Int64 × z_Hp)) (y : Int64) : c_X10_digest_L134 F 46 K F 0 (dh h y) = K (dh h (sg_rul h q y)) := by
  refine lpS (L := fun m (u : Int32 × Int64) => c_X10_digest_L134 F 46 K m u.1 (dh h u.2)) (fun k => (nI k, sg_rul h k y)) q (fun m k hk => ?_) (fun m => ?_) F (by omega)
  · show c_X10_digest_L134 F 46 K (m + 1) (nI k) (dh h (sg_rul h k y)) = c_X10_digest_L134 F 46 K m (nI (k + 1)) (dh h (mx (mx (sg_rul h k y) (hI h 59 k)) (hI h 60 k)))
    have o0 : okA h 59 20 (nI k) = true := okA_n (fT59 I) (fN59 I) (by omega) (by decide)
    have o1 : okA h 60 20 (nI k) = true := okA_n (fT60 I) (fN60 I) (by omega) (by decide)
    rw [c_X10_digest_L134]
    simp only [dh_T, dh_R, dh_I, dh_A, fT46 I, fR46_20 I, fR46_21 I, if_true, eq, if_neg (nI_ge hk (show q < 2 ^ 31 by omega)), ltq, nnq, o0, o1, ix_n (show k < 2147483648 by omega), m_mix F I, bVq, nI_1]
  · show c_X10_digest_L134 F 46 K (m + 1) (nI q) (dh h _) = _
    rw [c_X10_digest_L134, dh_T, fT46 I, if_pos rfl, dh_I, eq, if_pos (nI_le (Nat.le_refl q) (by omega))]
def sg_ent (h : z_Hp) (n : Nat) (y : Int64) : Int64 := itr (fun k y => (mx (mx (mx y (hI h 86 k)) (hI h 87 k)) (hI h 88 k))) y n
theorem xs_ent (I : Ifx h) (hF : 5000 ≤ F) {q : Nat} (hq : q ≤ 40) (eq : hI h 34 4 = nI q) (E : ∀ k, k < q → hI h 35 k = hI h 86 k ∧ hI h 36 k = hI h 87 k ∧ hI h 37 k = hI h 88 k) (y : Int64) : c_X2_mixAll_L5 F 34 F y 0 h = some (sg_ent h q y, h) := by
  refine lpS (L := fun m (u : Int64 × Int32) => c_X2_mixAll_L5 F 34 m u.1 u.2 h) (fun k => (sg_ent h k y, nI k)) q (fun m k hk => ?_) (fun m => ?_) F (by omega)
  · show c_X2_mixAll_L5 F 34 (m + 1) (sg_ent h k y) (nI k) h = c_X2_mixAll_L5 F 34 m (mx (mx (mx (sg_ent h k y) (hI h 86 k)) (hI h 87 k)) (hI h 88 k)) (nI (k + 1)) h
    have o0 : okA h 35 20 (nI k) = true := okA_n (fT35 I) (fN35 I) (by omega) (by decide)
    have o1 : okA h 36 20 (nI k) = true := okA_n (fT36 I) (fN36 I) (by omega) (by decide)
    have o2 : okA h 37 20 (nI k) = true := okA_n (fT37 I) (fN37 I) (by omega) (by decide)
    obtain ⟨E0, E1, E2⟩ := E k hk
    rw [c_X2_mixAll_L5]
    simp only [fT34 I, fR34_0 I, fR34_1 I, fR34_2 I, if_true, eq, if_neg (nI_ge hk (show q < 2 ^ 31 by omega)), ltq, nnq, o0, o1, o2, ix_n (show k < 2147483648 by omega), E0, E1, E2, x_mix, bLq, nI_1]
  · show c_X2_mixAll_L5 F 34 (m + 1) _ (nI q) h = _
    rw [c_X2_mixAll_L5, fT34 I, if_pos rfl, eq, if_pos (nI_le (Nat.le_refl q) (by omega))]
theorem ms_ent (I : Ifx h) (hF : 5000 ≤ F) {q : Nat} (hq : q ≤ 40) (eq : hI h 46 49 = nI q) (K : z_Hp → Option (Int64 × z_Hp)) (y : Int64) : c_X10_digest_L170 F 46 K F 0 (dh h y) = K (dh h (sg_ent h q y)) := by
  refine lpS (L := fun m (u : Int32 × Int64) => c_X10_digest_L170 F 46 K m u.1 (dh h u.2)) (fun k => (nI k, sg_ent h k y)) q (fun m k hk => ?_) (fun m => ?_) F (by omega)
  · show c_X10_digest_L170 F 46 K (m + 1) (nI k) (dh h (sg_ent h k y)) = c_X10_digest_L170 F 46 K m (nI (k + 1)) (dh h (mx (mx (mx (sg_ent h k y) (hI h 86 k)) (hI h 87 k)) (hI h 88 k)))
    have o0 : okA h 86 20 (nI k) = true := okA_n (fT86 I) (fN86 I) (by omega) (by decide)
    have o1 : okA h 87 20 (nI k) = true := okA_n (fT87 I) (fN87 I) (by omega) (by decide)
    have o2 : okA h 88 20 (nI k) = true := okA_n (fT88 I) (fN88 I) (by omega) (by decide)
    rw [c_X10_digest_L170]
    simp only [dh_T, dh_R, dh_I, dh_A, fT46 I, fR46_50 I, fR46_51 I, fR46_52 I, if_true, eq, if_neg (nI_ge hk (show q < 2 ^ 31 by omega)), ltq, nnq, o0, o1, o2, ix_n (show k < 2147483648 by omega), m_mix F I, bVq, nI_1]
  · show c_X10_digest_L170 F 46 K (m + 1) (nI q) (dh h _) = _
    rw [c_X10_digest_L170, dh_T, fT46 I, if_pos rfl, dh_I, eq, if_pos (nI_le (Nat.le_refl q) (by omega))]
def sg_sun (h : z_Hp) (n : Nat) (y : Int64) : Int64 := itr (fun k y => (mx (mx (mx y (hI h 91 k)) (hI h 92 k)) (hI h 93 k))) y n
theorem xs_sun (I : Ifx h) (hF : 5000 ≤ F) {q : Nat} (hq : q ≤ 30) (eq : hI h 39 5 = nI q) (E : ∀ k, k < q → hI h 41 k = hI h 91 k ∧ hI h 42 k = hI h 92 k ∧ hI h 43 k = hI h 93 k) (y : Int64) : c_X4_mixAll_L32 F 39 F y 0 h = some (sg_sun h q y, h) := by
  refine lpS (L := fun m (u : Int64 × Int32) => c_X4_mixAll_L32 F 39 m u.1 u.2 h) (fun k => (sg_sun h k y, nI k)) q (fun m k hk => ?_) (fun m => ?_) F (by omega)
  · show c_X4_mixAll_L32 F 39 (m + 1) (sg_sun h k y) (nI k) h = c_X4_mixAll_L32 F 39 m (mx (mx (mx (sg_sun h k y) (hI h 91 k)) (hI h 92 k)) (hI h 93 k)) (nI (k + 1)) h
    have o0 : okA h 41 20 (nI k) = true := okA_n (fT41 I) (fN41 I) (by omega) (by decide)
    have o1 : okA h 42 20 (nI k) = true := okA_n (fT42 I) (fN42 I) (by omega) (by decide)
    have o2 : okA h 43 20 (nI k) = true := okA_n (fT43 I) (fN43 I) (by omega) (by decide)
    obtain ⟨E0, E1, E2⟩ := E k hk
    rw [c_X4_mixAll_L32]
    simp only [fT39 I, fR39_1 I, fR39_2 I, fR39_3 I, if_true, eq, if_neg (nI_ge hk (show q < 2 ^ 31 by omega)), ltq, nnq, o0, o1, o2, ix_n (show k < 2147483648 by omega), E0, E1, E2, x_mix, bLq, nI_1]
  · show c_X4_mixAll_L32 F 39 (m + 1) _ (nI q) h = _
    rw [c_X4_mixAll_L32, fT39 I, if_pos rfl, eq, if_pos (nI_le (Nat.le_refl q) (by omega))]
theorem ms_sun (I : Ifx h) (hF : 5000 ≤ F) {q : Nat} (hq : q ≤ 30) (eq : hI h 46 55 = nI q) (K : z_Hp → Option (Int64 × z_Hp)) (y : Int64) : c_X10_digest_L247 F 46 K F 0 (dh h y) = K (dh h (sg_sun h q y)) := by
  refine lpS (L := fun m (u : Int32 × Int64) => c_X10_digest_L247 F 46 K m u.1 (dh h u.2)) (fun k => (nI k, sg_sun h k y)) q (fun m k hk => ?_) (fun m => ?_) F (by omega)
  · show c_X10_digest_L247 F 46 K (m + 1) (nI k) (dh h (sg_sun h k y)) = c_X10_digest_L247 F 46 K m (nI (k + 1)) (dh h (mx (mx (mx (sg_sun h k y) (hI h 91 k)) (hI h 92 k)) (hI h 93 k)))
    have o0 : okA h 91 20 (nI k) = true := okA_n (fT91 I) (fN91 I) (by omega) (by decide)
    have o1 : okA h 92 20 (nI k) = true := okA_n (fT92 I) (fN92 I) (by omega) (by decide)
    have o2 : okA h 93 20 (nI k) = true := okA_n (fT93 I) (fN93 I) (by omega) (by decide)
    rw [c_X10_digest_L247]
    simp only [dh_T, dh_R, dh_I, dh_A, fT46 I, fR46_56 I, fR46_57 I, fR46_58 I, if_true, eq, if_neg (nI_ge hk (show q < 2 ^ 31 by omega)), ltq, nnq, o0, o1, o2, ix_n (show k < 2147483648 by omega), m_mix F I, bVq, nI_1]
  · show c_X10_digest_L247 F 46 K (m + 1) (nI q) (dh h _) = _
    rw [c_X10_digest_L247, dh_T, fT46 I, if_pos rfl, dh_I, eq, if_pos (nI_le (Nat.le_refl q) (by omega))]
def sg_prn (h : z_Hp) (n : Nat) (y : Int64) : Int64 := itr (fun p y => mx (mx y (hI h 63 p)) (hI h 64 p)) y n
theorem xs_prn (I : Ifx h) (hF : 5000 ≤ F) (R : Rprn h) (y : Int64) : c_X8_mixPrinters_L5 F 20 F y 0 h = some (sg_prn h 8 y, h) := by
  refine lpS (L := fun m (u : Int64 × Int32) => c_X8_mixPrinters_L5 F 20 m u.1 u.2 h) (fun k => (sg_prn h k y, nI k)) 8 (fun m k hk => ?_) (fun m => ?_) F (by omega)
  · show c_X8_mixPrinters_L5 F 20 (m + 1) (sg_prn h k y) (nI k) h = c_X8_mixPrinters_L5 F 20 m (mx (mx (sg_prn h k y) (hI h 63 k)) (hI h 64 k)) (nI (k + 1)) h
    have o0 : okA h 21 20 (nI k) = true := okA_n (fT21 I) (fN21 I) (by omega) (by decide)
    have o1 : okA h 22 20 (nI k) = true := okA_n (fT22 I) (fN22 I) (by omega) (by decide)
    rw [c_X8_mixPrinters_L5, if_neg (show ¬ (8 : Int32) ≤ nI k from nI_ge (b := 8) hk (by decide))]
    simp only [fT20 I, fR20_0 I, fR20_1 I, if_true, ltq, nnq, o0, o1, ix_n (show k < 2147483648 by omega), (R k hk).1, (R k hk).2.1, x_mix, bLq, nI_1]
  · show c_X8_mixPrinters_L5 F 20 (m + 1) _ (nI 8) h = _
    rw [c_X8_mixPrinters_L5, if_pos (by decide)]
theorem ms_prn (I : Ifx h) (hF : 5000 ≤ F) (K : z_Hp → Option (Int64 × z_Hp)) (y : Int64) : c_X10_digest_L96 F 46 K F 0 (dh h y) = K (dh h (sg_prn h 8 y)) := by
  refine lpS (L := fun m (u : Int32 × Int64) => c_X10_digest_L96 F 46 K m u.1 (dh h u.2)) (fun k => (nI k, sg_prn h k y)) 8 (fun m k hk => ?_) (fun m => ?_) F (by omega)
  · show c_X10_digest_L96 F 46 K (m + 1) (nI k) (dh h (sg_prn h k y)) = c_X10_digest_L96 F 46 K m (nI (k + 1)) (dh h (mx (mx (sg_prn h k y) (hI h 63 k)) (hI h 64 k)))
    have o0 : okA h 63 20 (nI k) = true := okA_n (fT63 I) (fN63 I) (by omega) (by decide)
    have o1 : okA h 64 20 (nI k) = true := okA_n (fT64 I) (fN64 I) (by omega) (by decide)
    rw [c_X10_digest_L96, if_neg (show ¬ (8 : Int32) ≤ nI k from nI_ge (b := 8) hk (by decide))]
    simp only [dh_T, dh_R, dh_I, dh_A, fT46 I, fR46_24 I, fR46_25 I, if_true, ltq, nnq, o0, o1, ix_n (show k < 2147483648 by omega), m_mix F I, bVq, nI_1]
  · show c_X10_digest_L96 F 46 K (m + 1) (nI 8) _ = _
    rw [c_X10_digest_L96, if_pos (by decide)]
def sg_cnt (h : z_Hp) (n : Nat) (y : Int64) : Int64 := itr (fun k y => mx y (cnt h k)) y n
theorem xs_cnt {ow : Ow} (J : InvO ow h) (hF : 5000 ≤ F) (K : Int64 → z_Hp → Option (Int64 × z_Hp)) (y : Int64) : c_X9_digest_L6 F 5 K F y 0 h = K (sg_cnt h 8 y) h := by
  have I := J.2.1
  refine lpS (L := fun m (u : Int64 × Int32) => c_X9_digest_L6 F 5 K m u.1 u.2 h) (fun k => (sg_cnt h k y, nI k)) 8 (fun m k hk => ?_) (fun m => ?_) F (by omega)
  · show c_X9_digest_L6 F 5 K (m + 1) (sg_cnt h k y) (nI k) h = c_X9_digest_L6 F 5 K m (mx (sg_cnt h k y) (cnt h k)) (nI (k + 1)) h
    rw [c_X9_digest_L6, if_neg (show ¬ (8 : Int32) ≤ nI k from nI_ge (b := 8) hk (by decide)), fT5 I, if_pos rfl, x_cnt F J hF (by omega), bI_some, x_mix, bL_some, nI_1]
    rfl
  · show c_X9_digest_L6 F 5 K (m + 1) _ (nI 8) h = _
    rw [c_X9_digest_L6, if_pos (by decide)]
theorem cnt_dh (y : Int64) (k : Nat) : cnt (dh h y) k = cnt h k := Eq.trans rfl rfl
theorem ms_cnt (I : Ifx h) (hF : 5000 ≤ F) (K : z_Hp → Option (Int64 × z_Hp)) (y : Int64) : c_X10_digest_L9 F 46 K F 0 (dh h y) = K (dh h (sg_cnt h 8 y)) := by
  refine lpS (L := fun m (u : Int32 × Int64) => c_X10_digest_L9 F 46 K m u.1 (dh h u.2)) (fun k => (nI k, sg_cnt h k y)) 8 (fun m k hk => ?_) (fun m => ?_) F (by omega)
  · show c_X10_digest_L9 F 46 K (m + 1) (nI k) (dh h (sg_cnt h k y)) = c_X10_digest_L9 F 46 K m (nI (k + 1)) (dh h (mx (sg_cnt h k y) (cnt h k)))
    rw [c_X10_digest_L9, if_neg (show ¬ (7 : Int32) < nI k from nI_nlt (b := k) (a := 7) (by omega) (by decide)), dh_T, fT46 I, if_pos rfl, m_cnt F (dh_fx I _) hF (by omega), bI_some, cnt_dh, dh_T, fT46 I, if_pos rfl, m_mix F I, bV_some, nI_1]
    rfl
  · show c_X10_digest_L9 F 46 K (m + 1) (nI 8) _ = _
    rw [c_X10_digest_L9, if_pos (by decide)]
def sg_sng (h : z_Hp) (n : Nat) (y : Int64) : Int64 := itr (fun u y => mrow (hI h 53 u) (fun k => hI h 54 (60 * u + k)) y) y n
theorem xs_sng {ow : Ow} (I : Ifx h) (R : Rsng ow h) (hF : 5000 ≤ F) (K : Int64 → z_Hp → Option (Int64 × z_Hp)) (y : Int64) : c_X9_digest_L30 F 5 K F y 0 h = K (sg_sng h 10 y) h := by
  refine lpS (L := fun m (u : Int64 × Int32) => c_X9_digest_L30 F 5 K m u.1 u.2 h) (fun k => (sg_sng h k y, nI k)) 10 (fun m k hk => ?_) (fun m => ?_) F (by omega)
  · show c_X9_digest_L30 F 5 K (m + 1) (sg_sng h k y) (nI k) h = c_X9_digest_L30 F 5 K m (mrow (hI h 53 k) (fun j => hI h 54 (60 * k + j)) (sg_sng h k y)) (nI (k + 1)) h
    have o1 : okA h 8 25 (nI k) = true := okA_n (fT8 I) (fN8 I) (by omega) (by decide)
    rw [c_X9_digest_L30, if_neg (show ¬ (10 : Int32) ≤ nI k from nI_ge (b := 10) hk (by decide))]
    rcases R k hk with ⟨e1, e2⟩ | ⟨n, a, n60, e1, e2, S⟩
    · simp only [fT5 I, fR5_2 I, if_true, ltq, nnq, o1, ix_n (show k < 2147483648 by omega), e2, nlz, x_mixText0, bLq, nI_1, e1]
      rfl
    · obtain ⟨b, X⟩ := S.x n60
      simp only [fT5 I, fR5_2 I, if_true, ltq, nnq, o1, ix_n (show k < 2147483648 by omega), e2, nlq, X.1, X.2.1, x_mixText1 F hF X.2.2.1 X.2.2.2.1 n60 X.2.2.2.2.2.1, bLq, nI_1, e1]
  · show c_X9_digest_L30 F 5 K (m + 1) _ (nI 10) h = _
    rw [c_X9_digest_L30, if_pos (by decide)]
theorem ms_sng {ow : Ow} (I : Ifx h) (R : Rsng ow h) (hF : 5000 ≤ F) (K : z_Hp → Option (Int64 × z_Hp)) (y : Int64) : c_X10_digest_L32 F 46 K F 0 (dh h y) = K (dh h (sg_sng h 10 y)) := by
  refine lpS (L := fun m (u : Int32 × Int64) => c_X10_digest_L32 F 46 K m u.1 (dh h u.2)) (fun k => (nI k, sg_sng h k y)) 10 (fun m k hk => ?_) (fun m => ?_) F (by omega)
  · show c_X10_digest_L32 F 46 K (m + 1) (nI k) (dh h (sg_sng h k y)) = c_X10_digest_L32 F 46 K m (nI (k + 1)) (dh h (mrow (hI h 53 k) (fun j => hI h 54 (60 * k + j)) (sg_sng h k y)))
    have o1 : okA h 53 20 (nI k) = true := okA_n (fT53 I) (fN53 I) (by omega) (by decide)
    have e : c_X10_mixRow F 46 (hI h 53 k) (some 54) (nI (60 * k)) (dh h (sg_sng h k y)) = some (dh h (mrow (hI h 53 k) (fun j => hI h 54 (60 * k + j)) (sg_sng h k y))) := by
      refine m_mixRow F I hF (fT54 I) (fN54 I) (by decide) ?_ _
      rcases R k hk with ⟨e1, _⟩ | ⟨n, a, n60, e1, _⟩
      · exact Or.inl e1
      · exact Or.inr ⟨n, by omega, by omega, e1⟩
    have em : (60 : Int32) * nI k = nI (60 * k) := by rw [show (60 : Int32) = nI 60 from rfl, nI_mul]
    rw [c_X10_digest_L32, if_neg (show ¬ (10 : Int32) ≤ nI k from nI_ge (b := 10) hk (by decide))]
    simp only [dh_T, dh_R, dh_I, dh_A, fT46 I, fR46_12 I, fR46_13 I, if_true, ltq, nnq, o1, ix_n (show k < 2147483648 by omega), em, e, bVq, nI_1]
  · show c_X10_digest_L32 F 46 K (m + 1) (nI 10) _ = _
    rw [c_X10_digest_L32, if_pos (by decide)]
/-! the sheets -/
def sg_tl (h : z_Hp) (s n : Nat) (y : Int64) : Int64 := itr (fun w y => mx y (hI h (65 + w) s)) y n
def sg_one (h : z_Hp) (s : Nat) (y : Int64) : Int64 := if hI h 65 s = 2 then mrow (hI h 75 s) (fun k => hI h 76 (40 * s + k)) (sg_tl h s 9 y) else sg_tl h s 9 y
def sg_she (h : z_Hp) (n : Nat) (y : Int64) : Int64 := itr (fun s y => sg_one h s y) y n
theorem xs_tl {ow : Ow} (I : Ifx h) (hF : 5000 ≤ F) {s a : Nat} (hs : s < 20) (ha : hR h 15 s = some a) (g : shAt ow h s a) (K : Int64 → z_Hp → Option (Int64 × z_Hp)) (y : Int64) : c_X6_mixAll_L17 F 14 (nI s) K F y 0 h = K (sg_tl h s 9 y) h := by
  refine lpS (L := fun m (u : Int64 × Int32) => c_X6_mixAll_L17 F 14 (nI s) K m u.1 u.2 h) (fun k => (sg_tl h s k y, nI k)) 9 (fun m k hk => ?_) (fun m => ?_) F (by omega)
  · show c_X6_mixAll_L17 F 14 (nI s) K (m + 1) (sg_tl h s k y) (nI k) h = c_X6_mixAll_L17 F 14 (nI s) K m (mx (sg_tl h s k y) (hI h (65 + k) s)) (nI (k + 1)) h
    have o1 : okA h 15 26 (nI s) = true := okA_n (fT15 I) (fN15 I) (by omega) (by decide)
    rw [c_X6_mixAll_L17, if_neg (show ¬ (9 : Int32) ≤ nI k from nI_ge (b := 9) hk (by decide))]
    simp only [fT14 I, fR14_0 I, if_true, ltq, nnq, o1, ix_n (show s < 2147483648 by omega), ha, g.1, x_tells F g (show k ≤ 8 by omega), bIq, x_mix, bLq, nI_1]
  · show c_X6_mixAll_L17 F 14 (nI s) K (m + 1) _ (nI 9) h = _
    rw [c_X6_mixAll_L17, if_pos (by decide)]
theorem ms_tl (I : Ifx h) (hF : 5000 ≤ F) {s : Nat} (hs : s < 20) (K : z_Hp → Option z_Hp) (y : Int64) : c_X10_mixSheets_L12 F 46 (nI s) K F 0 (dh h y) = K (dh h (sg_tl h s 9 y)) := by
  refine lpS (L := fun m (u : Int32 × Int64) => c_X10_mixSheets_L12 F 46 (nI s) K m u.1 (dh h u.2)) (fun k => (nI k, sg_tl h s k y)) 9 (fun m k hk => ?_) (fun m => ?_) F (by omega)
  · show c_X10_mixSheets_L12 F 46 (nI s) K (m + 1) (nI k) (dh h (sg_tl h s k y)) = c_X10_mixSheets_L12 F 46 (nI s) K m (nI (k + 1)) (dh h (mx (sg_tl h s k y) (hI h (65 + k) s)))
    rw [c_X10_mixSheets_L12, if_neg (show ¬ (8 : Int32) < nI k from nI_nlt (b := k) (a := 8) (by omega) (by decide)), dh_T, fT46 I, if_pos rfl, m_tells F (dh_fx I _) hs (show k ≤ 8 by omega), bI_some, dh_T, fT46 I, if_pos rfl, dh_I, m_mix F I, bV_some, nI_1]
    rfl
  · show c_X10_mixSheets_L12 F 46 (nI s) K (m + 1) (nI 9) _ = _
    rw [c_X10_mixSheets_L12, if_pos (by decide)]
theorem xs_she {ow : Ow} (I : Ifx h) (S : Rsta h) (hF : 5000 ≤ F) {q : Nat} (hq : q ≤ 20) (h1 : hI h 14 1 = nI q) (h3 : Sh ow h q) (y : Int64) : c_X6_mixAll F 14 y h = some (sg_she h q y, h) := by
  unfold c_X6_mixAll
  refine lpS (L := fun m (u : Int64 × Int32) => c_X6_mixAll_L5 F 14 m u.1 u.2 h) (fun k => (sg_she h k y, nI k)) q (fun m k hk => ?_) (fun m => ?_) F (by omega)
  · show c_X6_mixAll_L5 F 14 (m + 1) (sg_she h k y) (nI k) h = c_X6_mixAll_L5 F 14 m (sg_one h k (sg_she h k y)) (nI (k + 1)) h
    obtain ⟨a, ha, g⟩ := h3 k hk
    obtain ⟨b, n, c1, c2, c3, c4, c5, c6, c7⟩ := shcut20 S g
    have o1 : okA h 15 26 (nI k) = true := okA_n (fT15 I) (fN15 I) (by omega) (by decide)
    rw [c_X6_mixAll_L5, fT14 I, if_pos rfl, h1, if_neg (nI_ge hk (by omega)), xs_tl F I hF (by omega) ha g]
    simp only [fT14 I, fR14_0 I, if_true, ltq, nnq, o1, ix_n (show k < 2147483648 by omega), ha, g.1, g.2.2.2.1, c1, x_mixRow1 F hF c5 c2 (show n ≤ 60 by omega) c6 c7, bLq, nI_1]
    unfold sg_one
    rw [c4]
    by_cases e : hI h 65 k = 2
    · rw [if_pos e, if_pos e]
    · rw [if_neg e, if_neg e]
  · show c_X6_mixAll_L5 F 14 (m + 1) _ (nI q) h = _
    rw [c_X6_mixAll_L5, fT14 I, if_pos rfl, h1, if_pos (nI_le (Nat.le_refl q) (by omega))]
theorem ms_she {ow : Ow} (I : Ifx h) (S : Rsta h) (hF : 5000 ≤ F) {q : Nat} (hq : q ≤ 20) (h2 : hI h 46 26 = nI q) (h3 : Sh ow h q) (y : Int64) : c_X10_mixSheets F 46 (dh h y) = some (dh h (sg_she h q y)) := by
  unfold c_X10_mixSheets
  refine lpS (L := fun m (u : Int32 × Int64) => c_X10_mixSheets_L2 F 46 m u.1 (dh h u.2)) (fun k => (nI k, sg_she h k y)) q (fun m k hk => ?_) (fun m => ?_) F (by omega)
  · show c_X10_mixSheets_L2 F 46 (m + 1) (nI k) (dh h (sg_she h k y)) = c_X10_mixSheets_L2 F 46 m (nI (k + 1)) (dh h (sg_one h k (sg_she h k y)))
    obtain ⟨a, ha, g⟩ := h3 k hk
    obtain ⟨b, n, c1, c2, c3, c4, c5, c6, c7⟩ := shcut20 S g
    have o65 : okA h 65 20 (nI k) = true := okA_n (fT65 I) (fN65 I) (by omega) (by decide)
    have o75 : okA h 75 20 (nI k) = true := okA_n (fT75 I) (fN75 I) (by omega) (by decide)
    have em : (40 : Int32) * nI k = nI (40 * k) := by rw [show (40 : Int32) = nI 40 from rfl, nI_mul]
    have e : ∀ z, c_X10_mixRow F 46 (hI h 75 k) (some 76) (nI (40 * k)) (dh h z) = some (dh h (mrow (hI h 75 k) (fun j => hI h 76 (40 * k + j)) z)) := fun z => m_mixRow F I hF (fT76 I) (fN76 I) (by decide) (Or.inr ⟨n, by omega, by omega, c4⟩) z
    rw [c_X10_mixSheets_L2, dh_T, fT46 I, if_pos rfl, dh_I, h2, if_neg (nI_ge hk (by omega)), ms_tl F I hF (by omega)]
    simp only [dh_T, dh_R, dh_I, dh_A, fT46 I, fR46_27 I, fR46_37 I, fR46_38 I, if_true, ltq, nnq, o65, o75, ix_n (show k < 2147483648 by omega), em, e, bVq, nI_1]
    unfold sg_one
    by_cases e : hI h 65 k = 2
    · rw [if_pos e, if_pos e]
    · rw [if_neg e, if_neg e]
  · show c_X10_mixSheets_L2 F 46 (m + 1) (nI q) _ = _
    rw [c_X10_mixSheets_L2, dh_T, fT46 I, if_pos rfl, dh_I, h2, if_pos (nI_le (Nat.le_refl q) (by omega))]
theorem op_digest (hF : 5000 ≤ F) (J : Inv h) : OkL h (c_X9_digest F 5 h) (c_X10_digest F 46) := by
  obtain ⟨ow, J⟩ := J
  have o := J.1
  have I := J.2.1
  have S := J.sta
  obtain ⟨q, hq, h1, h2, h3, h4, h5⟩ := J.she
  obtain ⟨qr, hqr, r1, r2, r3⟩ := J.rul
  obtain ⟨qe, hqe, e1, e2, e3, _⟩ := J.reg
  obtain ⟨qs, hqs, s1, s2, s3⟩ := J.sun
  have Qt : Q_tun h := fun u hu => by
    rcases J.tun.x hu with e | ⟨m, c, m0, m8, t1, t2, t3, t4, t5⟩
    · exact Or.inl e
    · exact Or.inr ⟨m, c, m8, t1, t2, t3, t4, t5⟩
  have Qr : Q_row h := fun u hu => by
    rcases J.row.1 u hu with e | ⟨n, a, a1, a2, a3, a4, a5, a6, a7, a8⟩
    · exact Or.inl e
    · exact Or.inr ⟨n, a, a1, a2, a3, a4, a5, a8⟩
  have Qw : Q_wlk h := fun u hu => by
    rcases (J.wlk u hu).1 with e | ⟨n, a, a1, a2, a3, a4, a5, a6, a7, a8⟩
    · exact Or.inl e
    · exact Or.inr ⟨n, a, a1, a2, a3, a4, a5, a8⟩
  have Qx : Q_txt h := fun u hu => by
    rcases J.txt.1 u hu with e | ⟨n, a, a1, a2, a3, a4, a5, a6, a7, a8⟩
    · exact Or.inl e
    · exact Or.inr ⟨n, a, a1, a2, a3, a4, a5, a8⟩
  obtain ⟨Y, hY⟩ : ∃ Y, Y = sg_txt h 4 (sg_row h 6 (sg_sun h qs (sg_wlk h 4 (sg_ent h qe (sg_rul h qr (sg_she h q (sg_prn h 8 (sg_tun h 6 (sg_sng h 10 (sg_cnt h 8 17)))))))))) := ⟨_, rfl⟩
  refine ⟨Y, h, dh h Y, ?_, ?_, ⟨ow, J.fin (fs := [110]) o ((St.r I).wJ o 110 (by decide) rfl (by decide)) (OwX.refl _ _) (by decide)⟩, ?_, ?_⟩
  · unfold c_X9_digest
    rw [xs_cnt F J hF, xs_sng F I J.sng hF, xs_tun F I hF Qt]
    simp only [fT5 I, fT20 I, fT14 I, fT10 I, fT34 I, fT39 I, fR5_8 I, fR5_6 I, fR5_5 I, fR5_10 I, fR5_11 I, if_true, ltq, nnq]
    unfold c_X8_mixPrinters
    rw [xs_prn F I hF J.prn, bL_some]
    simp only [fT5 I, fT20 I, fT14 I, fT10 I, fT34 I, fT39 I, fR5_8 I, fR5_6 I, fR5_5 I, fR5_10 I, fR5_11 I, if_true, ltq, nnq]
    rw [xs_she F I S hF hq h1 h3, bL_some]
    simp only [fT5 I, fT20 I, fT14 I, fT10 I, fT34 I, fT39 I, fR5_8 I, fR5_6 I, fR5_5 I, fR5_10 I, fR5_11 I, if_true, ltq, nnq]
    unfold c_X3_mixAll
    rw [xs_rul F I hF hqr r1 (fun k hk => ⟨(r3 k hk).1, (r3 k hk).2.1⟩), bL_some]
    simp only [fT5 I, fT20 I, fT14 I, fT10 I, fT34 I, fT39 I, fR5_8 I, fR5_6 I, fR5_5 I, fR5_10 I, fR5_11 I, if_true, ltq, nnq]
    unfold c_X2_mixAll
    rw [xs_ent F I hF hqe e1 (fun k hk => ⟨(e3 k hk).1, (e3 k hk).2.1, (e3 k hk).2.2.1⟩), bL_some]
    simp only [fT5 I, fT20 I, fT14 I, fT10 I, fT34 I, fT39 I, fR5_8 I, fR5_6 I, fR5_5 I, fR5_10 I, fR5_11 I, if_true, ltq, nnq]
    unfold c_X4_mixAll
    rw [xs_wlk F I hF Qw, xs_sun F I hF hqs s1 (fun k hk => ⟨(s3 k hk).1, (s3 k hk).2.1, (s3 k hk).2.2.1⟩), bL_some, xs_row F I hF Qr, xs_txt F I hF Qx, hY]
  · unfold c_X10_digest
    rw [fT46 I, if_pos rfl]
    dsimp only [lt_]
    show c_X10_digest_L9 F 46 _ F 0 (dh h 17) = _
    rw [ms_cnt F I hF, ms_sng F I J.sng hF, ms_tun F I hF Qt, ms_prn F I hF, dh_T, fT46 I, if_pos rfl, ms_she F I S hF hq h2 h3, bV_some, ms_rul F I hF hqr r2, ms_ent F I hF hqe e2, ms_wlk F I hF Qw, ms_sun F I hF hqs s2, ms_row F I hF Qr, ms_txt F I hF Qx, hY]
  · show hZ h ≤ _; omega
  · show hS h ≤ _; omega
end Dig
