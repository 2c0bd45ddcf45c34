section Gat
variable {h : z_Hp} (F : Nat) (x1 x2 x3 x4 x5 : Int32)
/-- what is gathered -/
def Agh (a i : Nat) : Prop := (a = 28 ∧ i = 5) ∨ a = 30 ∨ a = 31 ∨ a = 32
def ChG (h g : z_Hp) : Prop := (∀ a i, ¬ Agh a i → hI g a i = hI h a i) ∧ (∀ a i, ¬ a = 33 → hR g a i = hR h a i) ∧ (∀ a i, hJ g a i = hJ h a i) ∧ (∀ a, hT g a = hT h a ∧ hN g a = hN h a) ∧ hZ g = hZ h ∧ hS g = hS h
theorem ChG.refl (h : z_Hp) : ChG h h := ⟨fun _ _ _ => rfl, fun _ _ _ => rfl, fun _ _ => rfl, fun _ => ⟨rfl, rfl⟩, rfl, rfl⟩
theorem ChG.set {g : z_Hp} (c : ChG h g) {a i : Nat} {x : Int32} (ha : Agh a i) : ChG h (sI g a i x) := ⟨fun b j e => by rw [hI_sI, if_neg (fun q => e (by rw [q.1, q.2]; exact ha))]; exact c.1 b j e, c.2⟩
theorem ChG.setR {g : z_Hp} (c : ChG h g) {i : Nat} {x : Option Nat} : ChG h (sR g 33 i x) := ⟨c.1, fun b j e => by rw [hR_sR, if_neg (fun q => e q.1)]; exact c.2.1 b j e, c.2.2⟩
theorem ChG.st {g : z_Hp} (c : ChG h g) (I : Ifx h) {ow : Ow} (o : OwOK ow) : St [124] ow h g := by
  obtain ⟨c1, c2, c3, c4, c5, c6⟩ := c
  refine ⟨by omega, fun a ha => c4 a, fun a i ha hn => ⟨c1 a i (fun e => hn ?_), c3 a i, c2 a i (fun e => hn ?_)⟩, fun a ha => by rw [(c4 a).1]; exact I.2.2.2 a (by omega)⟩
  · rcases e with ⟨rfl, rfl⟩ | rfl | rfl | rfl
    · rw [o _ _ (by decide)]; exact List.mem_cons_self
    · rw [o _ _ (by decide)]; exact List.mem_cons_self
    · rw [o _ _ (by decide)]; exact List.mem_cons_self
    · rw [o _ _ (by decide)]; exact List.mem_cons_self
  · rw [e, o _ _ (by decide)]; exact List.mem_cons_self
theorem ChG.fx {g : z_Hp} (c : ChG h g) (I : Ifx h) : Ifx g := I.st (ow := ow0) (fun _ _ _ => rfl) (c.st I (fun _ _ _ => rfl)) (by decide)
/-- ahead in the family: by the least year, then by number -/
def aq (y : Nat → Nat) (t s : Nat) : Prop := y t < y s ∨ (y t = y s ∧ t < s)
/-- the members below k, in their order -/
def Fo (y : Nat → Nat) (m : Nat → Bool) (k n : Nat) (b : Nat → Nat) : Prop := (∀ j, j < n → b j < k ∧ m (b j) = true) ∧ (∀ i j, i < j → j < n → aq y (b i) (b j)) ∧ ∀ s, s < k → m s = true → ∃ j, j < n ∧ b j = s
theorem x_gL106 (I : Ifx h) (hF : 5000 ≤ F) {n s : Nat} {b y : Nat → Nat} (n10 : n < 10) (s20 : s < 20) (hb : ∀ j, j < n → b j < 20 ∧ hI h 31 j = nI (b j)) (hy : ∀ t, t < 20 → (t = s ∨ ∃ j, j < n ∧ b j = t) → hI h 26 t = nI (y t) ∧ y t ≤ 1999) (a1 a2 : Nat) (v : Int32) (K : Int32 → z_Hp → Option z_Hp) {P : z_Hp → Prop} (k : ∀ p h', p ≤ n → ChI (fun a _ => a = 31) h h' → (∀ j, j < p → hI h' 31 j = nI (b j)) → (∀ j, p < j → j ≤ n → hI h' 31 j = nI (b (j - 1))) → (∀ j, p ≤ j → j < n → y s < y (b j)) → (0 < p → y (b (p - 1)) ≤ y s) → Wp (K (nI p) h') P) : Wp (c_X0_gather_L106 F 28 v a1 a2 (some 26) (nI s) K F (nI n) h) P := by
  refine Wp.dn (L := fun m (u : Int32 × z_Hp) => c_X0_gather_L106 F 28 v a1 a2 (some 26) (nI s) K m u.1 u.2) (fun p u => p ≤ n ∧ u.1 = nI p ∧ ChI (fun a _ => a = 31) h u.2 ∧ (∀ j, j < p → hI u.2 31 j = nI (b j)) ∧ (∀ j, p < j → j ≤ n → hI u.2 31 j = nI (b (j - 1))) ∧ (∀ j, p ≤ j → j < n → y s < y (b j))) (fun m p u hP ih => ?_) F n (nI n, h) (by omega) ⟨Nat.le_refl _, rfl, ChI.refl _ _, fun j hj => (hb j hj).2, fun j h1 h2 => by omega, fun j h1 h2 => by omega⟩
  obtain ⟨u1, g⟩ := u
  obtain ⟨pn, e1, e2, e3, e4, e5⟩ := hP
  dsimp only at e1 e2 e3 e4 ⊢
  subst e1
  have Ig := e2.fx I
  rw [c_X0_gather_L106]
  by_cases p0 : p = 0
  · exact Wp.ifT (by rw [p0]; decide) (k p g pn e2 e3 e4 e5 (fun y => by omega))
  · have oP : okA g 31 20 (nI (p - 1)) = true := okA_n (fT31 Ig) (fN31 Ig) (by omega) (by decide)
    have oQ : okA g 31 20 (nI p) = true := okA_n (fT31 Ig) (fN31 Ig) (by omega) (by decide)
    obtain ⟨b1, _⟩ := hb (p - 1) (by omega)
    have oB : okA g 26 20 (nI (b (p - 1))) = true := okA_n (fT26 Ig) (fN26 Ig) (by omega) (by decide)
    have oS : okA g 26 20 (nI s) = true := okA_n (fT26 Ig) (fN26 Ig) (by omega) (by decide)
    obtain ⟨y1, y2⟩ := hy (b (p - 1)) b1 (Or.inr ⟨p - 1, by omega, rfl⟩)
    obtain ⟨y3, y4⟩ := hy s s20 (Or.inl rfl)
    rw [show nI p - 1 = nI (p - 1) from nI_sub (b := 1) (by omega), ix_n (show p - 1 < 2147483648 by omega), ix_n (show p < 2147483648 by omega), ix_n (show s < 2147483648 by omega)]
    refine Wp.ifF (by rw [fa_le, ti_0, toI_n (by omega)]; omega) (Wp.ifT (fT28 Ig) (Wp.ltO (Wp.rf (fR28_2 Ig) (Wp.ifT oP (Wp.rf rfl ?_)))))
    rw [e3 (p - 1) (by omega), ix_n (show b (p - 1) < 2147483648 by omega)]
    refine Wp.ifT oB (Wp.ifT oS ?_)
    rw [e2.1 26 _ (by omega), e2.1 26 _ (by omega), y1, y3]
    by_cases c : y (b (p - 1)) ≤ y s
    · exact Wp.ifT (nI_le c (by omega)) (k p g pn e2 e3 e4 e5 (fun _ => c))
    · refine Wp.ifF (nI_ge (by omega) (by omega)) (Wp.ifT (fT28 Ig) (Wp.ltO (Wp.ifT (fT28 Ig) (Wp.ltO (Wp.rf (fR28_2 Ig) (Wp.ifT oP (Wp.rf (fR28_2 Ig) (Wp.ifT oQ (Wp.ltH (Wp.ltI ?_))))))))))
      rw [e3 (p - 1) (by omega), show nI p + (-1) = nI (p - 1) from by rw [show p = p - 1 + 1 by omega]; exact nI_m1 _]
      refine ih (p - 1) (nI (p - 1), sI g 31 p (nI (b (p - 1)))) (by omega) ⟨by omega, rfl, e2.set rfl, fun j hj => ?_, fun j h1 h2 => ?_, fun j h1 h2 => ?_⟩
      · dsimp only
        rw [hI_sI, if_neg (by omega)]; exact e3 j (by omega)
      · dsimp only
        rw [hI_sI]
        by_cases e : j = p
        · rw [if_pos ⟨rfl, e⟩, e]
        · rw [if_neg (fun y => e y.2)]; exact e4 j (by omega) h2
      · by_cases e : j = p - 1
        · rw [e]; omega
        · exact e5 j (by omega) h2
/-- one member more, put in -/
theorem Fo.ins {y : Nat → Nat} {m : Nat → Bool} {s n p : Nat} {b : Nat → Nat} (O : Fo y m s n b) (hm : m s = true) (pn : p ≤ n) (up : ∀ j, p ≤ j → j < n → y s < y (b j)) (dn : 0 < p → y (b (p - 1)) ≤ y s) : Fo y m (s + 1) (n + 1) (fun j => if j < p then b j else if j = p then s else b (j - 1)) := by
  obtain ⟨o1, o2, o3⟩ := O
  have lo : ∀ j, j < p → aq y (b j) s := fun j hj => by
    have d := dn (by omega)
    have b1 := (o1 j (by omega)).1
    by_cases e : j = p - 1
    · rw [← e] at d; unfold aq; omega
    · have := o2 j (p - 1) (by omega) (by omega)
      unfold aq at this ⊢; omega
  have hi : ∀ j, p ≤ j → j < n → aq y s (b j) := fun j h1 h2 => Or.inl (up j h1 h2)
  refine ⟨fun j hj => ?_, fun i j hij hj => ?_, fun t ht hmt => ?_⟩
  · dsimp only
    by_cases c1 : j < p
    · rw [if_pos c1]; have := o1 j (by omega); exact ⟨by omega, this.2⟩
    · rw [if_neg c1]
      by_cases c2 : j = p
      · rw [if_pos c2]; exact ⟨by omega, hm⟩
      · rw [if_neg c2]; have := o1 (j - 1) (by omega); exact ⟨by omega, this.2⟩
  · dsimp only
    by_cases c1 : j < p
    · rw [if_pos (show i < p by omega), if_pos c1]; exact o2 i j hij (by omega)
    · rw [if_neg c1]
      by_cases c2 : j = p
      · rw [if_pos c2, if_pos (show i < p by omega)]; exact lo i (by omega)
      · rw [if_neg c2]
        by_cases c3 : i < p
        · rw [if_pos c3]; exact o2 i (j - 1) (by omega) (by omega)
        · rw [if_neg c3]
          by_cases c4 : i = p
          · rw [if_pos c4]; exact hi (j - 1) (by omega) (by omega)
          · rw [if_neg c4]; exact o2 (i - 1) (j - 1) (by omega) (by omega)
  · by_cases e : t = s
    · refine ⟨p, by omega, ?_⟩
      dsimp only
      rw [if_neg (by omega), if_pos rfl, e]
    · obtain ⟨j, j1, j2⟩ := o3 t (by omega) hmt
      by_cases c : j < p
      · refine ⟨j, by omega, ?_⟩
        dsimp only
        rw [if_pos c]; exact j2
      · refine ⟨j + 1, by omega, ?_⟩
        dsimp only
        rw [if_neg (by omega), if_neg (by omega), Nat.add_sub_cancel]; exact j2
end Gat
