section Cty
variable {h : z_Hp} (F : Nat)
theorem b_L390 (hF : 5000 ≤ F) (t0 : hT h 46 = 10) (r0 : hR h 46 7 = some 48) (t1 : hT h 48 = 20) (n1 : hN h 48 = 6) (K : z_Hp → Option z_Hp) {P : z_Hp → Prop} (k : ∀ g, ChI (fun a i => a = 48 ∧ i < 6) h g → (∀ p, p < 6 → hI g 48 p = -9) → Wp (K g) P) : Wp (c_X10_init_L390 F 46 K F 0 h) P := by
  refine Wp.loop (L := fun m (u : Int32 × z_Hp) => c_X10_init_L390 F 46 K m u.1 u.2) (N := 6) (fun k u => u.1 = nI k ∧ ChI (fun a i => a = 48 ∧ i < 6) h u.2 ∧ ∀ p, p < k → hI u.2 48 p = -9) (fun m k u hk hP ih => ?_) (fun m u hP => ?_) F (0, h) (by omega) ⟨rfl, ChI.refl _ _, fun p hp => by omega⟩
  · obtain ⟨u1, g⟩ := u
    obtain ⟨e1, e2, e3⟩ := hP
    dsimp only at e1 e2 e3 ⊢
    subst e1
    have o1 : okA g 48 20 (nI k) = true := okA_n ((e2.T _).trans t1) ((e2.N _).trans n1) hk (by omega)
    rw [c_X10_init_L390, nI_1 k, ix_n (show k < 2147483648 by omega)]
    refine Wp.ifF (nI_ge (b := 6) hk (by decide)) (Wp.ifT ((e2.T _).trans t0) (Wp.ltO (Wp.rf ((e2.R _ _).trans r0) (Wp.ifT o1 (Wp.ltH (Wp.ltI (ih (nI (k + 1), sI g 48 k (-9)) ⟨rfl, e2.set ⟨rfl, hk⟩, fun p hp => ?_⟩)))))))
    dsimp only
    rw [hI_sI]
    by_cases e : p = k
    · rw [if_pos ⟨rfl, e⟩]
    · rw [if_neg (fun y => e y.2)]; exact e3 p (by omega)
  · obtain ⟨u1, g⟩ := u
    obtain ⟨e1, e2, e3⟩ := hP
    dsimp only at e1 e2 e3 ⊢
    subst e1
    rw [c_X10_init_L390]
    exact Wp.ifT (by decide) (k g e2 e3)
theorem b_L412 (hF : 5000 ≤ F) (t0 : hT h 46 = 10) (r0 : hR h 46 10 = some 51) (r1 : hR h 46 53 = some 89) (t1 : hT h 51 = 20) (n1 : hN h 51 = 4) (t2 : hT h 89 = 20) (n2 : hN h 89 = 4) (K : z_Hp → Option z_Hp) {P : z_Hp → Prop} (k : ∀ g, ChI (fun a i => (a = 51 ∨ a = 89) ∧ i < 4) h g → (∀ p, p < 4 → hI g 51 p = -9 ∧ hI g 89 p = -9) → Wp (K g) P) : Wp (c_X10_init_L412 F 46 K F 0 h) P := by
  refine Wp.loop (L := fun m (u : Int32 × z_Hp) => c_X10_init_L412 F 46 K m u.1 u.2) (N := 4) (fun k u => u.1 = nI k ∧ ChI (fun a i => (a = 51 ∨ a = 89) ∧ i < 4) h u.2 ∧ ∀ p, p < k → hI u.2 51 p = -9 ∧ hI u.2 89 p = -9) (fun m k u hk hP ih => ?_) (fun m u hP => ?_) F (0, h) (by omega) ⟨rfl, ChI.refl _ _, fun p hp => by omega⟩
  · obtain ⟨u1, g⟩ := u
    obtain ⟨e1, e2, e3⟩ := hP
    dsimp only at e1 e2 e3 ⊢
    subst e1
    have o1 : okA g 51 20 (nI k) = true := okA_n ((e2.T _).trans t1) ((e2.N _).trans n1) hk (by omega)
    have o2 : okA (sI g 51 k (-9)) 89 20 (nI k) = true := okA_n (show hT g 89 = 20 from (e2.T _).trans t2) (show hN g 89 = 4 from (e2.N _).trans n2) hk (by omega)
    rw [c_X10_init_L412, nI_1 k, ix_n (show k < 2147483648 by omega)]
    refine Wp.ifF (nI_ge (b := 4) hk (by decide)) (Wp.ifT ((e2.T _).trans t0) (Wp.ltO (Wp.rf ((e2.R _ _).trans r0) (Wp.ifT o1 (Wp.ltH (Wp.ifT (show hT g 46 = 10 from (e2.T _).trans t0) (Wp.ltO (Wp.rf (show hR g 46 53 = some 89 from (e2.R _ _).trans r1) (Wp.ifT o2 (Wp.ltH (Wp.ltI (ih (nI (k + 1), sI (sI g 51 k (-9)) 89 k (-9)) ⟨rfl, (e2.set ⟨Or.inl rfl, hk⟩).set ⟨Or.inr rfl, hk⟩, fun p hp => ?_⟩))))))))))))
    dsimp only
    rw [hI_sI, if_neg (by omega), hI_sI, hI_sI, hI_sI]
    by_cases e : p = k
    · rw [if_pos ⟨rfl, e⟩, if_pos ⟨rfl, e⟩]; exact ⟨rfl, rfl⟩
    · rw [if_neg (fun y => e y.2), if_neg (fun y => e y.2), if_neg (by omega)]
      exact e3 p (by omega)
  · obtain ⟨u1, g⟩ := u
    obtain ⟨e1, e2, e3⟩ := hP
    dsimp only at e1 e2 e3 ⊢
    subst e1
    rw [c_X10_init_L412]
    exact Wp.ifT (by decide) (k g e2 e3)
theorem b_L441 (hF : 5000 ≤ F) (t0 : hT h 46 = 10) (r0 : hR h 46 12 = some 53) (t1 : hT h 53 = 20) (n1 : hN h 53 = 10) (K : z_Hp → Option z_Hp) {P : z_Hp → Prop} (k : ∀ g, ChI (fun a i => a = 53 ∧ i < 10) h g → (∀ p, p < 10 → hI g 53 p = -9) → Wp (K g) P) : Wp (c_X10_init_L441 F 46 K F 0 h) P := by
  refine Wp.loop (L := fun m (u : Int32 × z_Hp) => c_X10_init_L441 F 46 K m u.1 u.2) (N := 10) (fun k u => u.1 = nI k ∧ ChI (fun a i => a = 53 ∧ i < 10) h u.2 ∧ ∀ p, p < k → hI u.2 53 p = -9) (fun m k u hk hP ih => ?_) (fun m u hP => ?_) F (0, h) (by omega) ⟨rfl, ChI.refl _ _, fun p hp => by omega⟩
  · obtain ⟨u1, g⟩ := u
    obtain ⟨e1, e2, e3⟩ := hP
    dsimp only at e1 e2 e3 ⊢
    subst e1
    have o1 : okA g 53 20 (nI k) = true := okA_n ((e2.T _).trans t1) ((e2.N _).trans n1) hk (by omega)
    rw [c_X10_init_L441, nI_1 k, ix_n (show k < 2147483648 by omega)]
    refine Wp.ifF (nI_ge (b := 10) hk (by decide)) (Wp.ifT ((e2.T _).trans t0) (Wp.ltO (Wp.rf ((e2.R _ _).trans r0) (Wp.ifT o1 (Wp.ltH (Wp.ltI (ih (nI (k + 1), sI g 53 k (-9)) ⟨rfl, e2.set ⟨rfl, hk⟩, fun p hp => ?_⟩)))))))
    dsimp only
    rw [hI_sI]
    by_cases e : p = k
    · rw [if_pos ⟨rfl, e⟩]
    · rw [if_neg (fun y => e y.2)]; exact e3 p (by omega)
  · obtain ⟨u1, g⟩ := u
    obtain ⟨e1, e2, e3⟩ := hP
    dsimp only at e1 e2 e3 ⊢
    subst e1
    rw [c_X10_init_L441]
    exact Wp.ifT (by decide) (k g e2 e3)
theorem b_L463 (hF : 5000 ≤ F) (t0 : hT h 46 = 10) (r0 : hR h 46 17 = some 57) (t1 : hT h 57 = 20) (n1 : hN h 57 = 6) (K : z_Hp → Option z_Hp) {P : z_Hp → Prop} (k : ∀ g, ChI (fun a i => a = 57 ∧ i < 6) h g → (∀ p, p < 6 → hI g 57 p = -9) → Wp (K g) P) : Wp (c_X10_init_L463 F 46 K F 0 h) P := by
  refine Wp.loop (L := fun m (u : Int32 × z_Hp) => c_X10_init_L463 F 46 K m u.1 u.2) (N := 6) (fun k u => u.1 = nI k ∧ ChI (fun a i => a = 57 ∧ i < 6) h u.2 ∧ ∀ p, p < k → hI u.2 57 p = -9) (fun m k u hk hP ih => ?_) (fun m u hP => ?_) F (0, h) (by omega) ⟨rfl, ChI.refl _ _, fun p hp => by omega⟩
  · obtain ⟨u1, g⟩ := u
    obtain ⟨e1, e2, e3⟩ := hP
    dsimp only at e1 e2 e3 ⊢
    subst e1
    have o1 : okA g 57 20 (nI k) = true := okA_n ((e2.T _).trans t1) ((e2.N _).trans n1) hk (by omega)
    rw [c_X10_init_L463, nI_1 k, ix_n (show k < 2147483648 by omega)]
    refine Wp.ifF (nI_ge (b := 6) hk (by decide)) (Wp.ifT ((e2.T _).trans t0) (Wp.ltO (Wp.rf ((e2.R _ _).trans r0) (Wp.ifT o1 (Wp.ltH (Wp.ltI (ih (nI (k + 1), sI g 57 k (-9)) ⟨rfl, e2.set ⟨rfl, hk⟩, fun p hp => ?_⟩)))))))
    dsimp only
    rw [hI_sI]
    by_cases e : p = k
    · rw [if_pos ⟨rfl, e⟩]
    · rw [if_neg (fun y => e y.2)]; exact e3 p (by omega)
  · obtain ⟨u1, g⟩ := u
    obtain ⟨e1, e2, e3⟩ := hP
    dsimp only at e1 e2 e3 ⊢
    subst e1
    rw [c_X10_init_L463]
    exact Wp.ifT (by decide) (k g e2 e3)
theorem b_L485 (hF : 5000 ≤ F) (t0 : hT h 46 = 10) (r0 : hR h 46 24 = some 63) (r1 : hR h 46 25 = some 64) (t1 : hT h 63 = 20) (n1 : hN h 63 = 8) (t2 : hT h 64 = 20) (n2 : hN h 64 = 8) {P : z_Hp → Prop} (k : ∀ g, ChI (fun a i => (a = 63 ∨ a = 64) ∧ i < 8) h g → (∀ p, p < 8 → hI g 63 p = -9 ∧ hI g 64 p = -9) → P g) : Wp (c_X10_init_L485 F 46 F 0 h) P := by
  refine Wp.loop (L := fun m (u : Int32 × z_Hp) => c_X10_init_L485 F 46 m u.1 u.2) (N := 8) (fun k u => u.1 = nI k ∧ ChI (fun a i => (a = 63 ∨ a = 64) ∧ i < 8) h u.2 ∧ ∀ p, p < k → hI u.2 63 p = -9 ∧ hI u.2 64 p = -9) (fun m k u hk hP ih => ?_) (fun m u hP => ?_) F (0, h) (by omega) ⟨rfl, ChI.refl _ _, fun p hp => by omega⟩
  · obtain ⟨u1, g⟩ := u
    obtain ⟨e1, e2, e3⟩ := hP
    dsimp only at e1 e2 e3 ⊢
    subst e1
    have o1 : okA g 63 20 (nI k) = true := okA_n ((e2.T _).trans t1) ((e2.N _).trans n1) hk (by omega)
    have o2 : okA (sI g 63 k (-9)) 64 20 (nI k) = true := okA_n (show hT g 64 = 20 from (e2.T _).trans t2) (show hN g 64 = 8 from (e2.N _).trans n2) hk (by omega)
    rw [c_X10_init_L485, nI_1 k, ix_n (show k < 2147483648 by omega)]
    refine Wp.ifF (nI_ge (b := 8) hk (by decide)) (Wp.ifT ((e2.T _).trans t0) (Wp.ltO (Wp.rf ((e2.R _ _).trans r0) (Wp.ifT o1 (Wp.ltH (Wp.ifT (show hT g 46 = 10 from (e2.T _).trans t0) (Wp.ltO (Wp.rf (show hR g 46 25 = some 64 from (e2.R _ _).trans r1) (Wp.ifT o2 (Wp.ltH (Wp.ltI (ih (nI (k + 1), sI (sI g 63 k (-9)) 64 k (-9)) ⟨rfl, (e2.set ⟨Or.inl rfl, hk⟩).set ⟨Or.inr rfl, hk⟩, fun p hp => ?_⟩))))))))))))
    dsimp only
    rw [hI_sI, if_neg (by omega), hI_sI, hI_sI, hI_sI]
    by_cases e : p = k
    · rw [if_pos ⟨rfl, e⟩, if_pos ⟨rfl, e⟩]; exact ⟨rfl, rfl⟩
    · rw [if_neg (fun y => e y.2), if_neg (fun y => e y.2), if_neg (by omega)]
      exact e3 p (by omega)
  · obtain ⟨u1, g⟩ := u
    obtain ⟨e1, e2, e3⟩ := hP
    dsimp only at e1 e2 e3 ⊢
    subst e1
    rw [c_X10_init_L485]
    exact Wp.ifT (by decide) (Wp.ret (k g e2 e3))
end Cty
