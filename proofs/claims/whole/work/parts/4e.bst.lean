section Bst
variable {L z z' s t n a i b : Nat} {V : Nat → Nat → Int32} {ts rs : List (Nat × Nat × Nat)} {js : List (Nat × Nat)} {α : Type} {P : α → Prop}
theorem wbO {k : Nat → z_Hp → Option α} (hz : z + 1 = z') (h5 : 5 ≤ z) (hv : ∀ a j, z ≤ a → V a j = 0) (hr : ∀ e ∈ rs, e.1 < z) (hj : ∀ e ∈ js, e.1 < z) (w : Wp (k z (Bd L z' (s + n) V ((z, t, n) :: ts) rs js)) P) : Wp (nwo (Bd L z s V ts rs js) t n k) P := by
  subst hz
  show Wp (k z (nw (Bd L z s V ts rs js) t n)) P
  rw [nw_bd h5 hv hr hj]
  exact w
theorem wbN {x : Int32} {k : Nat → z_Hp → Option α} (hi : inb x 100000 = true) (hn : ix x = n) (hz : z + 1 = z') (h5 : 5 ≤ z) (hv : ∀ a j, z ≤ a → V a j = 0) (hr : ∀ e ∈ rs, e.1 < z) (hj : ∀ e ∈ js, e.1 < z) (w : Wp (k z (Bd L z' (s + n) V ((z, t, n) :: ts) rs js)) P) : Wp (if inb x 100000 = true then nwo (Bd L z s V ts rs js) t (ix x) k else none) P := by
  rw [if_pos hi, hn]
  exact wbO hz h5 hv hr hj w
theorem wbR {g : Nat} {k : z_Hp → Option α} (ht : hT (Bd L z s V ts rs js) a = g) (w : Wp (k (Bd L z s V ts ((a, i, b) :: rs) js)) P) : Wp (if hT (Bd L z s V ts rs js) a = g then lt_ (sR (Bd L z s V ts rs js) a i (some b)) k else none) P := Wp.ifT ht w
theorem wbJ {g : Nat} {k : z_Hp → Option α} (ht : hT (Bd L z s V ts rs js) a = g) (w : Wp (k (Bd L z s V ts rs ((a, i) :: js))) P) : Wp (if hT (Bd L z s V ts rs js) a = g then lt_ (sJ (Bd L z s V ts rs js) a i 1) k else none) P := Wp.ifT ht w
/-- only ints have changed: still a heap by lists -/
theorem ChI.bd {A : Nat → Nat → Prop} {g : z_Hp} (c : ChI A (Bd L z s V ts rs js) g) : g = Bd L z s g.1 ts rs js := by
  obtain ⟨g1, g2⟩ := g
  have e : g2 = (Bd L z s V ts rs js).2 := c.2
  rw [e]
  rfl
end Bst
section Bst2
variable {h : z_Hp} (F : Nat)
theorem b_L62 (hF : 5000 ≤ F) (t0 : hT h 20 = 8) (r0 : hR h 20 0 = some 21) (r1 : hR h 20 1 = some 22) (t1 : hT h 21 = 20) (n1 : hN h 21 = 8) (t2 : hT h 22 = 20) (n2 : hN h 22 = 8) : Wp (c_X8_init_L62 F 20 F 0 h) (fun g => ChI (fun a i => (a = 21 ∨ a = 22) ∧ i < 8) h g ∧ ∀ p, p < 8 → hI g 21 p = -9 ∧ hI g 22 p = -9) := by
  refine Wp.loop (L := fun m (u : Int32 × z_Hp) => c_X8_init_L62 F 20 m u.1 u.2) (N := 8) (fun k u => u.1 = nI k ∧ ChI (fun a i => (a = 21 ∨ a = 22) ∧ i < 8) h u.2 ∧ ∀ p, p < k → hI u.2 21 p = -9 ∧ hI u.2 22 p = -9) (fun m k u hk hP ih => ?_) (fun m u hP => ?_) F (0, h) (by omega) ⟨rfl, ChI.refl _ _, fun p hp => by omega⟩
  · obtain ⟨u1, g⟩ := u
    obtain ⟨e1, e2, e3⟩ := hP
    dsimp only at e1 e2 e3 ⊢
    subst e1
    have o1 : okA g 21 20 (nI k) = true := okA_n ((e2.T _).trans t1) ((e2.N _).trans n1) hk (by omega)
    have o2 : okA (sI g 21 k (-9)) 22 20 (nI k) = true := okA_n (show hT g 22 = 20 from (e2.T _).trans t2) (show hN g 22 = 8 from (e2.N _).trans n2) hk (by omega)
    rw [c_X8_init_L62, nI_1 k, ix_n (show k < 2147483648 by omega)]
    refine Wp.ifF (nI_ge (b := 8) hk (by decide)) (Wp.ifT ((e2.T _).trans t0) (Wp.ltO (Wp.rf ((e2.R _ _).trans r0) (Wp.ifT o1 (Wp.ltH (Wp.ifT (show hT g 20 = 8 from (e2.T _).trans t0) (Wp.ltO (Wp.rf (show hR g 20 1 = some 22 from (e2.R _ _).trans r1) (Wp.ifT o2 (Wp.ltH (Wp.ltI (ih (nI (k + 1), sI (sI g 21 k (-9)) 22 k (-9)) ⟨rfl, (e2.set ⟨Or.inl rfl, hk⟩).set ⟨Or.inr rfl, hk⟩, fun p hp => ?_⟩))))))))))))
    dsimp only
    rw [hI_sI, if_neg (by omega), hI_sI, hI_sI, hI_sI]
    by_cases e : p = k
    · rw [if_pos ⟨rfl, e⟩, if_pos ⟨rfl, e⟩]; exact ⟨rfl, rfl⟩
    · rw [if_neg (fun y => e y.2), if_neg (fun y => e y.2), if_neg (by omega)]
      exact e3 p (by omega)
  · obtain ⟨u1, g⟩ := u
    obtain ⟨e1, e2, e3⟩ := hP
    dsimp only at e1 e2 e3 ⊢
    subst e1
    rw [c_X8_init_L62]
    exact Wp.ifT (by decide) (Wp.ret ⟨e2, e3⟩)
end Bst2
