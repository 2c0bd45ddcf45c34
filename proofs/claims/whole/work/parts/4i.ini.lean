section Ini
theorem lkT_no {z : Nat} : ∀ {ts : List (Nat × Nat × Nat)}, (∀ e ∈ ts, e.1 < z) → lkT ts z = (99, 0)
  | [], _ => rfl
  | e :: t, h => by
    have := h e List.mem_cons_self
    show (if z = e.1 then e.2 else lkT t z) = (99, 0)
    rw [if_neg (by omega)]
    exact lkT_no (fun f hf => h f (List.mem_cons_of_mem _ hf))
theorem tsA_lt : ∀ e ∈ tsA, e.1 < 94 := by decide
theorem tsA_fx : ∀ e ∈ fxT, 5 ≤ e.1 ∧ lkT tsA e.1 = e.2 := by decide
theorem rsA_fx : ∀ e ∈ fxR, lkR rsA e.1 e.2.1 = some e.2.2 := by decide
theorem rsA_6 : ∀ r, r < 6 → lkR rsA 6 r = none := by decide
theorem rsA_7 : ∀ r, r < 4 → lkR rsA 7 r = none := by decide
theorem rsA_8 : ∀ r, r < 10 → lkR rsA 8 r = none := by decide
theorem rsA_9 : ∀ r, r < 6 → lkR rsA 9 r = none := by decide
theorem rsA_40 : ∀ r, r < 4 → lkR rsA 40 r = none := by decide
theorem ne9 {n : Nat} (h : n < 2147483648) : ¬ (-9 : Int32) = nI n := fun e => by
  have e1 := congrArg Int32.toInt e
  rw [toI_n h] at e1
  have e2 : (-9 : Int32).toInt = -9 := rfl
  omega
/-- the heap behind both constructors -/
def hpA (L : Nat) (W : Nat → Nat → Int32) : z_Hp := Bd L 94 8110 W tsA rsA [(46, 5), (5, 17)]
theorem hpA_I (L : Nat) (W : Nat → Nat → Int32) (a i : Nat) : hI (hpA L W) a i = W a i := rfl
theorem hpA_R (L : Nat) (W : Nat → Nat → Int32) (a i : Nat) : hR (hpA L W) a i = lkR rsA a i := rfl
theorem hpA_T (L : Nat) (W : Nat → Nat → Int32) (a : Nat) : hT (hpA L W) a = (if a < 5 then (19, z_sN L a) else lkT tsA a).1 := rfl
theorem hpA_N (L : Nat) (W : Nat → Nat → Int32) (a : Nat) : hN (hpA L W) a = (if a < 5 then (19, z_sN L a) else lkT tsA a).2 := rfl
theorem hpA_J (L : Nat) (W : Nat → Nat → Int32) (a i : Nat) : hJ (hpA L W) a i = lkJ [(46, 5), (5, 17)] a i := rfl
theorem hpA_fx (L : Nat) (W : Nat → Nat → Int32) : Ifx (hpA L W) := by
  refine ⟨fun e he => ?_, fun e he => (hpA_R L W e.1 e.2.1).trans (rsA_fx e he), Nat.le_refl 94, fun a ha => ?_⟩
  · obtain ⟨h1, h2⟩ := tsA_fx e he
    have e1 : (if e.1 < 5 then (19, z_sN L e.1) else lkT tsA e.1) = e.2 := by rw [if_neg (by omega), h2]
    exact ⟨(hpA_T L W e.1).trans (congrArg Prod.fst e1), (hpA_N L W e.1).trans (congrArg Prod.snd e1)⟩
  · have h1 : 94 ≤ a := ha
    have e1 : (if a < 5 then (19, z_sN L a) else lkT tsA a) = (99, 0) := by
      rw [if_neg (by omega)]
      exact lkT_no (fun e he => Nat.lt_of_lt_of_le (tsA_lt e he) h1)
    exact (hpA_T L W a).trans (congrArg Prod.fst e1)
theorem hpA_inv {L : Nat} {W : Nat → Nat → Int32} {xs : Nat → Int32} (w0 : ∀ a j, a < 5 → W a j = z_sV xs a j) (wz : ∀ a j, 5 ≤ a → ¬ ((a = 21 ∨ a = 22) ∧ j < 8) → ¬ m9 a j → W a j = 0) (w21 : ∀ p, p < 8 → W 21 p = -9 ∧ W 22 p = -9)
    (w48 : ∀ p, p < 6 → W 48 p = -9) (w51 : ∀ p, p < 4 → W 51 p = -9 ∧ W 89 p = -9) (w53 : ∀ p, p < 10 → W 53 p = -9) (w57 : ∀ p, p < 6 → W 57 p = -9) (w63 : ∀ p, p < 8 → W 63 p = -9 ∧ W 64 p = -9) : Inv (hpA L W) := by
  have z : ∀ a j, (5 ≤ a ∧ a ≠ 21 ∧ a ≠ 22 ∧ a ≠ 48 ∧ a ≠ 51 ∧ a ≠ 89 ∧ a ≠ 53 ∧ a ≠ 57 ∧ a ≠ 63 ∧ a ≠ 64) → hI (hpA L W) a j = 0 := fun a j h => (hpA_I L W a j).trans (wz a j (by omega) (by omega) (by unfold m9; omega))
  have n0 : (0 : Int32) = nI 0 := rfl
  have m0 : ¬ (-9 : Int32) = 0 := by decide
  refine ⟨ow0, fun a i _ => rfl, hpA_fx L W, ⟨0, by omega, z 5 4 (by omega), z 46 6 (by omega)⟩, ⟨(z 5 12 (by omega)).trans (z 46 0 (by omega)).symm, fun j _ => (z 45 j (by omega)).trans (z 47 j (by omega)).symm⟩, (z 5 15 (by omega)).trans (z 46 2 (by omega)).symm, ((hpA_J L W 5 14).trans rfl).trans (hpA_J L W 46 3).symm, ⟨((hpA_J L W 5 16).trans rfl).trans (hpA_J L W 46 4).symm, ((hpA_J L W 5 17).trans rfl).trans (hpA_J L W 46 5).symm⟩, ⟨fun r hr => Or.inl ⟨(hpA_I L W 48 r).trans (w48 r hr), (hpA_R L W 6 r).trans (rsA_6 r hr)⟩, fun r q a hr hq e1 => ?_⟩, ⟨fun r hr => Or.inl ⟨(hpA_I L W 51 r).trans (w51 r hr).1, (hpA_R L W 7 r).trans (rsA_7 r hr)⟩, fun r q a hr hq e1 => ?_⟩, fun s hs => Or.inl ⟨(hpA_I L W 53 s).trans (w53 s hs), (hpA_R L W 8 s).trans (rsA_8 s hs)⟩, fun u hu => ⟨Or.inl ⟨(hpA_I L W 57 u).trans (w57 u hu), (hpA_R L W 9 u).trans (rsA_9 u hu)⟩, ?_⟩, ⟨0, by omega, z 10 3 (by omega), z 46 19 (by omega), fun k hk => by omega⟩, fun p hp => ?_, ⟨0, by omega, z 14 1 (by omega), z 46 26 (by omega), fun s hs => by omega, fun s _ _ => ⟨z 69 s (by omega), z 70 s (by omega), z 71 s (by omega)⟩, fun s t a hs => by omega⟩, ⟨0, by omega, z 34 4 (by omega), z 46 49 (by omega), fun k hk => by omega, fun _ => 0, fun k hk => by omega, fun j k _ hk => by omega⟩, fun u hu => ⟨Or.inl ⟨(hpA_I L W 89 u).trans (w51 u hu).2, (hpA_R L W 40 u).trans (rsA_40 u hu)⟩, ?_, fun k n e1 hn => ?_⟩, ⟨0, by omega, z 39 5 (by omega), z 46 55 (by omega), fun k hk => by omega⟩, ⟨19, (hpA_R L W 16 2).trans (by decide), (hpA_T L W 19).trans rfl, ⟨(show 1 ≤ hN (hpA L W) 19 from by rw [hpA_N L W 19]; exact (by decide : 1 ≤ (lkT tsA 19).2)), (show hN (hpA L W) 19 ≤ 4096 from by rw [hpA_N L W 19]; exact (by decide : (lkT tsA 19).2 ≤ 4096))⟩, fun i => rfl, Or.inl rfl⟩, ⟨fun a ha => ?_, rfl, rfl, rfl, rfl, fun a j ha => ?_⟩⟩
  · have e2 : hR (hpA L W) 6 r = none := (hpA_R L W 6 r).trans (rsA_6 r hr)
    rw [e2] at e1; cases e1
  · have e2 : hR (hpA L W) 7 r = none := (hpA_R L W 7 r).trans (rsA_7 r hr)
    rw [e2] at e1; cases e1
  · have e2 : hI (hpA L W) 57 u = -9 := w57 u hu
    rw [e2]; exact m0
  · have a1 : hI (hpA L W) 21 p = -9 := (w21 p hp).1
    have a2 : hI (hpA L W) 22 p = -9 := (w21 p hp).2
    have a3 : hI (hpA L W) 63 p = -9 := (w63 p hp).1
    have a4 : hI (hpA L W) 64 p = -9 := (w63 p hp).2
    exact ⟨a1.trans a3.symm, a2.trans a4.symm, Or.inl ⟨a3, a4⟩⟩
  · have e2 : hI (hpA L W) 89 u = -9 := (w51 u hu).2
    rw [e2]; exact m0
  · have e2 : hI (hpA L W) 89 u = -9 := (w51 u hu).2
    exact absurd (e2.symm.trans e1) (ne9 (by omega))
  · have e1 : (if a < 5 then (19, z_sN L a) else lkT tsA a) = (19, z_sN L a) := if_pos ha
    exact (hpA_T L W a).trans (congrArg Prod.fst e1)
  · have e1 : hI (hpA L W) a j = z_sV xs a j := w0 a j (by omega)
    rw [e1]
    exact if_neg (by omega)
/-- both constructors, one behind the other, as the law makes them -/
theorem b_both {F : Nat} (hF : 5000 ≤ F) (L : Nat) (xs : Nat → Int32) {α : Type} {K : Nat → Nat → z_Hp → Option α} {P : α → Prop} (k : ∀ W, Inv (hpA L W) → hN (hpA L W) 4 = L → Wp (K 5 46 (hpA L W)) P) :
    Wp (nwo (z_h0 L xs) 9 18 (fun a1 h2 => (bV (c_X9_init F a1 h2) (fun h3 => (nwo h3 10 62 (fun a4 h5 => (bV (c_X10_init F a4 h5) (fun h6 => K a1 a4 h6)))))))) P := by
  rw [z_h0_bd]
  refine wbO (z' := 6) rfl (by decide) (fun a j ha => if_neg (by omega)) (fun e he => by cases he) (fun e he => by cases he) ?_
  refine Wp.cV ?_
  refine b_X9 F hF (fun a j ha => if_neg (by omega)) (fun W w1 w2 => ?_)
  refine wbO (z' := 47) rfl (by decide) (fun a j ha => ?_) (by decide) (by decide) ?_
  · rw [w1 a j (by omega)]; exact if_neg (by omega)
  refine Wp.cV ?_
  refine b_X10 F hF (fun a j ha => ?_) (fun W' v1 v2 v3 v4 v5 v6 => ?_)
  · rw [w1 a j (by omega)]; exact if_neg (by omega)
  refine k W' (hpA_inv (xs := xs) (fun a j ha => ?_) (fun a j h5 n1 n2 => ?_) (fun p hp => ?_) v2 v3 v4 v5 v6) rfl
  · rw [v1 a j (by unfold m9; omega), w1 a j (by omega)]; exact if_pos ha
  · rw [v1 a j n2, w1 a j n1]; exact if_neg (by omega)
  · rw [v1 21 p (by unfold m9; omega), v1 22 p (by unfold m9; omega)]; exact w2 p hp
end Ini
