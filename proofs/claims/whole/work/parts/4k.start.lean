/-! ===== the start: the world as the Statement gives it ===== -/
theorem z_eqi {args : Array Value} {s : State} {t : Term} {z : Int32} (h : (Cond.eq t (.int z)).before args s = true) : t.eval args s none [] s = some (.int z) := by
  cases hv : t.eval args s none [] s with
  | none => simp [Cond.before, Cond.holds, Cond.value, hv] at h
  | some w =>
    have hz : (Term.int z).eval args s none [] s = some (.int z) := rfl
    simp only [Cond.before, Cond.holds, Cond.value, hv, hz] at h
    cases w <;> simp_all
theorem z_stat {args : Array Value} {s : State} (hgv : (Jvm.Cond.and given_1 narrow_1).before args s = true) (hts : ∀ w ∈ lw_tbl, w.before args s = true) (L : Nat) (xs : Nat → Int32) : ∀ k, k < 4 → ∃ t, va_Z "BalladSheets" (z_sn k) "[I" (.ref t) (fun q => s.heap.size ≤ q) s s.heap ∧ va_T .int t (z_sN L k) (fun j => .int (z_sV xs k j)) (fun q => s.heap.size ≤ q) s s.heap := by
  have hs := flat_of_before _ hgv
  have hini : (Cond.initialized "BalladSheets").before args s = true := hts _ (by decide +kernel)
  have hA : ∀ a : Nat, a < s.heap.size → ¬ (fun q => s.heap.size ≤ q) a := fun a h1 h2 => by omega
  intro k hk
  rcases (show k = 0 ∨ k = 1 ∨ k = 2 ∨ k = 3 by omega) with rfl | rfl | rfl | rfl
  · obtain ⟨t, e, ht⟩ := va_Tof (args := args) (s := s) (tm := .static "BalladSheets" "KIND_ABOVE" "[I") (ty := .int) (N := 7) (f := fun j => .int (z_sV xs 0 j)) (A := fun q => s.heap.size ≤ q) (by decide) (hs _ (by decide +kernel)) (z_eqi (hs (Cond.eq (Term.length (Term.static "BalladSheets" "KIND_ABOVE" "[I")) (Term.int 7)) (by decide +kernel))) (fun j hj => by
      rcases (show j = 0 ∨ j = 1 ∨ j = 2 ∨ j = 3 ∨ j = 4 ∨ j = 5 ∨ j = 6 by omega) with rfl | rfl | rfl | rfl | rfl | rfl | rfl
      · exact z_eqi (hs (Cond.eq (Term.elem (Term.static "BalladSheets" "KIND_ABOVE" "[I") (Term.int 0)) (Term.int 0)) (by decide +kernel))
      · exact z_eqi (hs (Cond.eq (Term.elem (Term.static "BalladSheets" "KIND_ABOVE" "[I") (Term.int 1)) (Term.int 0)) (by decide +kernel))
      · exact z_eqi (hs (Cond.eq (Term.elem (Term.static "BalladSheets" "KIND_ABOVE" "[I") (Term.int 2)) (Term.int 1)) (by decide +kernel))
      · exact z_eqi (hs (Cond.eq (Term.elem (Term.static "BalladSheets" "KIND_ABOVE" "[I") (Term.int 3)) (Term.int 0)) (by decide +kernel))
      · exact z_eqi (hs (Cond.eq (Term.elem (Term.static "BalladSheets" "KIND_ABOVE" "[I") (Term.int 4)) (Term.int 0)) (by decide +kernel))
      · exact z_eqi (hs (Cond.eq (Term.elem (Term.static "BalladSheets" "KIND_ABOVE" "[I") (Term.int 5)) (Term.int 0)) (by decide +kernel))
      · exact z_eqi (hs (Cond.eq (Term.elem (Term.static "BalladSheets" "KIND_ABOVE" "[I") (Term.int 6)) (Term.int 5)) (by decide +kernel))) hA
    exact ⟨t, va_Zof (hts (Cond.laysStatic "BalladSheets" "KIND_ABOVE" "[I") (by decide +kernel)) hini e hA, ht⟩
  · obtain ⟨t, e, ht⟩ := va_Tof (args := args) (s := s) (tm := .static "BalladSheets" "NO_CUT" "[I") (ty := .int) (N := 0) (f := fun j => .int (z_sV xs 1 j)) (A := fun q => s.heap.size ≤ q) (by decide) (hs _ (by decide +kernel)) (z_eqi (hs (Cond.eq (Term.length (Term.static "BalladSheets" "NO_CUT" "[I")) (Term.int 0)) (by decide +kernel))) (fun j hj => absurd hj (Nat.not_lt_zero j)) hA
    exact ⟨t, va_Zof (hts (Cond.laysStatic "BalladSheets" "NO_CUT" "[I") (by decide +kernel)) hini e hA, ht⟩
  · obtain ⟨t, e, ht⟩ := va_Tof (args := args) (s := s) (tm := .static "BalladSheets" "RULE_LETTERS" "[I") (ty := .int) (N := 5) (f := fun j => .int (z_sV xs 2 j)) (A := fun q => s.heap.size ≤ q) (by decide) (hs _ (by decide +kernel)) (z_eqi (hs (Cond.eq (Term.length (Term.static "BalladSheets" "RULE_LETTERS" "[I")) (Term.int 5)) (by decide +kernel))) (fun j hj => by
      rcases (show j = 0 ∨ j = 1 ∨ j = 2 ∨ j = 3 ∨ j = 4 by omega) with rfl | rfl | rfl | rfl | rfl
      · exact z_eqi (hs (Cond.eq (Term.elem (Term.static "BalladSheets" "RULE_LETTERS" "[I") (Term.int 0)) (Term.int 76)) (by decide +kernel))
      · exact z_eqi (hs (Cond.eq (Term.elem (Term.static "BalladSheets" "RULE_LETTERS" "[I") (Term.int 1)) (Term.int 82)) (by decide +kernel))
      · exact z_eqi (hs (Cond.eq (Term.elem (Term.static "BalladSheets" "RULE_LETTERS" "[I") (Term.int 2)) (Term.int 83)) (by decide +kernel))
      · exact z_eqi (hs (Cond.eq (Term.elem (Term.static "BalladSheets" "RULE_LETTERS" "[I") (Term.int 3)) (Term.int 68)) (by decide +kernel))
      · exact z_eqi (hs (Cond.eq (Term.elem (Term.static "BalladSheets" "RULE_LETTERS" "[I") (Term.int 4)) (Term.int 67)) (by decide +kernel))) hA
    exact ⟨t, va_Zof (hts (Cond.laysStatic "BalladSheets" "RULE_LETTERS" "[I") (by decide +kernel)) hini e hA, ht⟩
  · obtain ⟨t, e, ht⟩ := va_Tof (args := args) (s := s) (tm := .static "BalladSheets" "FORCE_AT_FIRST" "[I") (ty := .int) (N := 5) (f := fun j => .int (z_sV xs 3 j)) (A := fun q => s.heap.size ≤ q) (by decide) (hs _ (by decide +kernel)) (z_eqi (hs (Cond.eq (Term.length (Term.static "BalladSheets" "FORCE_AT_FIRST" "[I")) (Term.int 5)) (by decide +kernel))) (fun j hj => by
      rcases (show j = 0 ∨ j = 1 ∨ j = 2 ∨ j = 3 ∨ j = 4 by omega) with rfl | rfl | rfl | rfl | rfl
      · exact z_eqi (hs (Cond.eq (Term.elem (Term.static "BalladSheets" "FORCE_AT_FIRST" "[I") (Term.int 0)) (Term.int 1)) (by decide +kernel))
      · exact z_eqi (hs (Cond.eq (Term.elem (Term.static "BalladSheets" "FORCE_AT_FIRST" "[I") (Term.int 1)) (Term.int 21)) (by decide +kernel))
      · exact z_eqi (hs (Cond.eq (Term.elem (Term.static "BalladSheets" "FORCE_AT_FIRST" "[I") (Term.int 2)) (Term.int 3)) (by decide +kernel))
      · exact z_eqi (hs (Cond.eq (Term.elem (Term.static "BalladSheets" "FORCE_AT_FIRST" "[I") (Term.int 3)) (Term.int 2)) (by decide +kernel))
      · exact z_eqi (hs (Cond.eq (Term.elem (Term.static "BalladSheets" "FORCE_AT_FIRST" "[I") (Term.int 4)) (Term.int 1)) (by decide +kernel))) hA
    exact ⟨t, va_Zof (hts (Cond.laysStatic "BalladSheets" "FORCE_AT_FIRST" "[I") (by decide +kernel)) hini e hA, ht⟩
theorem z_instN : ∀ (t : Nat) (q : vw_C), vwCl[t]? = some q → Cond.instantiable q.1 q.2.2 ∈ lw_tbl := z_cls (show Cond.instantiable RX0 7 ∈ lw_tbl from by decide +kernel) (show Cond.instantiable RX1 4 ∈ lw_tbl from by decide +kernel) (show Cond.instantiable RX2 5 ∈ lw_tbl from by decide +kernel) (show Cond.instantiable RX3 4 ∈ lw_tbl from by decide +kernel) (show Cond.instantiable RX4 6 ∈ lw_tbl from by decide +kernel) (show Cond.instantiable RX5 11 ∈ lw_tbl from by decide +kernel) (show Cond.instantiable RX6 2 ∈ lw_tbl from by decide +kernel) (show Cond.instantiable RX7 5 ∈ lw_tbl from by decide +kernel) (show Cond.instantiable RX8 7 ∈ lw_tbl from by decide +kernel) (show Cond.instantiable RX9 18 ∈ lw_tbl from by decide +kernel) (show Cond.instantiable RX10 62 ∈ lw_tbl from by decide +kernel)
theorem z_arrs {args : Array Value} {s : State} (hts : ∀ w ∈ lw_tbl, w.before args s = true) : ∀ t, ∃ cA : ClassId, 20 ≤ t → t ≤ 26 → ∃ (kA : Class) (comp : ClassId), s.vm.classes[cA]? = some kA ∧ kA.kind = .array comp (z_el t) ∧ s.vm.findClass ("[" ++ (z_el t).toString) = some cA ∧ (23 ≤ t → (t = 23 → s.vm.findClass ("[" ++ (z_el 20).toString) = some comp) ∧ (t = 24 → s.vm.findClass ("[" ++ (z_el 21).toString) = some comp) ∧ (t = 25 → s.vm.findClass RX7 = some comp) ∧ (t = 26 → s.vm.findClass RX5 = some comp) ∧ ∃ kc : Class, s.vm.classes[comp]? = some kc) := by
  intro t
  by_cases h : 20 ≤ t ∧ t ≤ 26
  · obtain ⟨h1, h2⟩ := h
    rcases (show t = 20 ∨ t = 21 ∨ t = 22 ∨ t = 23 ∨ t = 24 ∨ t = 25 ∨ t = 26 by omega) with rfl | rfl | rfl | rfl | rfl | rfl | rfl
    · obtain ⟨c, k, comp, e1, e2, e3⟩ := Cond.arrayClass_spec (hts (Cond.arrayClass .int) (by decide +kernel))
      exact ⟨c, fun _ _ => ⟨k, comp, e2, e3, e1, fun h => by omega⟩⟩
    · obtain ⟨c, k, comp, e1, e2, e3⟩ := Cond.arrayClass_spec (hts (Cond.arrayClass .byte) (by decide +kernel))
      exact ⟨c, fun _ _ => ⟨k, comp, e2, e3, e1, fun h => by omega⟩⟩
    · obtain ⟨c, k, comp, e1, e2, e3⟩ := Cond.arrayClass_spec (hts (Cond.arrayClass .long) (by decide +kernel))
      exact ⟨c, fun _ _ => ⟨k, comp, e2, e3, e1, fun h => by omega⟩⟩
    · obtain ⟨comp, c, k, e1, e2, e3, e4, e5⟩ := arrayOverA_spec (hts (Cond.arrayOver (.array .int)) (by decide +kernel))
      obtain ⟨kc, hkc, -⟩ := Vm.findClass_spec e1
      exact ⟨c, fun _ _ => ⟨k, comp, e3, e4, e5, fun _ => ⟨fun _ => e1, fun h => by omega, fun h => by omega, fun h => by omega, kc, hkc⟩⟩⟩
    · obtain ⟨comp, c, k, e1, e2, e3, e4, e5⟩ := arrayOverA_spec (hts (Cond.arrayOver (.array .byte)) (by decide +kernel))
      obtain ⟨kc, hkc, -⟩ := Vm.findClass_spec e1
      exact ⟨c, fun _ _ => ⟨k, comp, e3, e4, e5, fun _ => ⟨fun h => by omega, fun _ => e1, fun h => by omega, fun h => by omega, kc, hkc⟩⟩⟩
    · obtain ⟨comp, c, k, e1, e2, e3, e4, e5⟩ := Cond.arrayOver_spec (hts (Cond.arrayOver (.object "BalladSheets$Song")) (by decide +kernel))
      obtain ⟨kc, hkc, -⟩ := Vm.findClass_spec e1
      exact ⟨c, fun _ _ => ⟨k, comp, e3, e4, e5, fun _ => ⟨fun h => by omega, fun h => by omega, fun _ => e1, fun h => by omega, kc, hkc⟩⟩⟩
    · obtain ⟨comp, c, k, e1, e2, e3, e4, e5⟩ := Cond.arrayOver_spec (hts (Cond.arrayOver (.object "BalladSheets$Sheet")) (by decide +kernel))
      obtain ⟨kc, hkc, -⟩ := Vm.findClass_spec e1
      exact ⟨c, fun _ _ => ⟨k, comp, e3, e4, e5, fun _ => ⟨fun h => by omega, fun h => by omega, fun h => by omega, fun _ => e1, kc, hkc⟩⟩⟩
  · exact ⟨0, fun h1 h2 => absurd ⟨h1, h2⟩ h⟩
theorem z_nm_in : ∀ u ∈ z_nm, Cond.methodLinkNest u.1 u.2.1 u.2.2.1 u.2.2.2 ∈ lw_tbl := by decide +kernel
theorem z_nf_in : ∀ u ∈ z_nf, Cond.fieldLinkNest u.1 u.2.1 u.2.2.1 u.2.2.2.1 u.2.2.2.2.1 u.2.2.2.2.2 ∈ lw_tbl := by decide +kernel
theorem z_world {args : Array Value} {s : State} {b L : Nat} {xs : Nat → Int32} (hL : L ≤ 3072) (hgv : (Jvm.Cond.and given_1 narrow_1).before args s = true) (hts : ∀ w ∈ lw_tbl, w.before args s = true) (hX : va_X b L xs s s.heap) (hbl : b < s.heap.size) :
    ∃ w : z_M, z_K w s.heap s ∧ z_Rel w s.heap (z_h0 L xs) s.heap ∧ w.2.2.2.1 4 = b := by
  have h1 : ∀ k : Nat, ∃ (p : ClassId × (Nat → Nat)), ∀ q : vw_C, vwCl[k]? = some q → u_Kn s q.1 q.2.1 q.2.2 p.1 p.2 := by
    intro k
    cases hk : vwCl[k]? with
    | none => exact ⟨(0, fun _ => 0), fun q h => by cases h⟩
    | some q =>
      obtain ⟨cC, iS, h⟩ := u_known (C := q.1) (T := q.2.1) (N := q.2.2) (n := q.2.2) hts (fun u hu => (List.mem_filter.mp (z_lays k q hk u hu)).1) (hts _ (z_instN k q hk))
      exact ⟨(cC, iS), fun q' h' => by cases h'; exact h⟩
  obtain ⟨dc, hdc⟩ : ∃ f : Nat → ClassId × (Nat → Nat), ∀ k q, vwCl[k]? = some q → u_Kn s q.1 q.2.1 q.2.2 (f k).1 (f k).2 := ⟨fun k => Classical.choose (h1 k), fun k => Classical.choose_spec (h1 k)⟩
  have h2 := z_arrs hts
  obtain ⟨da, hda⟩ : ∃ f : Nat → ClassId, ∀ t, 20 ≤ t → t ≤ 26 → ∃ (kA : Class) (comp : ClassId), s.vm.classes[f t]? = some kA ∧ kA.kind = .array comp (z_el t) ∧ s.vm.findClass ("[" ++ (z_el t).toString) = some (f t) ∧ (23 ≤ t → (t = 23 → s.vm.findClass ("[" ++ (z_el 20).toString) = some comp) ∧ (t = 24 → s.vm.findClass ("[" ++ (z_el 21).toString) = some comp) ∧ (t = 25 → s.vm.findClass RX7 = some comp) ∧ (t = 26 → s.vm.findClass RX5 = some comp) ∧ ∃ kc : Class, s.vm.classes[comp]? = some kc) := ⟨fun k => Classical.choose (h2 k), fun k => Classical.choose_spec (h2 k)⟩
  have h3 := z_stat hgv hts L xs
  obtain ⟨t0, z0, v0⟩ := h3 0 (by omega)
  obtain ⟨t1, z1, v1⟩ := h3 1 (by omega)
  obtain ⟨t2, z2, v2⟩ := h3 2 (by omega)
  obtain ⟨t3, z3, v3⟩ := h3 3 (by omega)
  have v4 : va_T .int b L (fun j => .int (xs j)) (fun q => s.heap.size ≤ q) s s.heap := by
    obtain ⟨scr, e1, e2, e3, e4, e5⟩ := hX
    exact ⟨scr, e1, e2, e3, by omega, by rw [e4], e5, by omega⟩
  obtain ⟨sa, a0, a1, a2, a3, a4⟩ : ∃ sa : Nat → Nat, sa 0 = t0 ∧ sa 1 = t1 ∧ sa 2 = t2 ∧ sa 3 = t3 ∧ sa 4 = b := ⟨fun k => if k = 0 then t0 else if k = 1 then t1 else if k = 2 then t2 else if k = 3 then t3 else b, rfl, rfl, rfl, rfl, rfl⟩
  refine ⟨(fun k => (dc k).1, fun k => (dc k).2, da, sa, z_sN L, z_sV xs), ⟨hdc, ?_, ?_, ?_, ?_, ?_, ?_, ?_, ?_⟩, ⟨Nat.le_refl 5, ?_, fun q _ => rfl, fun a ha => ?_, fun a ha => ?_, fun a h5 h6 => ?_⟩, a4⟩
  · intro t g1 g2
    obtain ⟨kA, comp, e1, e2, e3, e4⟩ := hda t g1 g2
    refine ⟨kA, comp, e1, e2, e3, fun g3 => ?_⟩
    obtain ⟨f3, f4, f5, f6, kc, hkc⟩ := e4 g3
    refine ⟨?_, kc, hkc⟩
    rcases (show t = 23 ∨ t = 24 ∨ t = 25 ∨ t = 26 by omega) with rfl | rfl | rfl | rfl
    · obtain ⟨_, _, _, _, e3', _⟩ := hda 20 (by omega) (by omega)
      exact Option.some.inj ((f3 rfl).symm.trans e3')
    · obtain ⟨_, _, _, _, e3', _⟩ := hda 21 (by omega) (by omega)
      exact Option.some.inj ((f4 rfl).symm.trans e3')
    · exact Option.some.inj ((f5 rfl).symm.trans (hdc 7 _ rfl).2.1)
    · exact Option.some.inj ((f6 rfl).symm.trans (hdc 5 _ rfl).2.1)
  · intro a ha
    rcases (show a = 0 ∨ a = 1 ∨ a = 2 ∨ a = 3 ∨ a = 4 by omega) with rfl | rfl | rfl | rfl | rfl
    · show va_T .int (sa 0) _ _ _ s s.heap; rw [a0]; exact v0
    · show va_T .int (sa 1) _ _ _ s s.heap; rw [a1]; exact v1
    · show va_T .int (sa 2) _ _ _ s s.heap; rw [a2]; exact v2
    · show va_T .int (sa 3) _ _ _ s s.heap; rw [a3]; exact v3
    · show va_T .int (sa 4) _ _ _ s s.heap; rw [a4]; exact v4
  · intro k hk
    rcases (show k = 0 ∨ k = 1 ∨ k = 2 ∨ k = 3 by omega) with rfl | rfl | rfl | rfl
    · show va_Z _ _ _ (.ref (sa 0)) _ s s.heap; rw [a0]; exact z0
    · show va_Z _ _ _ (.ref (sa 1)) _ s s.heap; rw [a1]; exact z1
    · show va_Z _ _ _ (.ref (sa 2)) _ s s.heap; rw [a2]; exact z2
    · show va_Z _ _ _ (.ref (sa 3)) _ s s.heap; rw [a3]; exact z3
  · exact fun u hu => va_Nw.of rfl (hts _ (z_nm_in u hu))
  · exact fun u hu => va_Nw.of rfl (hts _ (z_nf_in u hu))
  · intro t g1 g2
    rcases (show t = 23 ∨ t = 24 ∨ t = 25 ∨ t = 26 by omega) with rfl | rfl | rfl | rfl
    · exact hts (Cond.arrayOver (.array .int)) (by decide +kernel)
    · exact hts (Cond.arrayOver (.array .byte)) (by decide +kernel)
    · exact hts (Cond.arrayOver (.object "BalladSheets$Song")) (by decide +kernel)
    · exact hts (Cond.arrayOver (.object "BalladSheets$Sheet")) (by decide +kernel)
  · exact va_Nw.of rfl (hts (.castable "[I" "java/lang/Cloneable") (by decide +kernel))
  · exact va_Nw.of rfl (hts (.castable "[B" "java/lang/Cloneable") (by decide +kernel))
  · show s.heap.size + 5 = s.heap.size + 5; rfl
  · have e : (if a < 5 then (19, z_sN L a) else (99, 0)) = (19, z_sN L a) := if_pos ha
    refine ⟨?_, ?_, fun j => if_pos ha⟩
    · show (if a < 5 then (19, z_sN L a) else (99, 0)).1 = 19; rw [e]
    · show (if a < 5 then (19, z_sN L a) else (99, 0)).2 = _; rw [e]
  · have h5 : 5 ≤ a := ha
    show (if a < 5 then (19, z_sN L a) else (99, 0)).1 = 99
    rw [if_neg (by omega)]
  · have h7 : a < 5 := h6
    omega
