section Lst2
variable {h : z_Hp} (F : Nat) (x1 x2 x3 x4 x5 : Int32)
theorem lc_bd {v : Nat → Nat} {p : Nat → Bool} {n B : Nat} (hv : ∀ k, k < n → v k ≤ B) : (lc v p n).1 ≤ B ∧ (lc v p n).2 ≤ n := by
  rcases lc_sp v p n with ⟨a1, _⟩ | ⟨_, ⟨k, k1, _, k3⟩, _, a4⟩
  · rw [a1]; exact ⟨Nat.zero_le _, Nat.zero_le _⟩
  · exact ⟨by rw [← k3]; exact hv k k1, by rw [a4]; exact fb_ct_le _ _⟩
/-- one that counts once if there is none -/
def cf (c : Nat) : Nat := if c = 0 then 1 else c
def A29 (a i : Nat) : Prop := a = 29 ∨ (a = 28 ∧ i = 6)
theorem A29.ow {a i : Nat} (e : A29 a i) : a < 94 ∧ ow0 a i ∈ [124, 125] := by
  rcases e with rfl | ⟨rfl, rfl⟩
  · exact ⟨by decide, List.mem_cons_of_mem _ List.mem_cons_self⟩
  · exact ⟨by decide, List.mem_cons_self⟩
theorem x_lL25 (I : Ifx h) (hF : 5000 ≤ F) {n i : Nat} {b : Nat → Nat} {V : Nat → Nat → Nat} (n10 : n ≤ 10) (hi : i < n) (hb : ∀ j, j < n → b j < 20 ∧ hI h 31 j = nI (b j)) (hV : ∀ t s, V t s ≤ 120) (hc : ∀ k, ChI (fun a _ => a = 29) h k → ∀ i j, i < n → j < n → Wp (c_X0_changesFrom F 28 (nI (b i)) (nI (b j)) k) (fun r => r.1 = nI (V (b i) (b j)) ∧ ChI (fun a _ => a = 29) k r.2)) (x : Int32) (K : Int32 → Int32 → z_Hp → Option (Int32 × z_Hp)) {P : Int32 × z_Hp → Prop} (k : ∀ g, ChI (fun a _ => a = 29) h g → Wp (K (nI (lc (fun j => V (b j) (b i)) (fun _ => true) i).1) (nI (lc (fun j => V (b j) (b i)) (fun _ => true) i).2) g) P) : Wp (c_X0_leastSum_L25 F 28 x (nI i) K F 0 0 0 h) P := by
  refine Wp.loop (L := fun m (u : Int32 × Int32 × Int32 × z_Hp) => c_X0_leastSum_L25 F 28 x (nI i) K m u.1 u.2.1 u.2.2.1 u.2.2.2) (N := i) (fun j u => u.1 = nI (lc (fun j => V (b j) (b i)) (fun _ => true) j).1 ∧ u.2.1 = nI (lc (fun j => V (b j) (b i)) (fun _ => true) j).2 ∧ u.2.2.1 = nI j ∧ ChI (fun a _ => a = 29) h u.2.2.2) (fun m j u hj hP ih => ?_) (fun m u hP => ?_) F (0, 0, 0, h) (by omega) ⟨rfl, rfl, rfl, ChI.refl _ _⟩
  · obtain ⟨u1, u2, u3, g⟩ := u
    obtain ⟨e1, e2, e3, e4⟩ := hP
    dsimp only at e1 e2 e3 e4 ⊢
    subst e1 e2 e3
    have Ig := e4.fx I
    have oJ : okA g 31 20 (nI j) = true := okA_n (fT31 Ig) (fN31 Ig) (by omega) (by decide)
    have oI : okA g 31 20 (nI i) = true := okA_n (fT31 Ig) (fN31 Ig) (by omega) (by decide)
    have E : lc (fun j => V (b j) (b i)) (fun _ => true) (j + 1) = if (lc (fun j => V (b j) (b i)) (fun _ => true) j).2 = 0 ∨ V (b j) (b i) < (lc (fun j => V (b j) (b i)) (fun _ => true) j).1 then (V (b j) (b i), 1) else if V (b j) (b i) = (lc (fun j => V (b j) (b i)) (fun _ => true) j).1 then ((lc (fun j => V (b j) (b i)) (fun _ => true) j).1, (lc (fun j => V (b j) (b i)) (fun _ => true) j).2 + 1) else lc (fun j => V (b j) (b i)) (fun _ => true) j := if_pos rfl
    obtain ⟨l1, l2⟩ := lc_bd (v := fun j => V (b j) (b i)) (p := fun _ => true) (n := j) (B := 120) (fun k _ => hV _ _)
    have vj := hV (b j) (b i)
    rw [c_X0_leastSum_L25, nI_1 j, nI_1 (lc (fun j => V (b j) (b i)) (fun _ => true) j).2, ix_n (show j < 2147483648 by omega), ix_n (show i < 2147483648 by omega)]
    refine Wp.ifF (nI_ge hj (by omega)) (Wp.ifT (fT28 Ig) (Wp.ltO (Wp.rf (fR28_2 Ig) (Wp.ifT oJ (Wp.ifT (fT28 Ig) (Wp.ltO (Wp.rf (fR28_2 Ig) (Wp.ifT oI (Wp.ifT (fT28 Ig) ?_)))))))))
    rw [e4.1 31 j (by omega), e4.1 31 i (by omega), (hb j (by omega)).2, (hb i (by omega)).2]
    refine Wp.cI ((hc g e4 j i (by omega) hi).mono (fun r d => ?_))
    obtain ⟨r1, g'⟩ := r
    obtain ⟨d1, d2⟩ := d
    dsimp only at d1 d2 ⊢
    subst d1
    have e5 : ChI (fun a _ => a = 29) h g' := (e4.trans d2).mono (fun a i e => by rcases e with e | e <;> exact e)
    generalize lc (fun j => V (b j) (b i)) (fun _ => true) j = l at *
    generalize V (b j) (b i) = v at *
    refine Wp.lj (fun jA hjA => Wp.lj (fun jB hjB => ?_))
    have go : ∀ x y, nI (lc (fun j => V (b j) (b i)) (fun _ => true) (j + 1)).1 = x → nI (lc (fun j => V (b j) (b i)) (fun _ => true) (j + 1)).2 = y → Wp (jA x y g') P := fun x y hx hy => by
      rw [hjA]
      exact ih (x, y, nI (j + 1), g') ⟨hx.symm, hy.symm, rfl, e5⟩
    have new : (l.2 = 0 ∨ v < l.1) → Wp (jB g') P := fun c => by
      rw [hjB]
      exact go _ _ (by rw [E, if_pos c]) (by rw [E, if_pos c]; rfl)
    by_cases c0 : l.2 = 0
    · exact Wp.ifT (by rw [c0]; rfl) (new (Or.inl c0))
    · refine Wp.ifF (nI_ne0 (by omega) (by omega)) ?_
      by_cases c1 : v < l.1
      · exact Wp.ifF (nI_ge c1 (by omega)) (new (Or.inr c1))
      · refine Wp.ifT (nI_le (by omega) (by omega)) ?_
        rw [if_neg (by omega)] at E
        by_cases c2 : v = l.1
        · rw [if_pos c2] at E
          exact Wp.ifT (by rw [c2]) (Wp.ltI (go _ _ (by rw [E]) (by rw [E])))
        · rw [if_neg c2] at E
          exact Wp.ifF (fun y => c2 ((nI_eq (by omega) (by omega)).mp y)) (go _ _ (by rw [E]) (by rw [E]))
  · obtain ⟨u1, u2, u3, g⟩ := u
    obtain ⟨e1, e2, e3, e4⟩ := hP
    dsimp only at e1 e2 e3 e4 ⊢
    subst e1 e2 e3
    rw [c_X0_leastSum_L25]
    exact Wp.ifT (nI_le (Nat.le_refl _) (by omega)) (k g e4)
theorem x_least (I : Ifx h) (hF : 5000 ≤ F) {n : Nat} {b : Nat → Nat} {V : Nat → Nat → Nat} (n1 : 1 ≤ n) (n10 : n ≤ 10) (e5 : hI h 28 5 = nI n) (hb : ∀ j, j < n → b j < 20 ∧ hI h 31 j = nI (b j)) (hV : ∀ t s, V t s ≤ 120) (hc : ∀ k, ChI A29 h k → ∀ i j, i < n → j < n → Wp (c_X0_changesFrom F 28 (nI (b i)) (nI (b j)) k) (fun r => r.1 = nI (V (b i) (b j)) ∧ ChI (fun a _ => a = 29) k r.2)) : Wp (c_X0_leastSum F 28 h) (fun r => r.1 = nI (gs (· + ·) 0 (fun i => (lc (fun j => V (b j) (b i)) (fun _ => true) i).1) n) ∧ ChI A29 h r.2 ∧ hI r.2 28 6 = nI (gs (· * ·) 1 (fun i => cf (lc (fun j => V (b j) (b i)) (fun _ => true) i).2) n)) := by
  unfold c_X0_leastSum
  refine Wp.ifT (fT28 I) (Wp.ltH ?_)
  have c0 : ChI A29 h (sI h 28 6 1) := (ChI.refl _ _).set (Or.inr ⟨rfl, rfl⟩)
  refine Wp.loop (L := fun m (u : Int32 × Int32 × z_Hp) => c_X0_leastSum_L9 F 28 m u.1 u.2.1 u.2.2) (N := n - 1) (fun k u => u.1 = nI (gs (· + ·) 0 (fun i => (lc (fun j => V (b j) (b i)) (fun _ => true) i).1) (k + 1)) ∧ u.2.1 = nI (k + 1) ∧ ChI A29 h u.2.2 ∧ hI u.2.2 28 6 = nI (gs (· * ·) 1 (fun i => cf (lc (fun j => V (b j) (b i)) (fun _ => true) i).2) (k + 1))) (fun m k u hk hP ih => ?_) (fun m u hP => ?_) F (0, 1, sI h 28 6 1) (by omega) ⟨rfl, rfl, c0, by dsimp only; rw [hI_sI, if_pos ⟨rfl, rfl⟩]; rfl⟩
  · obtain ⟨u1, u2, g⟩ := u
    obtain ⟨e1, e2, e3, e4⟩ := hP
    dsimp only at e1 e2 e3 e4 ⊢
    subst e1 e2
    have Ig := e3.fx I
    rw [c_X0_leastSum_L9, nI_1 (k + 1)]
    refine Wp.ifT (fT28 Ig) (Wp.ifF (by rw [e3.1 28 5 (by unfold A29; omega), e5]; exact nI_ge (by omega) (by omega)) ?_)
    refine x_lL25 F Ig hF (n := n) (i := k + 1) (b := b) (V := V) n10 (by omega) (fun j hj => ⟨(hb j hj).1, by rw [e3.1 31 j (by unfold A29; omega)]; exact (hb j hj).2⟩) hV (fun k' ck => hc k' ((e3.trans ck).mono (fun a i e => by rcases e with e | e; exact e; exact Or.inl e))) _ _ (fun g' d => ?_)
    have e6 : ChI A29 h g' := (e3.trans d).mono (fun a i e => by rcases e with e | e; exact e; exact Or.inl e)
    have I' := e6.fx I
    refine Wp.ltI (Wp.ifT (fT28 I') (Wp.ifT (fT28 I') (Wp.ltH (Wp.ltI ?_))))
    rw [d.1 28 6 (by omega), e4, nI_add, nI_mul]
    refine ih (_, _, sI g' 28 6 (nI (gs (· * ·) 1 (fun i => cf (lc (fun j => V (b j) (b i)) (fun _ => true) i).2) (k + 1) * (lc (fun j => V (b j) (b (k + 1))) (fun _ => true) (k + 1)).2))) ⟨rfl, rfl, e6.set (Or.inr ⟨rfl, rfl⟩), ?_⟩
    dsimp only
    rw [hI_sI, if_pos ⟨rfl, rfl⟩]
    have p0 : ¬ (lc (fun j => V (b j) (b (k + 1))) (fun _ => true) (k + 1)).2 = 0 := fun y => by
      rcases lc_sp (fun j => V (b j) (b (k + 1))) (fun _ => true) (k + 1) with ⟨_, a2⟩ | ⟨a1, _⟩
      · exact a2 0 (by omega) rfl
      · omega
    show nI (_ * (lc (fun j => V (b j) (b (k + 1))) (fun _ => true) (k + 1)).2) = nI (_ * cf (lc (fun j => V (b j) (b (k + 1))) (fun _ => true) (k + 1)).2)
    unfold cf
    rw [if_neg p0]
  · obtain ⟨u1, u2, g⟩ := u
    obtain ⟨e1, e2, e3, e4⟩ := hP
    rw [show n - 1 + 1 = n by omega] at e1 e2 e4
    dsimp only at e1 e2 e3 e4 ⊢
    subst e1 e2
    have Ig := e3.fx I
    rw [c_X0_leastSum_L9]
    exact Wp.ifT (fT28 Ig) (Wp.ifT (by rw [e3.1 28 5 (by unfold A29; omega), e5]; exact nI_le (Nat.le_refl _) (by omega)) (Wp.ret ⟨rfl, e3, e4⟩))
end Lst2
