section Fms
variable {h : z_Hp} (F : Nat) (x1 x2 x3 x4 x5 : Int32)
theorem t64 {c : Nat} (hc : c < 2147483648) : (nI c).toInt64 = Int64.ofNat c := by
  rw [fa_eq64, Int32.toInt_toInt64, toI_n hc, Int64.toInt_ofNat_of_lt (by omega)]
def fS (V : Nat → Nat → Nat) (D : Nat) (y : Nat → Nat) (q s : Nat) : Nat := if D.testBit s = true then (lc (fun t => V t s) (fun t => D.testBit t && ab y t s) q).1 else 0
def fP (V : Nat → Nat → Nat) (D : Nat) (y : Nat → Nat) (q s : Nat) : Nat := if D.testBit s = true then cf (lc (fun t => V t s) (fun t => D.testBit t && ab y t s) q).2 else 1
theorem m_fL47 (I : Ifx h) (hF : 5000 ≤ F) {q D : Nat} {y : Nat → Nat} {V : Nat → Nat → Nat} (hq : q ≤ 20) (h2 : hI h 46 26 = nI q) (hD : D < 1048576) (hy : ∀ v, v < q → hI h 80 v = nI (y v) ∧ y v ≤ 1999) {sg : Nat → Nat} (h67 : ∀ v, v < q → hI h 67 v = nI (sg v)) (hV : ∀ t s, V t s ≤ 120) (hc : ∀ k, ChJ h k → ∀ t s, t < q → s < q → D.testBit t = true → D.testBit s = true → Wp (c_X10_changesOf F 46 (nI (sg t)) (nI (sg s)) k) (fun r => r.1 = nI (V t s) ∧ ChI Am k r.2)) (j0 : hJ h 46 3 = 1) : Wp (c_X10_family_L47 F 46 (nI D) F 0 0 h) (fun r => r.1 = nI (gs (· + ·) 0 (fS V D y q) q) ∧ ChJ h r.2 ∧ hJ r.2 46 3 = Int64.ofNat (gs (· * ·) 1 (fP V D y q) q)) := by
  refine Wp.loop (L := fun m (u : Int32 × Int32 × z_Hp) => c_X10_family_L47 F 46 (nI D) m u.1 u.2.1 u.2.2) (N := q) (fun s u => u.1 = nI (gs (· + ·) 0 (fS V D y q) s) ∧ u.2.1 = nI s ∧ ChJ h u.2.2 ∧ hJ u.2.2 46 3 = Int64.ofNat (gs (· * ·) 1 (fP V D y q) s)) (fun m s u hs hP ih => ?_) (fun m u hP => ?_) F (0, 0, h) (by omega) ⟨rfl, rfl, ChJ.refl _, j0⟩
  · obtain ⟨u1, u2, g⟩ := u
    obtain ⟨e1, e2, e3, e4⟩ := hP
    dsimp only at e1 e2 e3 e4 ⊢
    subst e1 e2
    have Ig := e3.fx I
    have g26 : hI g 46 26 = nI q := (e3.1 46 26 (by unfold Am; omega)).trans h2
    have nx : ∀ (l : Nat × Nat) g', ChI Am g g' → l.1 ≤ 120 → l.2 ≤ 20 → fS V D y q s = (if l.2 = 0 then 0 else l.1) → fP V D y q s = cf l.2 → Wp (lt_ (fun (x56 : Int32) (h57 : z_Hp) => (lt_ (nI (gs (· + ·) 0 (fS V D y q) s) + x56) (fun x58 => (if hT h57 46 = 10 then (lt_ (fun (y60 : Int64) (h61 : z_Hp) => (if hT h61 46 = 10 then (lt_ (sJ h61 46 3 ((hJ h57 46 3) * y60)) (fun h62 => (lt_ (nI s + 1) (fun x63 => (c_X10_family_L47 F 46 (nI D) m x58 x63 h62))))) else none)) (fun (j223_59 : Int64 → z_Hp → Option (Int32 × z_Hp)) => (if 0 ≤ lr l then (j223_59 ((nI l.2 : Int32).toInt64) h57) else (j223_59 1 h57)))) else none)))) (fun (j204_55 : Int32 → z_Hp → Option (Int32 × z_Hp)) => (if 0 ≤ lr l then (j204_55 (lr l) g') else (j204_55 0 g')))) (fun r => r.1 = nI (gs (· + ·) 0 (fS V D y q) q) ∧ ChJ h r.2 ∧ hJ r.2 46 3 = Int64.ofNat (gs (· * ·) 1 (fP V D y q) q)) := fun l g' d l1 l2 eS eP => by
      have e5 := e3.ch d
      have I' := e5.fx I
      have j5 : hJ g' 46 3 = Int64.ofNat (gs (· * ·) 1 (fP V D y q) s) := (d.J 46 3).trans e4
      refine Wp.lj (fun jA hjA => ?_)
      have fin : ∀ (a c : Nat) (z : Int64), a = fS V D y q s → c = fP V D y q s → z = Int64.ofNat c → Wp (lt_ (sJ g' 46 3 (hJ g' 46 3 * z)) (fun h62 => (lt_ (nI s + 1) (fun x63 => (c_X10_family_L47 F 46 (nI D) m (nI (gs (· + ·) 0 (fS V D y q) s) + nI a) x63 h62))))) (fun r => r.1 = nI (gs (· + ·) 0 (fS V D y q) q) ∧ ChJ h r.2 ∧ hJ r.2 46 3 = Int64.ofNat (gs (· * ·) 1 (fP V D y q) q)) := fun a c z ha hc' hz => by
        refine Wp.ltH (Wp.ltI ?_)
        rw [j5, hz, ← Int64.ofNat_mul, nI_add, nI_1 s]
        refine ih (nI (gs (· + ·) 0 (fS V D y q) s + a), nI (s + 1), sJ g' 46 3 (Int64.ofNat (gs (· * ·) 1 (fP V D y q) s * c))) ⟨by rw [ha]; rfl, rfl, e5.set, ?_⟩
        dsimp only
        rw [hJ_sJ, if_pos ⟨rfl, rfl⟩, hc']; rfl
      by_cases c0 : l.2 = 0
      · have el : lr l = -9 := if_pos c0
        rw [el]
        refine Wp.ifF nn9 ?_
        rw [hjA]
        refine Wp.ltI (Wp.ifT (fT46 I') (Wp.lj (fun jB hjB => ?_)))
        rw [el]
        refine Wp.ifF nn9 ?_
        rw [hjB]
        exact Wp.ifT (fT46 I') (fin 0 1 1 (by rw [eS, if_pos c0]) (by rw [eP, c0]; rfl) rfl)
      · have el : lr l = nI l.1 := if_neg c0
        rw [el]
        refine Wp.ifT (nge (by omega)) ?_
        rw [hjA]
        refine Wp.ltI (Wp.ifT (fT46 I') (Wp.lj (fun jB hjB => ?_)))
        rw [el]
        refine Wp.ifT (nge (by omega)) ?_
        rw [hjB]
        exact Wp.ifT (fT46 I') (fin l.1 l.2 _ (by rw [eS, if_neg c0]) (by rw [eP]; exact (if_neg c0).symm) (t64 (by omega)))
    rw [c_X10_family_L47]
    refine Wp.ifT (fT46 Ig) (Wp.ifF (by rw [g26]; exact nI_ge hs (by omega)) ?_)
    by_cases cm : D.testBit s = true
    · refine m_fL66 F Ig hF (V := V) hq g26 hs hD cm (y := y) (fun v hv => by rw [e3.1 80 v (by unfold Am; omega)]; exact hy v hv) (sg := sg) (fun v hv => by rw [e3.1 67 v (by unfold Am; omega)]; exact h67 v hv) hV (fun k ck t ht hm => hc k (e3.ch ck) t s ht hs hm cm) _ _ (fun g' d => ?_)
      obtain ⟨l1, l2⟩ := lc_bd (v := fun t => V t s) (p := fun t => D.testBit t && ab y t s) (n := q) (B := 120) (fun k _ => hV _ _)
      refine nx (lc (fun t => V t s) (fun t => D.testBit t && ab y t s) q) g' d l1 (by omega) ?_ (if_pos cm)
      unfold fS
      rw [if_pos cm]
      by_cases c0 : (lc (fun t => V t s) (fun t => D.testBit t && ab y t s) q).2 = 0
      · rw [if_pos c0]
        rcases lc_sp (fun t => V t s) (fun t => D.testBit t && ab y t s) q with ⟨a1, _⟩ | ⟨a1, _⟩
        · rw [a1]
        · omega
      · rw [if_neg c0]
    · obtain ⟨F1, hF1⟩ : ∃ F1, F = F1 + 1 := ⟨F - 1, by omega⟩
      have go := nx (0, 0) g (ChI.refl _ _) (Nat.zero_le _) (Nat.zero_le _) (if_neg cm) (if_neg cm)
      have st : ∀ (K : Int32 → Int32 → z_Hp → Option (Int32 × z_Hp)) (x : Int32) {P : Int32 × z_Hp → Prop}, Wp (K (-9) 0 g) P → Wp (c_X10_family_L66 F 46 (nI D) x (nI s) K F (-9) 0 0 g) P := fun K x {P} w => by
        have : Wp (c_X10_family_L66 F 46 (nI D) x (nI s) K (F1 + 1) (-9) 0 0 g) P := by
          rw [c_X10_family_L66]
          exact Wp.ifT (fT46 Ig) (Wp.ifF (by rw [g26]; exact nI_ge (a := 0) (by omega) (by omega)) (Wp.cIe (m_has F (by omega) (by omega)) (Wp.ifT (by rw [if_neg cm]) w)))
        rw [← hF1] at this
        exact this
      exact st _ _ go
  · obtain ⟨u1, u2, g⟩ := u
    obtain ⟨e1, e2, e3, e4⟩ := hP
    dsimp only at e1 e2 e3 e4 ⊢
    subst e1 e2
    have Ig := e3.fx I
    have g26 : hI g 46 26 = nI q := (e3.1 46 26 (by unfold Am; omega)).trans h2
    rw [c_X10_family_L47]
    exact Wp.ifT (fT46 Ig) (Wp.ifT (by rw [g26]; exact nI_le (Nat.le_refl _) (by omega)) (Wp.ret ⟨rfl, e3, e4⟩))
/-- the two orders meet -/
theorem fam_eq {y : Nat → Nat} {D q n : Nat} {b r : Nat → Nat} (O : Fo y (fun t => D.testBit t) q n b) (hr : ∀ j, j < n → r (b j) = j) (V : Nat → Nat → Nat) : gs (· + ·) 0 (fun i => (lc (fun j => V (b j) (b i)) (fun _ => true) i).1) n = gs (· + ·) 0 (fS V D y q) q ∧ gs (· * ·) 1 (fun i => cf (lc (fun j => V (b j) (b i)) (fun _ => true) i).2) n = gs (· * ·) 1 (fP V D y q) q := by
  have hb : ∀ j, j < n → b j < q ∧ D.testBit (b j) = true ∧ r (b j) = j := fun j hj => ⟨(O.1 j hj).1, (O.1 j hj).2, hr j hj⟩
  have hr' : ∀ t, t < q → D.testBit t = true → b (r t) = t ∧ r t < n := fun t ht hm => by
    obtain ⟨j, j1, j2⟩ := O.2.2 t ht hm
    have := hr j j1
    rw [j2] at this
    rw [this]
    exact ⟨j2, j1⟩
  have key : ∀ i, i < n → lc (fun j => V (b j) (b i)) (fun _ => true) i = lc (fun t => V t (b i)) (fun t => D.testBit t && ab y t (b i)) q := fun i hi => by
    rw [lc_re (m := fun t => D.testBit t) hb (fun t ht hm => (hr' t ht hm).1) (fun t => V t (b i)) (show i ≤ n by omega)]
    refine lc_cg (fun t ht => ?_) (fun _ _ _ => rfl)
    cases hm : D.testBit t with
    | false => rfl
    | true =>
      obtain ⟨r1, r2⟩ := hr' t ht hm
      rw [Bool.true_and, Bool.true_and]
      by_cases c : r t < i
      · have := O.2.1 (r t) i c hi
        rw [r1] at this
        rw [decide_eq_true c, ab_t.mpr this]
      · rw [decide_eq_false c]
        cases z : ab y t (b i) with
        | false => rfl
        | true =>
          have za := ab_t.mp z
          by_cases e : r t = i
          · rw [← e, r1] at za
            unfold aq at za
            omega
          · have := O.2.1 i (r t) (by omega) r2
            rw [r1] at this
            unfold aq at za this
            omega
  constructor
  · rw [gs_cg (g := fun j => fS V D y q (b j)) (fun i hi => by rw [key i hi]; exact (if_pos (hb i hi).2.1).symm), gs_rk Nat.add_assoc Nat.add_comm Nat.add_zero hb (fun t ht hm => (hr' t ht hm).1) (fS V D y q) n (Nat.le_refl _)]
    refine gs_cg (fun t ht => ?_)
    by_cases c : D.testBit t = true
    · rw [if_pos ⟨c, (hr' t ht c).2⟩]
    · rw [if_neg (fun z => c z.1)]; exact (if_neg c).symm
  · rw [gs_cg (g := fun j => fP V D y q (b j)) (fun i hi => by rw [key i hi]; exact (if_pos (hb i hi).2.1).symm), gs_rk Nat.mul_assoc Nat.mul_comm Nat.mul_one hb (fun t ht hm => (hr' t ht hm).1) (fP V D y q) n (Nat.le_refl _)]
    refine gs_cg (fun t ht => ?_)
    by_cases c : D.testBit t = true
    · rw [if_pos ⟨c, (hr' t ht c).2⟩]
    · rw [if_neg (fun z => c z.1)]; exact (if_neg c).symm
theorem fam_bd {f : Nat → Nat} (f0 : f 0 = 1) : ∀ n, n ≤ 9 → (∀ k, k ≤ n → f k ≤ 9) → gs (· * ·) 1 f (n + 1) ≤ 9 ^ n
  | 0, _, _ => by show 1 * f 0 ≤ 1; rw [f0]; decide
  | n + 1, hn, hf => by
    show gs (· * ·) 1 f (n + 1) * f (n + 1) ≤ 9 ^ n * 9
    exact Nat.mul_le_mul (fam_bd f0 n (by omega) (fun k hk => hf k (by omega))) (hf (n + 1) (Nat.le_refl _))
end Fms
