section Lst
variable {h : z_Hp} (F : Nat) (x1 x2 x3 x4 x5 : Int32)
/-- the least of those that p takes, and how many have it -/
def lc (v : Nat → Nat) (p : Nat → Bool) : Nat → Nat × Nat
  | 0 => (0, 0)
  | k + 1 => if p k = true then (if (lc v p k).2 = 0 ∨ v k < (lc v p k).1 then (v k, 1) else if v k = (lc v p k).1 then ((lc v p k).1, (lc v p k).2 + 1) else lc v p k) else lc v p k
theorem lc_cg {v w : Nat → Nat} {p r : Nat → Bool} : ∀ {n : Nat}, (∀ k, k < n → p k = r k) → (∀ k, k < n → p k = true → v k = w k) → lc v p n = lc w r n
  | 0, _, _ => rfl
  | n + 1, c, d => by
    show (if p n = true then _ else lc v p n) = (if r n = true then _ else lc w r n)
    rw [lc_cg (fun k hk => c k (by omega)) (fun k hk => d k (by omega)), ← c n (by omega)]
    by_cases x : p n = true
    · rw [if_pos x, if_pos x, d n (by omega) x]
    · rw [if_neg x, if_neg x]
theorem lc_sp (v : Nat → Nat) (p : Nat → Bool) : ∀ n, (lc v p n = (0, 0) ∧ ∀ k, k < n → ¬ p k = true) ∨ (0 < (lc v p n).2 ∧ (∃ k, k < n ∧ p k = true ∧ v k = (lc v p n).1) ∧ (∀ k, k < n → p k = true → (lc v p n).1 ≤ v k) ∧ (lc v p n).2 = fb_ct (fun k => p k && decide (v k = (lc v p n).1)) n)
  | 0 => Or.inl ⟨rfl, fun k hk => by omega⟩
  | n + 1 => by
    have E : lc v p (n + 1) = if p n = true then (if (lc v p n).2 = 0 ∨ v n < (lc v p n).1 then (v n, 1) else if v n = (lc v p n).1 then ((lc v p n).1, (lc v p n).2 + 1) else lc v p n) else lc v p n := rfl
    by_cases x : p n = true
    · rw [if_pos x] at E
      right
      rcases lc_sp v p n with ⟨a1, a2⟩ | ⟨a1, ⟨k0, k1, k2, k3⟩, a3, a4⟩
      · rw [a1, if_pos (Or.inl rfl)] at E
        rw [E]
        refine ⟨Nat.one_pos, ⟨n, by omega, x, rfl⟩, fun k hk hp => ?_, ?_⟩
        · by_cases e : k = n
          · rw [e]; exact Nat.le_refl _
          · exact absurd hp (a2 k (by omega))
        · rw [fb_ct_succ, x, Bool.true_and, if_pos (decide_eq_true rfl), fb_ct_cong (q := fun _ => false) (fun k hk => by
            cases y : p k with
            | true => exact absurd y (a2 k hk)
            | false => rfl)]
          have z : ∀ n, fb_ct (fun _ => false) n = 0 := fun n => by
            induction n with
            | zero => rfl
            | succ n ih => rw [fb_ct_succ, ih]; rfl
          rw [z]
      · by_cases c1 : v n < (lc v p n).1
        · rw [if_pos (Or.inr c1)] at E
          rw [E]
          refine ⟨Nat.one_pos, ⟨n, by omega, x, rfl⟩, fun k hk hp => ?_, ?_⟩
          · by_cases e : k = n
            · rw [e]; exact Nat.le_refl _
            · have := a3 k (by omega) hp
              show v n ≤ v k
              omega
          · have z : ∀ m, m ≤ n → fb_ct (fun k => p k && decide (v k = v n)) m = 0 := fun m hm => by
              induction m with
              | zero => rfl
              | succ m ih =>
                rw [fb_ct_succ, ih (by omega)]
                by_cases y : p m = true
                · have := a3 m (by omega) y
                  rw [y, Bool.true_and, decide_eq_false (by omega)]; rfl
                · rw [if_neg (fun t => y (by rw [Bool.and_eq_true] at t; exact t.1))]
            show 1 = fb_ct (fun k => p k && decide (v k = v n)) (n + 1)
            rw [fb_ct_succ, z n (Nat.le_refl _), x, Bool.true_and, if_pos (decide_eq_true rfl)]
        · rw [if_neg (by omega)] at E
          by_cases c2 : v n = (lc v p n).1
          · rw [if_pos c2] at E
            rw [E]
            refine ⟨Nat.succ_pos _, ⟨k0, by omega, k2, k3⟩, fun k hk hp => ?_, ?_⟩
            · by_cases e : k = n
              · rw [e]; show (lc v p n).1 ≤ v n; omega
              · exact a3 k (by omega) hp
            · show (lc v p n).2 + 1 = fb_ct (fun k => p k && decide (v k = (lc v p n).1)) (n + 1)
              rw [fb_ct_succ, ← a4, x, Bool.true_and, if_pos (decide_eq_true c2)]
          · rw [if_neg c2] at E
            rw [E]
            refine ⟨a1, ⟨k0, by omega, k2, k3⟩, fun k hk hp => ?_, ?_⟩
            · by_cases e : k = n
              · rw [e]; omega
              · exact a3 k (by omega) hp
            · rw [fb_ct_succ, ← a4, x, Bool.true_and, if_neg (by rw [decide_eq_true_iff]; exact c2)]; rfl
    · rw [if_neg x] at E
      rw [E]
      rcases lc_sp v p n with ⟨a1, a2⟩ | ⟨a1, ⟨k0, k1, k2, k3⟩, a3, a4⟩
      · left
        refine ⟨a1, fun k hk => ?_⟩
        by_cases e : k = n
        · rw [e]; exact x
        · exact a2 k (by omega)
      · right
        refine ⟨a1, ⟨k0, by omega, k2, k3⟩, fun k hk hp => ?_, ?_⟩
        · by_cases e : k = n
          · rw [e] at hp; exact absurd hp x
          · exact a3 k (by omega) hp
        · rw [fb_ct_succ, ← a4, if_neg (fun t => x (by rw [Bool.and_eq_true] at t; exact t.1))]; rfl
theorem ct_gs (p : Nat → Bool) : ∀ n, fb_ct p n = gs (· + ·) 0 (fun k => if p k = true then 1 else 0) n
  | 0 => rfl
  | n + 1 => by
    show fb_ct p n + (if p n = true then 1 else 0) = gs (· + ·) 0 (fun k => if p k = true then 1 else 0) n + (if p n = true then 1 else 0)
    rw [ct_gs p n]
theorem lc_re {q n : Nat} {m : Nat → Bool} {b r : Nat → Nat} (hb : ∀ j, j < n → b j < q ∧ m (b j) = true ∧ r (b j) = j) (hr : ∀ t, t < q → m t = true → b (r t) = t) (v : Nat → Nat) {i : Nat} (hi : i ≤ n) : lc (fun j => v (b j)) (fun _ => true) i = lc v (fun t => m t && decide (r t < i)) q := by
  have ct : ∀ L, fb_ct (fun j => true && decide (v (b j) = L)) i = fb_ct (fun t => (m t && decide (r t < i)) && decide (v t = L)) q := fun L => by
    rw [ct_gs, ct_gs]
    have := gs_rk (op := (· + ·)) (e := 0) Nat.add_assoc Nat.add_comm Nat.add_zero hb hr (fun t => if v t = L then 1 else 0) i hi
    rw [gs_cg (g := fun j => if v (b j) = L then 1 else 0) (fun k _ => ?_), this]
    · refine gs_cg (fun k _ => ?_)
      by_cases c : m k = true ∧ r k < i
      · rw [if_pos c, c.1, decide_eq_true c.2, Bool.true_and, Bool.true_and]
        by_cases d : v k = L
        · rw [if_pos d, if_pos (decide_eq_true d)]
        · rw [if_neg d, if_neg (by rw [decide_eq_true_iff]; exact d)]
      · rw [if_neg c, if_neg (fun t => c (by rw [Bool.and_eq_true, Bool.and_eq_true, decide_eq_true_iff] at t; exact t.1))]
    · rw [Bool.true_and]
      by_cases d : v (b k) = L
      · rw [if_pos d, if_pos (decide_eq_true d)]
      · rw [if_neg d, if_neg (by rw [decide_eq_true_iff]; exact d)]
  have pq : ∀ t, (m t && decide (r t < i)) = true ↔ m t = true ∧ r t < i := fun t => by rw [Bool.and_eq_true, decide_eq_true_iff]
  rcases lc_sp (fun j => v (b j)) (fun _ => true) i with ⟨a1, a2⟩ | ⟨a1, ⟨k0, k1, k2, k3⟩, a3, a4⟩
  · rcases lc_sp v (fun t => m t && decide (r t < i)) q with ⟨c1, c2⟩ | ⟨c1, ⟨t0, t1, t2, t3⟩, c3, c4⟩
    · rw [a1, c1]
    · exact absurd rfl (a2 (r t0) ((pq t0).mp t2).2)
  · rcases lc_sp v (fun t => m t && decide (r t < i)) q with ⟨c1, c2⟩ | ⟨c1, ⟨t0, t1, t2, t3⟩, c3, c4⟩
    · obtain ⟨b1, b2, b3⟩ := hb k0 (by omega)
      exact absurd ((pq _).mpr ⟨b2, by omega⟩) (c2 (b k0) b1)
    · have e1 : (lc (fun j => v (b j)) (fun _ => true) i).1 = (lc v (fun t => m t && decide (r t < i)) q).1 := by
        obtain ⟨b1, b2, b3⟩ := hb k0 (by omega)
        have u1 := c3 (b k0) b1 ((pq _).mpr ⟨b2, by omega⟩)
        have tt := (pq t0).mp t2
        have u2 := a3 (r t0) tt.2 rfl
        rw [hr t0 t1 tt.1] at u2
        omega
      have e2 : (lc (fun j => v (b j)) (fun _ => true) i).2 = (lc v (fun t => m t && decide (r t < i)) q).2 := by
        rw [a4, c4, e1]; exact ct _
      exact Prod.ext e1 e2
theorem dist_same {g g' : Nat → Int32} {n : Nat} (e : ∀ k, k < n → g' k = g k) : dist g n g' n = 0 := by
  unfold dist
  rw [tkn_cg e (Nat.le_refl _)]
  refine ed_diag (n := tkn g n) (fun v hv => ?_) _ (Nat.le_refl _)
  obtain ⟨t1, t2, t3⟩ := tp_ok hv
  have e1 : tp g' n v = tp g n v := nth_at (by rw [tkb_cg e t1]; exact t2) (show tkn g' (tp g n v) = v by rw [tkn_cg e (by omega)]; exact t3) n t1
  have e2 : wsz g' n (tp g n v) = wsz g n (tp g n v) := by
    unfold wsz
    rw [e _ t1, run_cg e (n - tp g n v) (tp g n v) (by omega)]
  have wl := wsz_le g (n := n) (k := tp g n v) (by omega)
  unfold tokeq
  rw [e1, e2]
  exact decide_eq_true ⟨rfl, fun k hk => (e _ (by omega)).symm⟩
theorem okN_h {a : Nat} (ha : 94 ≤ a) : okN (some a) = true := by
  unfold okN
  exact decide_eq_true (by omega)
theorem x_cF {ow : Ow} (o : OwOK ow) (I : Ifx h) (hF : 5000 ≤ F) {t s s1 s2 a1 n1 a2 n2 : Nat} {g1 g2 : Nat → Int32} (ht : t < 20) (hs : s < 20) (r1 : hR h 33 t = some a1) (r2 : hR h 33 s = some a2) (A0 : sgAt ow h s1 a1 n1 g1) (B0 : sgAt ow h s2 a2 n2 g2) (l1 : n1 ≤ 60) (l2 : n2 ≤ 60) : Wp (c_X0_changesFrom F 28 (nI t) (nI s) h) (fun r => r.1 = nI (dist g1 n1 g2 n2) ∧ ChI (fun a _ => a = 29) h r.2) := by
  have oT : okA h 33 25 (nI t) = true := okA_n (fT33 I) (fN33 I) (by omega) (by decide)
  have oS : okA h 33 25 (nI s) = true := okA_n (fT33 I) (fN33 I) (by omega) (by decide)
  unfold c_X0_changesFrom
  rw [ix_n (show t < 2147483648 by omega), ix_n (show s < 2147483648 by omega)]
  refine Wp.ifT (fT28 I) (Wp.ltO (Wp.rf (fR28_4 I) (Wp.ifT oT (Wp.ltO (Wp.ifT (fT28 I) (Wp.ltO (Wp.rf (fR28_4 I) (Wp.ifT oS (Wp.ltO (Wp.rs r1 (Wp.rs r2 (Wp.ifT ⟨okN_h A0.2.1, okN_h B0.2.1⟩ ?_))))))))))))
  by_cases c : a1 = a2
  · subst c
    refine Wp.ifT rfl (Wp.ret ⟨?_, ChI.refl _ _⟩)
    obtain ⟨b, X⟩ := A0.x l1
    obtain ⟨b', X'⟩ := B0.x l2
    have eb : b = b' := by have := X.2.1.symm.trans X'.2.1; cases this; rfl
    subst eb
    have en : n1 = n2 := X.2.2.2.1.symm.trans X'.2.2.2.1
    subst en
    rw [dist_same (fun k hk => (X'.2.2.2.2.2.1 k hk).symm.trans (X.2.2.2.2.2.1 k hk))]; rfl
  · refine Wp.ifF (fun y => c (by cases y; rfl)) (Wp.ifT (fT28 I) (Wp.cI ((x_chg F o I hF A0 B0 l1 l2).mono (fun r d => Wp.ret d))))
end Lst
