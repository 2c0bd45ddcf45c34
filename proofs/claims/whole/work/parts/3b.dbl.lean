section Dbl
variable {h : z_Hp} (F : Nat)
theorem x_clear (I : Ifx h) (hF : 5000 ≤ F) {n D : Nat} {cr : Nat → Nat} (hn : n ≤ 10) (hD : D < 1024) (hc : ∀ i, i < n → hI h 25 i = nI (cr i) ∧ cr i < 2147483648) : Wp (c_X8_clear F 20 (nI D) (nI n) h) (fun r => r.2 = h ∧ ((r.1 = 1 ∧ ∀ k, k < n → D.testBit k = false → sub_ (cr k) D = true) ∨ (r.1 = 0 ∧ ¬ ∀ k, k < n → D.testBit k = false → sub_ (cr k) D = true))) := by
  unfold c_X8_clear
  refine Wp.loop (L := fun m (u : Int32) => c_X8_clear_L2 F 20 (nI D) (nI n) m u h) (N := n) (fun t u => u = nI t ∧ ∀ k, k < t → D.testBit k = false → sub_ (cr k) D = true) (fun m t u ht hP ih => ?_) (fun m u hP => ?_) F (nI 0) (by omega) ⟨rfl, fun k hk => by omega⟩
  · obtain ⟨rfl, e⟩ := hP
    have o25 : okA h 25 20 (nI t) = true := okA_n (fT25 I) (fN25 I) (by omega) (by decide)
    rw [c_X8_clear_L2, nI_1, ix_n (show t < 2147483648 by omega)]
    refine Wp.ifF (nI_ge ht (by omega)) (Wp.cIe (x_has F (by omega) (by omega)) (Wp.lj (fun j hj => ?_)))
    have go : (∀ k, k < t + 1 → D.testBit k = false → sub_ (cr k) D = true) → Wp (j h) (fun r => r.2 = h ∧ ((r.1 = 1 ∧ ∀ k, k < n → D.testBit k = false → sub_ (cr k) D = true) ∨ (r.1 = 0 ∧ ¬ ∀ k, k < n → D.testBit k = false → sub_ (cr k) D = true))) := fun e2 => by
      rw [hj]
      exact ih (nI (t + 1)) ⟨rfl, e2⟩
    by_cases c : D.testBit t = true
    · refine Wp.ifF (by rw [if_pos c]; exact one0) (go (fun k hk e3 => ?_))
      by_cases x : k = t
      · subst x; rw [c] at e3; cases e3
      · exact e k (by omega) e3
    · refine Wp.ifT (by rw [if_neg c]) (Wp.ifT (fT20 I) (Wp.ltO (Wp.rf (fR20_4 I) (Wp.ifT o25 ?_))))
      rw [(hc t ht).1]
      by_cases c2 : sub_ (cr t) D = true
      · refine Wp.ifT ((subq (hc t ht).2 (by omega)).mpr c2) (go (fun k hk e3 => ?_))
        by_cases x : k = t
        · subst x; exact c2
        · exact e k (by omega) e3
      · refine Wp.ifF (fun y => c2 ((subq (hc t ht).2 (by omega)).mp y)) (Wp.ret ⟨rfl, Or.inr ⟨rfl, fun y => c2 (y t ht ?_)⟩⟩)
        cases x : D.testBit t with
        | true => exact absurd x c
        | false => rfl
  · obtain ⟨rfl, e⟩ := hP
    rw [c_X8_clear_L2]
    exact Wp.ifT (nI_le (Nat.le_refl n) (by omega)) (Wp.ret ⟨rfl, Or.inl ⟨rfl, e⟩⟩)
/-- the best of those that were looked at, from the greatest down -/
def bb (ok : Nat → Bool) (N : Nat) : Nat → Nat
  | 0 => N - 1
  | i + 1 => if ok (N - 1 - i) = true ∧ ¬ pcn (bb ok N i) 20 < pcn (N - 1 - i) 20 then N - 1 - i else bb ok N i
theorem bb_r (ok : Nat → Bool) {N : Nat} (hN : 0 < N) : ∀ i, i ≤ N → bb ok N i < N ∧ N - 1 - i ≤ bb ok N i ∧ (0 < i → N - i ≤ bb ok N i)
  | 0, _ => ⟨by show N - 1 < N; omega, by show N - 1 - 0 ≤ N - 1; omega, fun h => by omega⟩
  | i + 1, hi => by
    obtain ⟨h1, h2, h3⟩ := bb_r ok hN i (by omega)
    show (if ok (N - 1 - i) = true ∧ ¬ pcn (bb ok N i) 20 < pcn (N - 1 - i) 20 then N - 1 - i else bb ok N i) < N ∧ N - 1 - (i + 1) ≤ (if ok (N - 1 - i) = true ∧ ¬ pcn (bb ok N i) 20 < pcn (N - 1 - i) 20 then N - 1 - i else bb ok N i) ∧ (_ → N - (i + 1) ≤ (if ok (N - 1 - i) = true ∧ ¬ pcn (bb ok N i) 20 < pcn (N - 1 - i) 20 then N - 1 - i else bb ok N i))
    split
    · exact ⟨by omega, by omega, fun _ => by omega⟩
    · exact ⟨by omega, by omega, fun _ => by omega⟩
theorem pcI {a b : Nat} : nI (pcn a 20) < nI (pcn b 20) ↔ pcn a 20 < pcn b 20 := by
  have h1 : pcn a 20 ≤ 20 := fb_ct_le _ _
  have h2 : pcn b 20 ≤ 20 := fb_ct_le _ _
  exact nI_ltI (by omega) (by omega)
theorem x_fL82 (I : Ifx h) (hF : 5000 ≤ F) {n su : Nat} {cr : Nat → Nat} (hn : n ≤ 10) (hsu : su < 2147483648) (hc : ∀ i, i < n → hI h 25 i = nI (cr i) ∧ cr i < 2147483648) {ok : Nat → Bool} (hok : ∀ D, D < 2 ^ n → (ok D = true ↔ (sub_ su D = true ∧ ∀ k, k < n → D.testBit k = false → sub_ (cr k) D = true))) (K : Int32 → z_Hp → Option (Int32 × z_Hp)) {P : Int32 × z_Hp → Prop} (k : Wp (K (nI (bb ok (2 ^ n) (2 ^ n))) h) P) : Wp (c_X8_fewestDoubts_L82 F 20 (nI n) (nI su) K F (nI (2 ^ n - 1)) (nI (2 ^ n - 1)) h) P := by
  have p0 : 0 < 2 ^ n := Nat.pow_pos (by decide)
  have p1 : 2 ^ n ≤ 1024 := show 2 ^ n ≤ 2 ^ 10 from Nat.pow_le_pow_right (by decide) hn
  refine Wp.loop (L := fun m (u : Int32 × Int32) => c_X8_fewestDoubts_L82 F 20 (nI n) (nI su) K m u.1 u.2 h) (N := 2 ^ n) (fun i u => u.1 = nI (bb ok (2 ^ n) i) ∧ u.2 = if i < 2 ^ n then nI (2 ^ n - 1 - i) else -1) (fun m i u hi hP ih => ?_) (fun m u hP => ?_) F (nI (2 ^ n - 1), nI (2 ^ n - 1)) (by omega) ⟨rfl, by rw [if_pos p0]; rfl⟩
  · obtain ⟨u1, u2⟩ := u
    obtain ⟨e1, e2⟩ := hP
    dsimp only at e1 e2 ⊢
    subst e1
    rw [if_pos hi] at e2
    subst e2
    have r := bb_r ok p0 i (by omega)
    have B : bb ok (2 ^ n) (i + 1) = if ok (2 ^ n - 1 - i) = true ∧ ¬ pcn (bb ok (2 ^ n) i) 20 < pcn (2 ^ n - 1 - i) 20 then 2 ^ n - 1 - i else bb ok (2 ^ n) i := rfl
    generalize hb : bb ok (2 ^ n) i = b at r B
    have dn : nI (2 ^ n - 1 - i) + (-1) = if i + 1 < 2 ^ n then nI (2 ^ n - 1 - (i + 1)) else -1 := by
      by_cases c : i + 1 < 2 ^ n
      · rw [if_pos c, show 2 ^ n - 1 - i = (2 ^ n - 1 - (i + 1)) + 1 by omega, nI_m1]
      · rw [if_neg c, show 2 ^ n - 1 - i = 0 by omega]; rfl
    have okd := hok (2 ^ n - 1 - i) (by omega)
    generalize hD : 2 ^ n - 1 - i = D at *
    have lD : D < 2 ^ n := by omega
    rw [c_X8_fewestDoubts_L82, dn]
    refine Wp.ifF (pnI (by omega)) (Wp.lj (fun j hj => ?_))
    have go : ∀ b', b' = bb ok (2 ^ n) (i + 1) → Wp (j (nI b') h) P := fun b' hb' => by
      rw [hj]
      exact ih (nI b', if i + 1 < 2 ^ n then nI (2 ^ n - 1 - (i + 1)) else -1) ⟨by rw [hb'], rfl⟩
    by_cases c1 : sub_ su D = true
    · refine Wp.ifT ((subq hsu (by omega)).mpr c1) (Wp.ifT (fT20 I) (Wp.cI ((x_clear F I hF hn (by omega) hc).mono (fun r' e => ?_))))
      obtain ⟨x, g⟩ := r'
      obtain ⟨rfl, e⟩ := e
      dsimp only at e ⊢
      rcases e with ⟨ex, e⟩ | ⟨ex, e⟩
      · have okT : ok D = true := okd.mpr ⟨c1, e⟩
        refine Wp.ifF (by rw [ex]; exact one0) (Wp.cIe (bitc F (by omega)) (Wp.cIe (bitc F (by omega)) ?_))
        by_cases c2 : pcn b 20 < pcn D 20
        · exact Wp.ifT (pcI.mpr c2) (go b (by rw [B, if_neg (fun y => y.2 c2)]))
        · exact Wp.ifF (fun y => c2 (pcI.mp y)) (go D (by rw [B, if_pos ⟨okT, c2⟩]))
      · exact Wp.ifT ex (go b (by rw [B, if_neg (fun y => e (okd.mp y.1).2)]))
    · exact Wp.ifF (fun y => c1 ((subq hsu (by omega)).mp y)) (go b (by rw [B, if_neg (fun y => c1 (okd.mp y.1).1)]))
  · obtain ⟨u1, u2⟩ := u
    obtain ⟨e1, e2⟩ := hP
    dsimp only at e1 e2 ⊢
    subst e1
    rw [if_neg (by omega)] at e2
    subst e2
    rw [c_X8_fewestDoubts_L82]
    exact Wp.ifT (by decide) k
theorem x_spread (I : Ifx h) (hF : 5000 ≤ F) {M : Nat → Nat → Int32} {q D n : Nat} (hq : q ≤ 20) (hn : n ≤ 10) (en : n = fb_ct (sp M) q) (hD : D < 1024) (hd : ∀ k, k < n → hI h 24 k = nI (ds M q k)) : c_X8_spread F 20 (nI D) (nI n) h = some (nI (spL (sp M) q D), h) := by
  unfold c_X8_spread
  have key := lpS (R := some (nI (spL (sp M) q D), h)) (L := fun m (u : Int32 × Int32) => c_X8_spread_L5 F 20 (nI D) (nI n) m u.1 u.2 h) (fun k => (nI (bset (fun s => sp M s && (D.testBit (fb_ct (sp M) s) && decide (fb_ct (sp M) s < k))) q), nI k)) n (fun m k hk => ?_) (fun m => ?_) F (by omega)
  · have z : bset (fun s => sp M s && (D.testBit (fb_ct (sp M) s) && decide (fb_ct (sp M) s < 0))) q = 0 := by
      apply Nat.eq_of_testBit_eq
      intro i
      rw [bset_tb, Nat.zero_testBit, decide_eq_false (show ¬ fb_ct (sp M) i < 0 by omega)]; simp
    dsimp only at key
    rw [z] at key
    exact key
  · show c_X8_spread_L5 F 20 (nI D) (nI n) (m + 1) (nI (bset (fun s => sp M s && (D.testBit (fb_ct (sp M) s) && decide (fb_ct (sp M) s < k))) q)) (nI k) h = c_X8_spread_L5 F 20 (nI D) (nI n) m (nI (bset (fun s => sp M s && (D.testBit (fb_ct (sp M) s) && decide (fb_ct (sp M) s < k + 1))) q)) (nI (k + 1)) h
    obtain ⟨k1, k2, k3⟩ := ds_ok (M := M) (q := q) (k := k) (by omega)
    have o24 : okA h 24 20 (nI k) = true := okA_n (fT24 I) (fN24 I) (by omega) (by decide)
    rw [c_X8_spread_L5]
    simp only [fT20 I, fR20_3 I, if_true, if_neg (nI_ge hk (show n < 2 ^ 31 by omega)), ltq, nnq, o24, ix_n (show k < 2147483648 by omega), hd k hk, x_has F (show D < 2147483648 by omega) (show k < 32 by omega), bIq, nI_1]
    have at_ : ∀ s, s < q → sp M s = true → fb_ct (sp M) s = k → s = ds M q k := fun s hs e1 e2 => fb_ct_kth_one e1 k2 (by rw [e2, k3])
    by_cases c : D.testBit k = true
    · rw [if_pos c, if_neg one0, shl_1 _ (by omega), fa_or]
      congr 2
      refine bset_add k1 (fun s hs => ?_)
      by_cases e : s = ds M q k
      · rw [e, k2, k3, c, decide_eq_true rfl, decide_eq_true (show k < k + 1 by omega)]; simp
      · rw [decide_eq_false e, Bool.or_false]
        cases x : sp M s with
        | false => rfl
        | true =>
          have : ¬ fb_ct (sp M) s = k := fun y => e (at_ s hs x y)
          have z : decide (fb_ct (sp M) s < k + 1) = decide (fb_ct (sp M) s < k) := decide_eq_decide.mpr (by omega)
          rw [z]
    · rw [if_neg c, if_pos rfl]
      congr 2
      refine bset_cong (fun s hs => ?_)
      by_cases y : fb_ct (sp M) s = k
      · have cf : D.testBit k = false := by cases x : D.testBit k with | true => exact absurd x c | false => rfl
        rw [y, cf]; simp
      · have z : decide (fb_ct (sp M) s < k + 1) = decide (fb_ct (sp M) s < k) := decide_eq_decide.mpr (by omega)
        rw [z]
  · show c_X8_spread_L5 F 20 (nI D) (nI n) (m + 1) (nI (bset (fun s => sp M s && (D.testBit (fb_ct (sp M) s) && decide (fb_ct (sp M) s < n))) q)) (nI n) h = some (nI (spL (sp M) q D), h)
    rw [c_X8_spread_L5, if_pos (nI_le (Nat.le_refl n) (by omega))]
    congr 3
    apply Nat.eq_of_testBit_eq
    intro i
    rw [bset_tb, spL_tb]
    by_cases c : i < q
    · rw [decide_eq_true c, Bool.true_and, Bool.true_and]
      cases x : sp M i with
      | false => rfl
      | true =>
        have t2 : fb_ct (sp M) (i + 1) = fb_ct (sp M) i + 1 := by rw [fb_ct_succ, if_pos x]
        have t3 : fb_ct (sp M) (i + 1) ≤ fb_ct (sp M) q := fb_ct_mono _ (by omega)
        rw [decide_eq_true (show fb_ct (sp M) i < n by omega), Bool.and_true]
    · rw [decide_eq_false c]; rfl
/-- the answer -/
def dres (M : Nat → Nat → Int32) (q sl : Nat) : Int32 := if fea M q sl (fun _ => false) = true then 0 else if 10 < fb_ct (sp M) q then -6 else if fea M q sl (fun _ => true) = true then nI (spL (sp M) q (bb (fun D => fea M q sl (fun s => (spL (sp M) q D).testBit s)) (2 ^ fb_ct (sp M) q) (2 ^ fb_ct (sp M) q))) else -9
theorem fea_z (M : Nat → Nat → Int32) (q sl : Nat) : (fun s => (spL (sp M) q 0).testBit s) = fun _ => false := by
  funext s
  rw [spL_0, Nat.zero_testBit]
theorem fea_full {M : Nat → Nat → Int32} {q sl : Nat} (h1 : fea M q sl (fun _ => true) = true) (hv : ∀ s, s < q → sp M s = true → ix (M 72 s) ≤ ix (M 73 s) ∧ ix (M 73 s) ≤ 1999) : fea M q sl (fun s => (spL (sp M) q (2 ^ fb_ct (sp M) q - 1)).testBit s) = true := by
  rw [fea_ok h1 hv]
  intro s hs e1 e2
  exfalso
  have t2 : fb_ct (sp M) (s + 1) = fb_ct (sp M) s + 1 := by rw [fb_ct_succ, if_pos e1]
  have t3 : fb_ct (sp M) (s + 1) ≤ fb_ct (sp M) q := fb_ct_mono _ (by omega)
  rw [spL_tb, decide_eq_true hs, e1, Nat.testBit_two_pow_sub_one, decide_eq_true (by omega)] at e2
  cases e2
theorem Ref.v {q : Nat} (R : Ref h q) : ∀ s, s < q → sp (mm h) s = true → ∃ f t, 1500 ≤ f ∧ f ≤ t ∧ t ≤ 1899 ∧ hI h 72 s = nI f ∧ hI h 73 s = nI t := fun s hs e => by
  rcases (R s hs).2 with ⟨c1, c2⟩ | ⟨f, t, l1, l2, l3, c1, c2⟩
  · have D0 : sp (mm h) s = decide (¬ hI h 72 s = -9) := rfl
    rw [D0, decide_eq_true_iff] at e
    exact absurd c1 e
  · exact ⟨f, t, l1, l2, l3, c1, c2⟩
theorem Ref.hv {q : Nat} (R : Ref h q) : ∀ s, s < q → sp (mm h) s = true → ix (mm h 72 s) ≤ ix (mm h 73 s) ∧ ix (mm h 73 s) ≤ 1999 := fun s hs e => by
  obtain ⟨f, t, l1, l2, l3, c1, c2⟩ := R.v s hs e
  have e72 : mm h 72 s = nI f := c1
  have e73 : mm h 73 s = nI t := c2
  rw [e72, e73, ix_n (by omega), ix_n (by omega)]
  omega
def Ad (a _i : Nat) : Prop := a = 23 ∨ a = 24 ∨ a = 25 ∨ a = 26 ∨ a = 27
theorem Ad.ow {a i : Nat} (e : Ad a i) : a < 94 ∧ ow0 a i ∈ [121, 122, 123] := by
  rcases e with rfl | rfl | rfl | rfl | rfl
  · exact ⟨by decide, List.mem_cons_self⟩
  · exact ⟨by decide, List.mem_cons_of_mem _ List.mem_cons_self⟩
  · exact ⟨by decide, List.mem_cons_of_mem _ List.mem_cons_self⟩
  · exact ⟨by decide, List.mem_cons_of_mem _ (List.mem_cons_of_mem _ List.mem_cons_self)⟩
  · exact ⟨by decide, List.mem_cons_of_mem _ (List.mem_cons_of_mem _ List.mem_cons_self)⟩
theorem Ad.sc {a i : Nat} (e : Ad a i) : ¬ (50 ≤ ow0 a i ∧ ow0 a i < 100) := by
  have := e.ow.2
  simp only [List.mem_cons, List.not_mem_nil, or_false] at this
  omega
theorem x_doubts {ow : Ow} (J : InvO ow h) (hF : 5000 ≤ F) {q sl : Nat} (hq : q ≤ 20) (h1 : hI h 14 1 = nI q) (h3 : Sh ow h q) (hsl : sl ≤ 999) (esl : now (mm h) 3 = nI sl) : Wp (c_X9_doubts F 5 h) (fun r => r.1 = dres (mm h) q sl ∧ ChI Ad h r.2) := by
  have o := J.1
  have I := J.2.1
  have R := Sh.ref h3 J.prn
  unfold c_X9_doubts dres
  refine Wp.ifT (fT5 I) (Wp.cIe (x_now F I J.sta J.rul J.tod hF 3 3 rfl (by decide)) (Wp.ifT (fT5 I) (Wp.ltO (Wp.ifT (fT5 I) (Wp.ltO (Wp.rf (fR5_8 I) (Wp.ifT (fT20 I) ?_)))))))
  rw [esl, fR5_6 I]
  refine Wp.cI ((x_work F o I J.prn hF hq h1 h3 hsl).mono (fun r d => ?_))
  obtain ⟨x, g⟩ := r
  obtain ⟨d1, d2, d3, d4⟩ := d
  dsimp only at d1 d2 d3 d4 ⊢
  have Ig := d2.fx I
  have sg : St [121, 123] ow h g := d2.st I o (fun a i e => e.ow)
  have mg : mm g = mm h := d2.mm (fun a i e => e.sc)
  have g1 : hI g 14 1 = nI q := (d2.1 14 1 (by unfold A3; omega)).trans h1
  have Sg := h3.st I o sg (by decide) (by decide) (by decide)
  have c2 : ChI Ad h g := d2.mono (fun a i e => by unfold Ad; rcases e with e | e | e <;> omega)
  by_cases f : fea (mm h) q sl (fun _ => false) = true
  · rw [if_pos f] at d1 ⊢
    exact Wp.ifF (by rw [d1]; exact one0) (Wp.ret ⟨rfl, c2⟩)
  · rw [if_neg f] at d1 ⊢
    refine Wp.ifT d1 (Wp.ifT (fT5 Ig) (Wp.ltO (Wp.rf (fR5_6 Ig) (Wp.ifT (fT14 Ig) (Wp.cIe (x_withSpan F Ig hF hq g1 Sg) ?_)))))
    rw [mg]
    have le := fb_ct_le (sp (mm h)) q
    by_cases c10 : 10 < fb_ct (sp (mm h)) q
    · rw [if_pos c10]
      exact Wp.ifF (nI_ge (a := 10) c10 (by omega)) (Wp.ret ⟨rfl, c2⟩)
    · rw [if_neg c10]
      refine Wp.ifT (nI_le (b := 10) (by omega) (by omega)) (Wp.ifT (fT5 Ig) (Wp.ltO (Wp.ifT (fT5 Ig) (Wp.ltO (Wp.rf (fR5_8 Ig) (Wp.ifT (fT20 Ig) (Wp.cI ?_)))))))
      unfold c_X8_fewestDoubts
      rw [fR5_6 Ig]
      refine Wp.ifT (fT20 Ig) (Wp.cI ((x_bound F o Ig (J.prn.st I o sg (by decide) (by decide)) hF hq g1 Sg hsl (x4 := 0) (Or.inl rfl) (by rw [mg]; exact d3)).mono (fun r e => ?_)))
      obtain ⟨y, k⟩ := r
      obtain ⟨e1, e2, e3⟩ := e
      rw [mg] at e1 e3
      have z : (fun _ : Nat => decide ((0 : Int32) = 0)) = fun _ => true := by funext _; decide
      rw [z] at e1 e3
      dsimp only at e1 e2 e3 ⊢
      have Ik := e2.fx Ig
      have c3 : ChI Ad h k := (c2.trans e2).mono (fun a i e => by rcases e with e | e; exact e; unfold Ad; rcases e with e | e <;> omega)
      by_cases fb : fea (mm h) q sl (fun _ => true) = true
      · rw [if_pos fb] at e1 ⊢
        have sk : St [121, 122, 123] ow h k := c3.st I o (fun a i e => e.ow)
        have mk : mm k = mm h := c3.mm (fun a i e => e.sc)
        have k1 : hI k 14 1 = nI q := (c3.1 14 1 (by unfold Ad; omega)).trans h1
        have Sk := h3.st I o sk (by decide) (by decide) (by decide)
        refine Wp.ifF (by rw [e1]; exact one0) (x_fL18 F o Ik hF hq k1 Sk (by rw [mk]; omega) _ (fun k' a1 a2 => ?_))
        rw [mk] at a2 ⊢
        generalize hn : fb_ct (sp (mm h)) q = n at *
        have c4 : ChI Ad h k' := (c3.trans a1).mono (fun a i e => by rcases e with e | e; exact e; unfold Ad; omega)
        have sk' : St [121, 122, 123] ow h k' := c4.st I o (fun a i e => e.ow)
        have mk' : mm k' = mm h := c4.mm (fun a i e => e.sc)
        have d24 : ∀ i, i < n → hI k' 24 i = nI (ds (mm h) q i) := fun i hi => by
          obtain ⟨i1, i2, i3⟩ := ds_ok (M := mm h) (q := q) (k := i) (by omega)
          have := a2 _ i1 i2
          rw [i3] at this
          exact this
        have D : DX ow k' q sl n := ⟨o, c4.fx I, hq, h3.st I o sk' (by decide) (by decide) (by decide), fun s hs => by
          rw [mk', a1.1 23 s (by omega), e2.1 23 s (by unfold A2; omega)]; exact d3 s hs, fun v hv => by
          rw [mk', a1.1 26 v (by omega), a1.1 27 v (by omega)]; exact e3 v hv, by rw [mk', hn], by omega, fun i hi => by rw [mk']; exact d24 i hi, fun s hs es => by
          rw [mk'] at es
          rw [c4.1 72 s (by unfold Ad; omega), c4.1 73 s (by unfold Ad; omega)]
          exact R.v s hs es⟩
        refine Wp.ifT (fT20 D.2.1) (Wp.cI ((x_clashes F D hF).mono (fun r e => ?_)))
        obtain ⟨su, k2⟩ := r
        obtain ⟨b1, b2, b3⟩ := e
        rw [mk'] at b1 b3
        dsimp only at b1 b2 b3 ⊢
        subst b1
        have I2 := b2.fx D.2.1
        have p0 : 0 < 2 ^ n := Nat.pow_pos (by decide)
        have full : ((1 : Int32) <<< (nI n &&& 31)) - 1 = nI (2 ^ n - 1) := by rw [shl_1 n (by omega), show (1 : Int32) = nI 1 from rfl, nI_sub (by omega)]
        have p1 : 2 ^ n ≤ 1024 := show 2 ^ n ≤ 2 ^ 10 from Nat.pow_le_pow_right (by decide) (by omega)
        rw [full]
        have r := bb_r (fun D => fea (mm h) q sl (fun s => (spL (sp (mm h)) q D).testBit s)) p0 (2 ^ n) (Nat.le_refl _)
        have sl1 : suD (mm h) q sl n < 2147483648 := by
          have := bset_lt (fun k => surS (mm h) q sl (ds (mm h) q k)) n
          unfold suD; omega
        have cr1 : ∀ i, crow (mm h) q n i < 2147483648 := fun i => by
          have := bset_lt (fun j => clS (mm h) q (ds (mm h) q i) (ds (mm h) q j)) n
          unfold crow; omega
        refine Wp.ltI (x_fL82 F I2 hF (cr := crow (mm h) q n) (by omega) sl1 (fun i hi => ⟨b3 i hi, cr1 i⟩) (ok := fun D => fea (mm h) q sl (fun s => (spL (sp (mm h)) q D).testBit s)) (fun D hD => ?_) _ ?_)
        · have := okD_fea (D := D) fb R.hv
          rw [hn] at this
          exact this.symm
        · refine Wp.ifT (fT20 I2) (Wp.cIe (x_spread F I2 hF (M := mm h) hq (by omega) hn.symm (by omega) (fun i hi => (b2.1 24 i (by omega)).trans (d24 i hi))) (Wp.ret (Wp.ret ⟨rfl, (c4.trans b2).mono (fun a i e => by rcases e with e | e; exact e; unfold Ad; omega)⟩)))
      · rw [if_neg fb] at e1 ⊢
        exact Wp.ifT e1 (Wp.ret (Wp.ret ⟨rfl, c3⟩))
end Dbl
