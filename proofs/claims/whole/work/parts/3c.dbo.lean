section Dbo
variable {h : z_Hp} (F : Nat) (x1 x2 x3 x4 x5 : Int32)
theorem m_dL14 (I : Ifx h) (hF : 5000 ≤ F) {q : Nat} (hq : q ≤ 20) (h2 : hI h 46 26 = nI q) (R : Ref h q) (K : Int32 → z_Hp → Option (Int32 × z_Hp)) {P : Int32 × z_Hp → Prop} (k : Wp (K (nI (bset (sp (mm h)) q)) h) P) : Wp (c_X10_doubts_L14 F 46 K F 0 0 h) P := by
  refine Wp.loop (L := fun m (u : Int32 × Int32) => c_X10_doubts_L14 F 46 K m u.1 u.2 h) (N := q) (fun t u => u.1 = nI (bset (sp (mm h)) t) ∧ u.2 = nI t) (fun m t u ht hP ih => ?_) (fun m u hP => ?_) F (nI 0, nI 0) (by omega) ⟨rfl, rfl⟩
  · obtain ⟨u1, u2⟩ := u
    obtain ⟨e1, e2⟩ := hP
    dsimp only at e1 e2 ⊢
    subst e1 e2
    have o72 : okA h 72 20 (nI t) = true := okA_n (fT72 I) (fN72 I) (by omega) (by decide)
    have D0 : sp (mm h) t = decide (¬ hI h 72 t = -9) := rfl
    have S : bset (sp (mm h)) (t + 1) = if sp (mm h) t = true then bset (sp (mm h)) t ||| 2 ^ t else bset (sp (mm h)) t := rfl
    rw [c_X10_doubts_L14, nI_1, ix_n (show t < 2147483648 by omega)]
    refine Wp.ifT (fT46 I) (Wp.ifF (by rw [h2]; exact nI_ge ht (by omega)) (Wp.ifT (fT46 I) (Wp.ltO (Wp.rf (fR46_34 I) (Wp.ifT o72 (Wp.lj (fun j hj => ?_)))))))
    have go : ∀ x v, nI (bset (sp (mm h)) t) ||| x = nI v → v = bset (sp (mm h)) (t + 1) → Wp (j x h) P := fun x v e ev => by
      rw [hj]
      dsimp only
      rw [e]
      exact ih (nI v, nI (t + 1)) ⟨by rw [ev], rfl⟩
    by_cases c : hI h 72 t = -9
    · refine Wp.ifT (by rw [c]; exact neg9) (go 0 _ (by rw [show (0 : Int32) = nI 0 from rfl, fa_or, Nat.or_zero]) ?_)
      rw [S, D0, decide_eq_false (fun y => y c), if_neg (by decide)]
    · rcases (R t ht).2 with ⟨c1, c2⟩ | ⟨f, t', l1, l2, l3, c1, c2⟩
      · exact absurd c1 c
      · refine Wp.ifF (by rw [c1]; exact pnI (by omega)) (go _ _ (by rw [shl_1 t (by omega), fa_or]) ?_)
        rw [S, D0, decide_eq_true c, if_pos rfl]
  · obtain ⟨u1, u2⟩ := u
    obtain ⟨e1, e2⟩ := hP
    dsimp only at e1 e2 ⊢
    subst e1 e2
    rw [c_X10_doubts_L14]
    exact Wp.ifT (fT46 I) (Wp.ifT (by rw [h2]; exact nI_le (Nat.le_refl q) (by omega)) k)
theorem spF (M : Nat → Nat → Int32) (q : Nat) : bset (sp M) q = spL (sp M) q (2 ^ fb_ct (sp M) q - 1) := by
  apply Nat.eq_of_testBit_eq
  intro i
  rw [bset_tb, spL_tb]
  by_cases c : i < q
  · rw [decide_eq_true c, Bool.true_and, Bool.true_and]
    cases x : sp M i with
    | false => rfl
    | true =>
      have t2 : fb_ct (sp M) (i + 1) = fb_ct (sp M) i + 1 := by rw [fb_ct_succ, if_pos x]
      have t3 : fb_ct (sp M) (i + 1) ≤ fb_ct (sp M) q := fb_ct_mono _ (by omega)
      rw [Nat.testBit_two_pow_sub_one, decide_eq_true (by omega)]; rfl
  · rw [decide_eq_false c]; rfl
theorem m_doubts {ow : Ow} (o : OwOK ow) (I : Ifx h) (Ru : Rrul h) (hF : 5000 ≤ F) {q sl : Nat} (hq : q ≤ 20) (h2 : hI h 46 26 = nI q) (R : Ref h q) (hsl : sl ≤ 999) (esl : now (mm h) 3 = nI sl) : Wp (c_X10_doubts F 46 h) (fun r => r.1 = dres (mm h) q sl ∧ ChI A8 h r.2) := by
  have tr : ∀ g g', ChI A8 h g → ChI A8 g g' → ChI A8 h g' := fun g g' a b => (a.trans b).mono (fun a i e => by rcases e with e | e <;> exact e)
  have carry : ∀ g, ChI A8 h g → Ifx g ∧ Rrul g ∧ hI g 46 26 = nI q ∧ Ref g q ∧ mm g = mm h := fun g c => by
    have sg : St [106] ow h g := c.st I o (fun a i e => e.ow)
    exact ⟨c.fx I, Ru.st I o sg (by decide) (by decide), (c.1 46 26 (by unfold A8; omega)).trans h2, R.st hq I o sg (by decide) (by decide), c.mm (fun a i e => e.sc)⟩
  have sy : ∀ g W, ChI A8 h g → W < 1048576 → Wp (c_X10_setYears F 46 (nI W) g) (fun r => (r.1 = if fea (mm h) q sl (fun s => W.testBit s) = true then 1 else 0) ∧ ChI A8 h r.2) := fun g W c hW => by
    obtain ⟨q1, q2, q3, q4, q5⟩ := carry g c
    refine (m_setYears F q1 q2 hF hq q3 q4 hsl (by rw [q5]; exact esl) hW).mono (fun r e => ⟨?_, tr g _ c e.2.1⟩)
    have := e.1
    rw [q5] at this
    exact this
  unfold c_X10_doubts
  refine Wp.ifT (fT46 I) (Wp.cI ((sy h 0 (ChI.refl _ _) (by decide)).mono (fun r e => ?_)))
  obtain ⟨x, g⟩ := r
  obtain ⟨e1, e2⟩ := e
  dsimp only at e1 e2 ⊢
  have z : (fun s : Nat => (0 : Nat).testBit s) = fun _ => false := by funext i; exact Nat.zero_testBit i
  rw [z] at e1
  unfold dres
  by_cases f : fea (mm h) q sl (fun _ => false) = true
  · rw [if_pos f] at e1 ⊢
    exact Wp.ifF (by rw [e1]; exact one0) (Wp.ret ⟨rfl, e2⟩)
  · rw [if_neg f] at e1 ⊢
    obtain ⟨q1, q2, q3, q4, q5⟩ := carry g e2
    refine Wp.ifT e1 (m_dL14 F q1 hF hq q3 q4 _ ?_)
    rw [q5, spF]
    have le := fb_ct_le (sp (mm h)) q
    have p0 : 0 < 2 ^ fb_ct (sp (mm h)) q := Nat.pow_pos (by decide)
    have pf : pcn (spL (sp (mm h)) q (2 ^ fb_ct (sp (mm h)) q - 1)) 20 = fb_ct (sp (mm h)) q := by
      rw [← spF]
      unfold pcn
      rw [ct_past (n := q) (fun k hk => by rw [bset_tb, decide_eq_false (by omega)]; rfl) 20 hq]
      exact fb_ct_cong (fun k hk => by rw [bset_tb, decide_eq_true hk, Bool.true_and])
    refine Wp.cIe (m_bits F (by have := spL_lt (p := sp (mm h)) (D := 2 ^ fb_ct (sp (mm h)) q - 1) hq; omega) hF) ?_
    rw [pf]
    by_cases c10 : 10 < fb_ct (sp (mm h)) q
    · rw [if_pos c10]
      exact Wp.ifF (nI_ge (a := 10) c10 (by omega)) (Wp.ret ⟨rfl, e2⟩)
    · rw [if_neg c10]
      refine Wp.ifT (nI_le (b := 10) (by omega) (by omega)) ?_
      generalize hok : (fun D => fea (mm h) q sl (fun s => (spL (sp (mm h)) q D).testBit s)) = ok
      have hokD : ∀ D, ok D = fea (mm h) q sl (fun s => (spL (sp (mm h)) q D).testBit s) := fun D => by rw [← hok]
      have spl := fun D => spL_lt (p := sp (mm h)) (D := D) hq
      have spm := spL_mono q (sp (mm h))
      have spp := fun D => spL_prev q (sp (mm h)) D
      have spc := fun D => spL_pc (p := sp (mm h)) (D := D) hq
      have p1 : 2 ^ fb_ct (sp (mm h)) q ≤ 1024 := show 2 ^ fb_ct (sp (mm h)) q ≤ 2 ^ 10 from Nat.pow_le_pow_right (by decide) (by omega)
      have base0 : ¬ fea (mm h) q sl (fun _ => true) = true → ∀ D, ok D = false := fun nb D => by
        rw [hokD]
        cases y : fea (mm h) q sl (fun s => (spL (sp (mm h)) q D).testBit s) with
        | true => exact absurd (fea_base y) nb
        | false => rfl
      have okfull : fea (mm h) q sl (fun _ => true) = true → ok (2 ^ fb_ct (sp (mm h)) q - 1) = true := fun b => by
        rw [hokD]; exact fea_full b R.hv
      have ok0 : ok 0 = false := by
        rw [hokD, fea_z (mm h) q 0]
        cases y : fea (mm h) q sl (fun _ => false) with
        | true => exact absurd y f
        | false => rfl
      generalize hN : 2 ^ fb_ct (sp (mm h)) q = N at *
      have st0 : ∀ i, i < N → ∃ v : Int32, v = if i = 0 ∨ ¬ fea (mm h) q sl (fun _ => true) = true then -9 else nI (spL (sp (mm h)) q (bb ok N i)) := fun i _ => ⟨_, rfl⟩
      refine Wp.loop (L := fun m (u : Int32 × Int32 × z_Hp) => c_X10_doubts_L64 F 46 (nI (spL (sp (mm h)) q (N - 1))) m u.1 u.2.1 u.2.2) (N := N - 1) (fun i u => (u.1 = if i = 0 ∨ ¬ fea (mm h) q sl (fun _ => true) = true then -9 else nI (spL (sp (mm h)) q (bb ok N i))) ∧ u.2.1 = nI (spL (sp (mm h)) q (N - 1 - i)) ∧ ChI A8 h u.2.2) (fun m i u hi hP ih => ?_) (fun m u hP => ?_) F (-9, nI (spL (sp (mm h)) q (N - 1)), g) (by omega) ⟨by rw [if_pos (Or.inl rfl)], by rw [Nat.sub_zero], e2⟩
      · obtain ⟨u1, u2, g⟩ := u
        obtain ⟨e1, e2', e3⟩ := hP
        dsimp only at e1 e2' e3 ⊢
        subst e2'
        have Ig := (carry g e3).1
        have r := bb_r ok p0 i (by omega)
        have B : bb ok N (i + 1) = if ok (N - 1 - i) = true ∧ ¬ pcn (bb ok N i) 20 < pcn (N - 1 - i) 20 then N - 1 - i else bb ok N i := rfl
        have prev := spp (N - 1 - i) (by omega) (by omega)
        rw [show N - 1 - i - 1 = N - 1 - (i + 1) by omega] at prev
        have pos := spm 0 (N - 1 - i) (by omega) (by omega)
        rw [spL_0] at pos
        have okD := hokD (N - 1 - i)
        have cD := spc (N - 1 - i) (by omega)
        have lD := spl (N - 1 - i)
        have lb := fun x => spl (bb ok N x)
        have ltb_ : 0 < i → spL (sp (mm h)) q (N - 1 - i) < spL (sp (mm h)) q (bb ok N i) := fun p => spm _ _ (by have := r.2.2 p; omega) r.1
        have cb := spc (bb ok N i) r.1
        have bF := lb i
        have firstD : i = 0 → N - 1 - i = N - 1 := fun e => by omega
        generalize hD : N - 1 - i = D at *
        generalize hW : spL (sp (mm h)) q D = W at *
        rw [c_X10_doubts_L64]
        refine Wp.ifF (nI_nle pos (by omega)) (Wp.lj (fun j104 h104 => Wp.lj (fun j99 h99 => ?_)))
        have nx : (nI W - 1) &&& nI (spL (sp (mm h)) q (N - 1)) = nI (spL (sp (mm h)) q (N - 1 - (i + 1))) := by
          rw [show (1 : Int32) = nI 1 from rfl, nI_sub (by omega), fa_and, prev]
        have go : ∀ x g', (x = if i + 1 = 0 ∨ ¬ fea (mm h) q sl (fun _ => true) = true then -9 else nI (spL (sp (mm h)) q (bb ok N (i + 1)))) → ChI A8 h g' → Wp (c_X10_doubts_L64 F 46 (nI (spL (sp (mm h)) q (N - 1))) m x (nI (spL (sp (mm h)) q (N - 1 - (i + 1)))) g') (fun r => r.1 = (if fea (mm h) q sl (fun _ => true) = true then nI (spL (sp (mm h)) q (bb ok N N)) else -9) ∧ ChI A8 h r.2) := fun x g' hx hg => ih (x, nI (spL (sp (mm h)) q (N - 1 - (i + 1))), g') ⟨hx, rfl, hg⟩
        have no104 : (u1 = if i + 1 = 0 ∨ ¬ fea (mm h) q sl (fun _ => true) = true then -9 else nI (spL (sp (mm h)) q (bb ok N (i + 1)))) → Wp (j104 0 g) (fun r => r.1 = (if fea (mm h) q sl (fun _ => true) = true then nI (spL (sp (mm h)) q (bb ok N N)) else -9) ∧ ChI A8 h r.2) := fun hu => by
          rw [h104]
          dsimp only [lt_]
          rw [nx]
          exact Wp.ifT rfl (go _ _ hu e3)
        have yes99 : (u1 = if ok D = true then u1 else if i + 1 = 0 ∨ ¬ fea (mm h) q sl (fun _ => true) = true then -9 else nI (spL (sp (mm h)) q (bb ok N (i + 1)))) → (ok D = true → nI W = if i + 1 = 0 ∨ ¬ fea (mm h) q sl (fun _ => true) = true then -9 else nI (spL (sp (mm h)) q (bb ok N (i + 1)))) → Wp (j99 g) (fun r => r.1 = (if fea (mm h) q sl (fun _ => true) = true then nI (spL (sp (mm h)) q (bb ok N N)) else -9) ∧ ChI A8 h r.2) := fun hu1 hu2 => by
          rw [h99]
          dsimp only
          rw [h104]
          dsimp only [lt_]
          rw [nx]
          refine Wp.ifF one0 (Wp.ifT (fT46 Ig) (Wp.cI ((sy g W e3 lD).mono (fun r e => ?_))))
          obtain ⟨y, g'⟩ := r
          obtain ⟨k1, k2⟩ := e
          dsimp only at k1 k2 ⊢
          rw [← okD] at k1
          by_cases c : ok D = true
          · rw [if_pos c] at k1
            exact Wp.ifF (by rw [k1]; exact one0) (go _ _ (hu2 c) k2)
          · rw [if_neg c] at k1 hu1
            exact Wp.ifT k1 (go _ _ hu1 k2)
        have n1 : ¬ i + 1 = 0 := by omega
        by_cases b : fea (mm h) q sl (fun _ => true) = true
        · have nb : ¬ (i + 1 = 0 ∨ ¬ fea (mm h) q sl (fun _ => true) = true) := fun y => y.elim n1 (fun z => z b)
          rw [if_neg nb] at no104 yes99
          by_cases i0 : i = 0
          · rw [if_pos (Or.inl i0)] at e1
            have okT : ok D = true := by rw [firstD i0]; exact okfull b
            have bD : bb ok N i = D := by rw [firstD i0, i0]; rfl
            refine Wp.ifT (by rw [e1]; exact neg9) (yes99 (by rw [if_pos okT]) (fun _ => ?_))
            rw [B, bD, if_pos ⟨okT, Nat.lt_irrefl _⟩, hW]
          · rw [if_neg (fun y => y.elim i0 (fun z => z b))] at e1
            subst e1
            have lt := ltb_ (by omega)
            refine Wp.ifF (pnI (by omega)) (Wp.cIe (m_bits F (by omega) hF) (Wp.cIe (m_bits F (by omega) hF) ?_))
            rw [cD, cb]
            have keep : ¬ (ok D = true ∧ ¬ pcn (bb ok N i) 20 < pcn D 20) → nI (spL (sp (mm h)) q (bb ok N i)) = nI (spL (sp (mm h)) q (bb ok N (i + 1))) := fun y => by rw [B, if_neg y]
            have fewer : ¬ pcn (bb ok N i) 20 < pcn D 20 → Wp (j99 g) (fun r => r.1 = (if fea (mm h) q sl (fun _ => true) = true then nI (spL (sp (mm h)) q (bb ok N N)) else -9) ∧ ChI A8 h r.2) := fun y => yes99 (by
              by_cases c : ok D = true
              · rw [if_pos c]
              · rw [if_neg c]; exact keep (fun z => c z.1)) (fun c => by rw [B, if_pos ⟨c, y⟩, hW])
            by_cases c1 : pcn D 20 < pcn (bb ok N i) 20
            · exact Wp.ifT (pcI.mpr c1) (fewer (by omega))
            · refine Wp.ifF (fun y => c1 (pcI.mp y)) (Wp.cIe (m_bits F (by omega) hF) (Wp.cIe (m_bits F (by omega) hF) (Wp.lj (fun j103 h103 => ?_))))
              rw [cD, cb]
              have hd : pcn D 20 ≤ 20 := fb_ct_le _ _
              have hb : pcn (bb ok N i) 20 ≤ 20 := fb_ct_le _ _
              by_cases c2 : pcn D 20 = pcn (bb ok N i) 20
              · exact Wp.ifT (by rw [c2]) (Wp.ifF (nI_ge lt (by omega)) (fewer (by omega)))
              · refine Wp.ifF (fun y => c2 ((nI_eq (by omega) (by omega)).mp y)) ?_
                rw [h103]
                exact no104 (keep (fun z => by omega))
        · have nb : i + 1 = 0 ∨ ¬ fea (mm h) q sl (fun _ => true) = true := Or.inr b
          rw [if_pos nb] at no104 yes99
          rw [if_pos (Or.inr b)] at e1
          have okF := base0 b D
          refine Wp.ifT (by rw [e1]; exact neg9) (yes99 (by rw [if_neg (by rw [okF]; decide)]; exact e1) (fun c => by rw [okF] at c; cases c))
      · obtain ⟨u1, u2, g⟩ := u
        obtain ⟨e1, e2', e3⟩ := hP
        dsimp only at e1 e2' e3 ⊢
        subst e2'
        rw [c_X10_doubts_L64, show N - 1 - (N - 1) = 0 by omega, spL_0]
        refine Wp.ifT (by decide) (Wp.ret ⟨?_, e3⟩)
        dsimp only
        rw [e1]
        by_cases b : fea (mm h) q sl (fun _ => true) = true
        · have n0 : ¬ N - 1 = 0 := fun y => by
            have := okfull b
            rw [y, ok0] at this
            cases this
          rw [if_neg (fun y => y.elim n0 (fun z => z b)), if_pos b]
          have B : bb ok N (N - 1 + 1) = if ok (N - 1 - (N - 1)) = true ∧ ¬ pcn (bb ok N (N - 1)) 20 < pcn (N - 1 - (N - 1)) 20 then N - 1 - (N - 1) else bb ok N (N - 1) := rfl
          rw [show N - 1 - (N - 1) = 0 by omega, if_neg (fun y => by rw [ok0] at y; cases y.1), show N - 1 + 1 = N by omega] at B
          rw [B]
        · rw [if_pos (Or.inr b), if_neg b]
theorem op_doubts (hF : 5000 ≤ F) (J : Inv h) : OkI h (c_X9_doubts F 5 h) (c_X10_doubts F 46) := by
  obtain ⟨ow, J⟩ := J
  have o := J.1
  have I := J.2.1
  obtain ⟨q, hq, h1, h2, h3, h4, h5⟩ := J.she
  obtain ⟨sl, hsl, esl⟩ := now_r J.rul (w := 3) (by decide)
  refine OkI.wp ((x_doubts F J hF hq h1 h3 hsl esl).mono (fun r e => ?_))
  obtain ⟨x, g⟩ := r
  obtain ⟨e1, e2⟩ := e
  dsimp only at e1 e2 ⊢
  have sg : St [121, 122, 123] ow h g := e2.st I o (fun a i e => e.ow)
  have mg : mm g = mm h := e2.mm (fun a i e => e.sc)
  refine (m_doubts F o (e2.fx I) (J.rul.st I o sg (by decide) (by decide)) hF hq ((e2.1 46 26 (by unfold Ad; omega)).trans h2) ((Sh.ref h3 J.prn).st hq I o sg (by decide) (by decide)) hsl (by rw [mg]; exact esl)).mono (fun r k => ?_)
  rw [mg] at k
  obtain ⟨k1, k2⟩ := k
  have s' : St [121, 122, 123, 106] ow h r.2 := (sg.trans (k2.st (fs := [106]) (e2.fx I) o (fun a i e => e.ow))).sub (by decide)
  exact ⟨by rw [k1, e1], ⟨ow, J.fin o s' (OwX.refl _ _) (by decide)⟩, by rw [k2.Z.1, e2.Z.1]; omega, by rw [k2.Z.2, e2.Z.2]; omega⟩
end Dbo
