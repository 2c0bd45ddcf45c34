section OpsJ
variable {h : z_Hp} (F : Nat) (x1 x2 x3 x4 x5 : Int32)
def fstN (M : Nat → Nat → Int32) (s k : Nat) : Bool := cpy M s && decide (fb_ct (fun t => prt M s t) k = 0)
theorem m_lost_L29 (I : Ifx h) (hF : 5000 ≤ F) {s : Nat} (hs : s < 20) (y1 y2 y3 : Int32) (K : Int32 → z_Hp → Option (Int32 × z_Hp)) : c_X10_lost_L29 F 46 y1 y2 y3 (nI s) K F (if cpy (mm h) s = true then 1 else 0) 0 h = K (if fstP (mm h) s = true then 1 else 0) h := by
  have key := lpS (L := fun m (u : Int32 × Int32) => c_X10_lost_L29 F 46 y1 y2 y3 (nI s) K m u.1 u.2 h) (R := K (if fstP (mm h) s = true then 1 else 0) h) (fun k => (if fstN (mm h) s k = true then 1 else 0, nI k)) s (fun m k hk => ?_) (fun m => ?_) F (by omega)
  · have e0 : fstN (mm h) s 0 = cpy (mm h) s := by
      unfold fstN
      rw [show fb_ct (fun t => prt (mm h) s t) 0 = 0 from rfl]; simp
    simp only [e0] at key
    exact key
  · show c_X10_lost_L29 F 46 y1 y2 y3 (nI s) K (m + 1) (if fstN (mm h) s k = true then 1 else 0) (nI k) h = c_X10_lost_L29 F 46 y1 y2 y3 (nI s) K m (if fstN (mm h) s (k + 1) = true then 1 else 0) (nI (k + 1)) h
    have N1 : fstN (mm h) s (k + 1) = (fstN (mm h) s k && !(prt (mm h) s k)) := by
      unfold fstN
      rw [fb_ct_succ]
      cases prt (mm h) s k <;> simp
    rw [c_X10_lost_L29, if_neg (nI_ge hk (by omega)), N1]
    dsimp only [lt_]
    by_cases c : fstN (mm h) s k = true
    · rw [if_pos c, ite10, fT46 I, if_pos rfl, m_isCopy F I (by omega), bI_some, c, Bool.true_and]
      unfold prt
      by_cases c2 : cpy (mm h) k = true
      · rw [if_pos c2, ite10, fT46 I, if_pos rfl, m_isLike F I hs (by omega), bI_some, c2, Bool.true_and]
        by_cases c3 : lik (mm h) s k = true
        · rw [if_pos c3, ite10, c3, nI_1]; rfl
        · rw [if_neg c3, ite00, nI_1]
          have : lik (mm h) s k = false := by cases e : lik (mm h) s k with
            | true => exact absurd e c3
            | false => rfl
          rw [this]; rfl
      · rw [if_neg c2, ite00, nI_1]
        have : cpy (mm h) k = false := by cases e : cpy (mm h) k with
          | true => exact absurd e c2
          | false => rfl
        rw [this]; rfl
    · rw [if_neg c, ite00, nI_1]
      have : fstN (mm h) s k = false := by cases e : fstN (mm h) s k with
        | true => exact absurd e c
        | false => rfl
      rw [this]; rfl
  · show c_X10_lost_L29 F 46 y1 y2 y3 (nI s) K (m + 1) (if fstN (mm h) s s = true then 1 else 0) (nI s) h = _
    rw [c_X10_lost_L29, if_pos (nI_le (Nat.le_refl s) (by omega))]; rfl
theorem m_lost_L9 (I : Ifx h) (hF : 5000 ≤ F) {q : Nat} (hq : q ≤ 20) (h1 : hI h 46 26 = nI q) (K : Int32 → Int32 → Int32 → z_Hp → Option (Int32 × z_Hp)) : c_X10_lost_L9 F 46 K F 0 0 0 0 h = K (nI (prs (mm h) q 0 q)) (nI (prs (mm h) q 1 q)) (nI (prs (mm h) q 2 q)) h := by
  refine lpS (L := fun m (u : Int32 × Int32 × Int32 × Int32) => c_X10_lost_L9 F 46 K m u.1 u.2.1 u.2.2.1 u.2.2.2 h) (fun k => (nI (prs (mm h) q 0 k), nI (prs (mm h) q 1 k), nI (prs (mm h) q 2 k), nI k)) q (fun m k hk => ?_) (fun m => ?_) F (by omega)
  · show c_X10_lost_L9 F 46 K (m + 1) (nI (prs (mm h) q 0 k)) (nI (prs (mm h) q 1 k)) (nI (prs (mm h) q 2 k)) (nI k) h = c_X10_lost_L9 F 46 K m (nI (prs (mm h) q 0 (k + 1))) (nI (prs (mm h) q 1 (k + 1))) (nI (prs (mm h) q 2 (k + 1))) (nI (k + 1)) h
    have P : ∀ w, prs (mm h) q w (k + 1) = prs (mm h) q w k + if (fstP (mm h) k && (decide (w = 0) || decide (clk (mm h) q k = w))) = true then 1 else 0 := fun w => fb_ct_succ _ _
    have cl := clk_le (mm h) q k
    rw [c_X10_lost_L9, fT46 I, if_pos rfl, h1, if_neg (nI_ge hk (by omega)), if_pos rfl, m_isCopy F I (by omega), bI_some, m_lost_L29 F I hF (by omega), P 0, P 1, P 2]
    dsimp only [lt_]
    by_cases c : fstP (mm h) k = true
    · rw [if_pos c, ite10, c, fT46 I, if_pos rfl, m_clk F I hF hq h1 (by omega), bI_some]
      have T : ∀ w, w ≤ 2 → (nI (clk (mm h) q k) = nI w ↔ clk (mm h) q k = w) := fun w hw => nI_eq (by omega) (by omega)
      have T1 := T 1 (by decide)
      have T2 := T 2 (by decide)
      by_cases c1 : clk (mm h) q k = 1
      · rw [if_pos (show nI (clk (mm h) q k) = 1 from T1.mpr c1), fT46 I, if_pos rfl, m_clk F I hF hq h1 (by omega), bI_some, if_neg (show ¬ nI (clk (mm h) q k) = 2 from fun e => by have := T2.mp e; omega)]
        simp [c1, nI_1, show ∀ x : Nat, nI x + 0 = nI x from fun x => by simp]
      · rw [if_neg (show ¬ nI (clk (mm h) q k) = 1 from fun e => c1 (T1.mp e)), fT46 I, if_pos rfl, m_clk F I hF hq h1 (by omega), bI_some]
        by_cases c2 : clk (mm h) q k = 2
        · rw [if_pos (show nI (clk (mm h) q k) = 2 from T2.mpr c2)]
          simp [c2, nI_1]
        · rw [if_neg (show ¬ nI (clk (mm h) q k) = 2 from fun e => c2 (T2.mp e))]
          simp [c1, c2, nI_1]
    · rw [if_neg c, ite00]
      have : fstP (mm h) k = false := by cases e : fstP (mm h) k with
        | true => exact absurd e c
        | false => rfl
      simp [this, nI_1]
  · show c_X10_lost_L9 F 46 K (m + 1) _ _ _ (nI q) h = _
    rw [c_X10_lost_L9, fT46 I, if_pos rfl, h1, if_pos (nI_le (Nat.le_refl q) (by omega))]
theorem op_lost (hF : 5000 ≤ F) (J : Inv h) : OkI h (c_X9_lost F 5 h) (c_X10_lost F 46) := by
  obtain ⟨ow, J⟩ := J
  have o := J.1
  have I := J.2.1
  have S := J.sta
  obtain ⟨q, hq, h1, h2, h3, h4, h5⟩ := J.she
  have le : ∀ w, prs (mm h) q w q ≤ q := fun w => fb_ct_le _ _
  have l0 := le 0
  have l1 := le 1
  have l2 := le 2
  unfold c_X9_lost c_X10_lost
  by_cases c0 : prs (mm h) q 0 q = 0
  · refine OkI.found0 (F := F) 4 (by decide) J ?_ (fun h' w => ?_)
    · show _ = c_X9_found F 5 4 h
      rw [fT5 I, if_pos rfl, fR5_6 I]
      dsimp only [lt_, nn]
      rw [fT14 I, if_pos rfl, x_prs F I S hF hq h1 h3 0 0 rfl (by decide), bI_some, c0, if_pos (by rfl), fT5 I, if_pos rfl, bI_id]
    · have I' := I.st o w (by decide)
      have h2' : hI h' 46 26 = nI q := (w.fam I o (c := 66) (by decide) 46 26 (by omega) rfl).1.trans h2
      have mm' := mm_st I o w (by decide)
      show _ = c_X10_meets F 46 4 h'
      rw [m_lost_L9 F I' hF hq h2', mm', c0, if_pos (by rfl), fT46 I', if_pos rfl, bI_id]
  · have n0 : ¬ nI (prs (mm h) q 0 q) = 0 := nI_ne0 (by omega) (by omega)
    obtain ⟨U, W, hU, hW, hW0, ex, em⟩ : ∃ U W : Nat, U < 2 ^ 40 ∧ W < 2 ^ 40 ∧ 0 < W ∧
        (∀ g : z_Hp, (if lg_cmp (nI (prs (mm h) q 2 q)).toInt64 0 ≤ 0 then c_X9_tellFraction F 5 ((nI (prs (mm h) q 1 q)).toInt64 * ((nI (prs (mm h) q 1 q)).toInt64 - 1)) 2 g else c_X9_tellFraction F 5 ((nI (prs (mm h) q 1 q)).toInt64 * (nI (prs (mm h) q 1 q)).toInt64) (2 * (nI (prs (mm h) q 2 q)).toInt64) g) = c_X9_tellFraction F 5 (lN U) (lN W) g) ∧
        ∀ (x : Int32) (g : z_Hp), (if nI (prs (mm h) q 2 q) ≤ 0 then c_X10_share F 46 ((nI (prs (mm h) q 1 q) * (nI (prs (mm h) q 1 q) - 1) : Int32).toInt64) 2 x g else c_X10_share F 46 ((nI (prs (mm h) q 1 q) * nI (prs (mm h) q 1 q) : Int32).toInt64) ((2 * nI (prs (mm h) q 2 q) : Int32).toInt64) x g) = c_X10_share F 46 (lN U) (lN W) x g := by
      generalize prs (mm h) q 1 q = a at l1
      generalize prs (mm h) q 2 q = b at l2
      have hb : (nI b).toInt64 = lN b := nI_l (by omega)
      have ha : (nI a).toInt64 = lN a := nI_l (by omega)
      by_cases cb : b = 0
      · subst cb
        have e1 : (nI a).toInt64 * ((nI a).toInt64 - 1) = lN (a * (a - 1)) := by
          by_cases c : a = 0
          · subst c; decide
          · rw [ha, show (1 : Int64) = lN 1 from rfl, lN_sub (by omega), lN_mul]
        have b1 : a * (a - 1) ≤ 20 * 20 := Nat.mul_le_mul (by omega) (by omega)
        have e2 : (nI a * (nI a - 1) : Int32).toInt64 = lN (a * (a - 1)) := by
          by_cases c : a = 0
          · subst c; decide
          · rw [show (1 : Int32) = nI 1 from rfl, nI_sub (by omega), nI_mul, nI_l (by omega)]
        refine ⟨a * (a - 1), 2, by omega, by decide, by decide, fun g => ?_, fun x g => ?_⟩
        · rw [if_pos (by decide), e1]; rfl
        · rw [if_pos (by decide), e2]; rfl
      · have b1 : a * a ≤ 20 * 20 := Nat.mul_le_mul (by omega) (by omega)
        refine ⟨a * a, 2 * b, by omega, by omega, by omega, fun g => ?_, fun x g => ?_⟩
        · rw [if_neg (by rw [cmp_le, hb, pk_lT (by omega)]; show ¬ ¬ (0 : Int) < _; omega), ha, hb, lN_mul, show (2 : Int64) = lN 2 from rfl, lN_mul]
        · rw [if_neg (nI_nle (by omega) (by omega)), nI_mul, nI_l (by omega), show (2 : Int32) = nI 2 from rfl, nI_mul, nI_l (by omega)]
    generalize hG : Nat.gcd U W = G
    have s1 : St [5] ow h (sJ (sJ h 5 16 (lN (U / G))) 5 17 (lN (W / G))) := ((St.r I).wJ o 5 (by decide) rfl (by decide)).wJ o 5 (by decide) rfl (by decide)
    have I1 := I.st o s1 (by decide)
    have mm1 := mm_st I o s1 (by decide)
    have xf := x_frac F I hF hU hW hW0
    rw [hG] at xf
    generalize hh1 : sJ (sJ h 5 16 (lN (U / G))) 5 17 (lN (W / G)) = g1 at s1 I1 mm1 xf
    have h2' : hI g1 46 26 = nI q := (s1.fam I o (c := 66) (by decide) 46 26 (by omega) rfl).1.trans h2
    have ms := m_share F I1 hF hU hW hW0 (nI (prs (mm h) q 0 q))
    rw [hG] at ms
    have s2 : St [5, 55] ow h (sJ (sJ g1 46 4 (lN (U / G))) 46 5 (lN (W / G))) := ((s1.sub (by decide)).wJ o 55 (by decide) rfl (by decide)).wJ o 55 (by decide) rfl (by decide)
    refine ⟨nI (prs (mm h) q 0 q), g1, sJ (sJ g1 46 4 (lN (U / G))) 46 5 (lN (W / G)), ?_, ?_, ⟨ow, J.fin o s2 (OwX.refl _ _) (by decide) (c5 := fun _ => ?_)⟩, ?_, ?_⟩
    · rw [fT5 I, if_pos rfl, fR5_6 I]
      dsimp only [lt_, nn]
      rw [fT14 I, if_pos rfl, x_prs F I S hF hq h1 h3 0 0 rfl (by decide), bI_some, if_neg n0, fT5 I, if_pos rfl, fR5_6 I]
      dsimp only
      rw [fT14 I, if_pos rfl, x_prs F I S hF hq h1 h3 1 1 rfl (by decide), bI_some, fT5 I, if_pos rfl, fR5_6 I]
      dsimp only
      rw [fT14 I, if_pos rfl, x_prs F I S hF hq h1 h3 2 2 rfl (by decide), bI_some, fT5 I, if_pos rfl]
      have e := ex h
      by_cases z : lg_cmp (nI (prs (mm h) q 2 q)).toInt64 0 ≤ 0
      · rw [if_pos z] at e ⊢
        rw [e, xf, bV_some]
      · rw [if_neg z] at e ⊢
        rw [if_pos rfl, e, xf, bV_some]
    · dsimp only
      rw [m_lost_L9 F I1 hF hq h2', mm1, if_neg n0, fT46 I1, if_pos rfl]
      have e := em (nI (prs (mm h) q 0 q)) g1
      by_cases z : nI (prs (mm h) q 2 q) ≤ 0
      · rw [if_pos z] at e ⊢
        rw [e, ms, bI_some]
      · rw [if_neg z] at e ⊢
        rw [if_pos rfl, e, ms, bI_some]
    · refine ⟨?_, ?_⟩
      · rw [← hh1]; simp [hJ_sJ]
      · rw [← hh1]; simp [hJ_sJ]
    · show hZ g1 ≤ _; rw [← hh1]; show hZ h ≤ _; omega
    · show hS g1 ≤ _; rw [← hh1]; show hS h ≤ _; omega
end OpsJ
