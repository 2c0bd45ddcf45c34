section Sgt
variable {h : z_Hp} (F : Nat) (x1 x2 x3 x4 x5 : Int32)
theorem Wd.at {n w : Nat} {g : Nat → Int32} (W : Wd h n g) (hw : w < tkn g n) : hI h 55 w = nI (tp g n w) ∧ hI h 56 w = nI (wsz g n (tp g n w)) := by
  obtain ⟨t1, t2, t3⟩ := tp_ok hw
  have := W.2 _ t1 t2
  rw [t3] at this
  exact this
/-- a mark -/
def Zw (g : Nat → Int32) (n w : Nat) : Bool := decide (wsz g n (tp g n w) = 0)
theorem m_lines (I : Ifx h) (hF : 5000 ≤ F) {s n : Nat} {g : Nat → Int32} (S : SgM h s n g) : Wp (c_X10_linesOf F 46 (nI s) h) (fun r => r.1 = nI (mks g n + 1) ∧ ChI Aw h r.2 ∧ Wd r.2 n g) := by
  have hv := S.2.2.2.2.1
  have n60 := S.2.1
  have tl := tkn_le g n
  unfold c_X10_linesOf
  refine Wp.ifT (fT46 I) (Wp.cV ((m_words F I hF S).mono (fun v d => ?_)))
  obtain ⟨d1, W⟩ := d
  have Iv := d1.fx I
  refine Wp.loop (L := fun m (u : Int32 × Int32) => c_X10_linesOf_L9 F 46 m u.1 u.2 v) (N := tkn g n) (fun w u => u.1 = nI (fb_ct (Zw g n) w + 1) ∧ u.2 = nI w) (fun m w u hw hP ih => ?_) (fun m u hP => ?_) F (1, 0) (by omega) ⟨rfl, rfl⟩
  · obtain ⟨u1, u2⟩ := u
    obtain ⟨e1, e2⟩ := hP
    dsimp only at e1 e2 ⊢
    subst e1 e2
    have o56 : okA v 56 20 (nI w) = true := okA_n (fT56 Iv) (fN56 Iv) (by omega) (by decide)
    have ws := wsz_le g (n := n) (k := tp g n w) (by have := (tp_ok hw).1; omega)
    rw [c_X10_linesOf_L9, nI_1 w, ix_n (show w < 2147483648 by omega)]
    refine Wp.ifT (fT46 Iv) (Wp.ifF (by rw [W.1]; exact nI_ge hw (by omega)) (Wp.ifT (fT46 Iv) (Wp.ltO (Wp.rf (fR46_16 Iv) (Wp.ifT o56 (Wp.lj (fun j hj => ?_)))))))
    rw [(W.at hw).2]
    have go : ∀ b : Nat, (fb_ct (Zw g n) w + 1) + b = fb_ct (Zw g n) (w + 1) + 1 → Wp (j (nI b) v) (fun r => r.1 = nI (mks g n + 1) ∧ ChI Aw h r.2 ∧ Wd r.2 n g) := fun b hb => by
      rw [hj]
      dsimp only [lt_]
      rw [nI_add]
      exact ih (nI (fb_ct (Zw g n) w + 1 + b), nI (w + 1)) ⟨by rw [hb], rfl⟩
    by_cases c : wsz g n (tp g n w) = 0
    · refine Wp.ifT (by rw [c]; rfl) (go 1 ?_)
      rw [fb_ct_succ, if_pos (show Zw g n w = true from decide_eq_true c)]
    · refine Wp.ifF (nI_ne0 (by omega) (by omega)) (go 0 ?_)
      rw [fb_ct_succ, if_neg (by unfold Zw; rw [decide_eq_true_iff]; exact c)]
  · obtain ⟨u1, u2⟩ := u
    obtain ⟨e1, e2⟩ := hP
    dsimp only at e1 e2 ⊢
    subst e1 e2
    rw [c_X10_linesOf_L9]
    refine Wp.ifT (fT46 Iv) (Wp.ifT (by rw [W.1]; exact nI_le (Nat.le_refl _) (by omega)) (Wp.ret ⟨?_, d1, W⟩))
    dsimp only
    rw [← mks_w hv]; rfl
theorem x_isL (c : Int32) (g : z_Hp) : c_X7_isLetter F c g = some (if isL c = true then 1 else 0, g) := by
  unfold c_X7_isLetter isL
  simp only [fa_lt, ti_97, ti_122]
  by_cases x : 97 ≤ c.toInt ∧ c.toInt ≤ 122
  · rw [if_neg (by omega), if_neg (by omega), decide_eq_true x, if_pos rfl]
  · rw [decide_eq_false x, if_neg (by decide : ¬ false = true)]
    split
    · rfl
    · rw [if_pos (by omega)]
/-- what x reads of a song -/
def SgX (h : z_Hp) (a b n : Nat) (g : Nat → Int32) : Prop := hT h a = 7 ∧ hR h a 0 = some b ∧ hT h b = 21 ∧ hN h b = n ∧ n ≤ 60 ∧ (∀ k, k < n → hI h b k = g k) ∧ hI h a 1 = nI (mks g n + 1) ∧ hI h a 4 = nI (tkn g n)
theorem sgAt.x {ow : Ow} {s a n : Nat} {g : Nat → Int32} (S : sgAt ow h s a n g) (n60 : n ≤ 60) : ∃ b, SgX h a b n g := by
  obtain ⟨a1, a2, a3, a4, a5, a6, ⟨b, b1, b2, b3, b4, b5⟩, _⟩ := S
  exact ⟨b, a1, b1, b2, b3, n60, b5, a5, a6⟩
theorem x_letters (hF : 5000 ≤ F) {a b n : Nat} {g : Nat → Int32} (S : SgX h a b n g) : c_X7_letters F a h = some (nI (fb_ct (fun k => isL (g k)) n), h) := by
  obtain ⟨t, r, tb, nb, n60, eb, _, _⟩ := S
  have ol : okL h b = true := okL_n tb (by decide) (by decide)
  unfold c_X7_letters
  refine lpS (L := fun m (u : Int32 × Int32) => c_X7_letters_L4 F a m u.1 u.2 h) (fun k => (nI (fb_ct (fun k => isL (g k)) k), nI k)) n (fun m k hk => ?_) (fun m => ?_) F (by omega)
  · show c_X7_letters_L4 F a (m + 1) (nI (fb_ct (fun k => isL (g k)) k)) (nI k) h = c_X7_letters_L4 F a m (nI (fb_ct (fun k => isL (g k)) (k + 1))) (nI (k + 1)) h
    have o1 : okA h b 21 (nI k) = true := okA_n tb nb hk (by omega)
    rw [c_X7_letters_L4]
    simp only [t, r, if_true, ltq, nnq, ol, nb, if_neg (nI_ge hk (show n < 2 ^ 31 by omega)), o1, ix_n (show k < 2147483648 by omega), eb k hk, x_isL, bIq, nI_1]
    by_cases c : isL (g k) = true
    · rw [if_pos c, if_neg one0, fb_ct_succ, if_pos c]
    · rw [if_neg c, if_pos rfl, fb_ct_succ, if_neg c]; rfl
  · show c_X7_letters_L4 F a (m + 1) _ (nI n) h = _
    rw [c_X7_letters_L4]
    simp only [t, r, if_true, ltq, nnq, ol, nb, if_pos (nI_le (Nat.le_refl n) (show n < 2 ^ 31 by omega))]
theorem Rsng.x {ow : Ow} (R : Rsng ow h) {s : Nat} (hs : s < 10) : (hI h 53 s = -9 ∧ hR h 8 s = none) ∨ ∃ n a b g, hI h 53 s = nI n ∧ hR h 8 s = some a ∧ SgX h a b n g ∧ SgM h s n g ∧ sgAt ow h s a n g := by
  rcases R s hs with c | ⟨n, a, n60, e1, e2, S⟩
  · exact Or.inl c
  · obtain ⟨b, X⟩ := S.x n60
    exact Or.inr ⟨n, a, b, _, e1, e2, X, ⟨hs, n60, e1, fun k _ => rfl, S.2.2.2.1⟩, S⟩
theorem m_askS (I : Ifx h) {s : Nat} (hs : s < 10) : c_X10_askedSong F 46 (nI s) h = if 0 ≤ hI h 53 s then some (0, h) else c_X10_meets F 46 1 h := by
  have o53 : okA h 53 20 (nI s) = true := okA_n (fT53 I) (fN53 I) (by omega) (by decide)
  have c : 0 ≤ (nI s).toInt ∧ (nI s).toInt ≤ 9 := by rw [toI_n (by omega)]; omega
  unfold c_X10_askedSong
  rw [m_isSong, bI_some, if_pos c, ite10]
  simp only [fT46 I, fR46_12 I, if_true, ltq, nnq, o53, ix_n (show s < 2147483648 by omega), bI_id]
theorem m_askS_no {x : Int32} (c : ¬ (0 ≤ x.toInt ∧ x.toInt ≤ 9)) : c_X10_askedSong F 46 x h = some (-1, h) := by
  unfold c_X10_askedSong
  rw [m_isSong, bI_some, if_neg c, ite00]
/-- behind a call that asked: both told the same -/
theorem Inv.ask {ow : Ow} {g g' : z_Hp} (J : InvO ow h) (v : Int32) {fs : List Nat} (s : St fs ow (sI h 5 15 v) g) (n3 : 3 ∉ fs) (n53 : 53 ∉ fs) (hf : ∀ x ∈ fs, x ∈ SC) (e : g' = sI g 46 2 v) : InvO ow g' := by
  subst e
  have o := J.1
  have I := J.2.1
  have s1 : St (3 :: 53 :: SC) ow h (sI h 5 15 v) := (St.r I).wI o 3 (by decide) rfl (by decide)
  have I1 := I.st o s1 (by decide)
  have s2 : St (3 :: 53 :: SC) ow h g := (s1.trans s).sub (fun x hx => by
    rw [List.mem_append] at hx
    rcases hx with hx | hx
    · exact hx
    · exact List.mem_cons_of_mem _ (List.mem_cons_of_mem _ (hf x hx)))
  have s3 : St (3 :: 53 :: SC) ow h (sI g 46 2 v) := s2.wI o 53 (by decide) rfl (by decide)
  refine J.fin o s3 (OwX.refl _ _) (by decide) (c3 := fun _ => ?_)
  show hI (sI g 46 2 v) 5 15 = hI (sI g 46 2 v) 46 2
  rw [hI_sI, if_neg (by omega), hI_sI, if_pos ⟨rfl, rfl⟩, (s.fam I1 o n3 5 15 (by decide) rfl).1, hI_sI, if_pos ⟨rfl, rfl⟩]
theorem op_songTold (hF : 5000 ≤ F) (J : Inv h) : OkI h (c_X9_songTold F 5 x1 x2 h) (c_X10_songTold F 46 x1 x2) := by
  obtain ⟨ow, J⟩ := J
  have o := J.1
  have I := J.2.1
  by_cases c1 : 0 ≤ x1.toInt ∧ x1.toInt ≤ 9
  · by_cases c2 : 0 ≤ x2.toInt ∧ x2.toInt ≤ 2
    · obtain ⟨s, hs, rfl⟩ := rng (x := x1) (n := 9) c1
      obtain ⟨wh, hw, rfl⟩ := rng (x := x2) (n := 2) c2
      have w2 : ¬ nI wh < 0 := pnI (by omega)
      have w3 : nI wh ≤ (2 : Int32) := nI_le (b := 2) hw (by omega)
      have c2' : (0 : Int32).toInt ≤ (nI wh).toInt ∧ (nI wh).toInt ≤ (2 : Int32).toInt := by rw [ti_0, ti_2]; exact c2
      have o8 : okA h 8 25 (nI s) = true := okA_n (fT8 I) (fN8 I) (by omega) (by decide)
      rcases J.sng.x (s := s) (by omega) with ⟨g1, g2⟩ | ⟨n, a, b, g, e1, e2, X, M, _⟩
      · refine OkI.found0 (F := F) 1 (by decide) J ?_ (fun h' w => ?_)
        · unfold c_X9_songTold
          show _ = c_X9_found F 5 1 h
          rw [x_isSong, bI_some, if_pos c1, ite10, if_neg w2, if_pos w3]
          simp only [fT5 I, fR5_2 I, if_true, ltq, nnq, o8, ix_n (show s < 2147483648 by omega), g2, nlz, bI_id]
        · have I' := I.st o w (by decide)
          have e : hI h' 53 s = -9 := (w.fam I o (c := 62) (by decide) 53 s (by omega) rfl).1.trans g1
          unfold c_X10_songTold
          show _ = c_X10_meets F 46 1 h'
          rw [m_in, bI_some, if_pos c2', ite10, fT46 I', if_pos rfl, m_askS F I' (by omega), e, if_neg nn9, m_meets I' F 1 1 rfl (by decide), bI_some, if_neg (by decide)]
      · have n60 := M.2.1
        have tl := tkn_le g n
        -- the three answers
        obtain ⟨v, hv⟩ : ∃ v : Int32, v = if wh = 0 then nI (mks g n + 1) else if wh = 1 then nI (tkn g n) - (nI (mks g n + 1) - 1) else nI (fb_ct (fun k => isL (g k)) n) := ⟨_, rfl⟩
        have n1 : ∀ j : Nat, j < 3 → (nI wh = nI j ↔ wh = j) := fun j hj => nI_eq (by omega) (by omega)
        refine OkI.wp ⟨(1, sI h 5 15 v), ?_, ?_⟩
        · unfold c_X9_songTold
          rw [x_isSong, bI_some, if_pos c1, ite10, if_neg w2, if_pos w3]
          simp only [fT5 I, fR5_2 I, if_true, ltq, nnq, o8, ix_n (show s < 2147483648 by omega), e2, nlq, X.1, x_letters F hF X, bIq, X.2.2.2.2.2.2.1]
          by_cases z0 : wh = 0
          · rw [if_pos (show nI wh = 0 by rw [z0]; rfl), hv, if_pos z0]
          · rw [if_neg (show ¬ nI wh = (0 : Int32) from fun y => z0 ((n1 0 (by omega)).mp y))]
            by_cases z1 : wh = 1
            · rw [if_pos (show nI wh = 1 by rw [z1]; rfl), hv, if_neg z0, if_pos z1]
              unfold c_X7_words
              simp only [X.1, if_true, X.2.2.2.2.2.2.1, X.2.2.2.2.2.2.2, bIq, fT5 I]
            · rw [if_neg (show ¬ nI wh = (1 : Int32) from fun y => z1 ((n1 1 (by omega)).mp y)), hv, if_neg z0, if_neg z1]
        · dsimp only
          have c0 : ChI (fun a i => a = 5 ∧ i = 15) h (sI h 5 15 v) := (ChI.refl _ _).set ⟨rfl, rfl⟩
          have I1 := c0.fx I
          have M1 := M.ch c0 (fun i => ⟨by omega, by omega⟩)
          have e53 : hI (sI h 5 15 v) 53 s = nI n := M1.2.2.1
          unfold c_X10_songTold
          refine Wp.cIe (m_in F _ _ _ _) (Wp.ifF (by rw [if_pos c2']; exact one0) (Wp.ifT (fT46 I1) (Wp.cIe (show c_X10_askedSong F 46 (nI s) (sI h 5 15 v) = some (0, sI h 5 15 v) by rw [m_askS F I1 (by omega), e53, if_pos (nge (by omega))]) (Wp.ifT (by decide) (Wp.ifT (fT46 I1) (Wp.cI ((m_lines F I1 hF M1).mono (fun r d => ?_))))))))
          obtain ⟨l, k⟩ := r
          obtain ⟨d1, d2, W⟩ := d
          dsimp only at d1 d2 W ⊢
          subst d1
          have Ik := d2.fx I1
          refine Wp.loop (L := fun m (u : Int32 × Int32) => c_X10_songTold_L36 F 46 (nI wh) (nI (mks g n + 1)) _ m u.1 u.2 k) (N := tkn g n) (fun w u => u.1 = nI (fb_sm (fun w => wsz g n (tp g n w)) w) ∧ u.2 = nI w) (fun m w u hw' hP ih => ?_) (fun m u hP => ?_) F (0, 0) (by omega) ⟨rfl, rfl⟩
          · obtain ⟨u1, u2⟩ := u
            obtain ⟨q1, q2⟩ := hP
            dsimp only at q1 q2 ⊢
            subst q1 q2
            have o56 : okA k 56 20 (nI w) = true := okA_n (fT56 Ik) (fN56 Ik) (by omega) (by decide)
            rw [c_X10_songTold_L36, nI_1, ix_n (show w < 2147483648 by omega)]
            refine Wp.ifT (fT46 Ik) (Wp.ifF (by rw [W.1]; exact nI_ge hw' (by omega)) (Wp.ifT (fT46 Ik) (Wp.ltO (Wp.rf (fR46_16 Ik) (Wp.ifT o56 (Wp.ltI (Wp.ltI ?_)))))))
            rw [(W.at hw').2, nI_add]
            exact ih (nI (fb_sm (fun w => wsz g n (tp g n w)) w + wsz g n (tp g n w)), nI (w + 1)) ⟨rfl, rfl⟩
          · obtain ⟨u1, u2⟩ := u
            obtain ⟨q1, q2⟩ := hP
            dsimp only at q1 q2 ⊢
            subst q1 q2
            rw [c_X10_songTold_L36]
            refine Wp.ifT (fT46 Ik) (Wp.ifT (by rw [W.1]; exact nI_le (Nat.le_refl _) (by omega)) (Wp.lj (fun j hj => ?_)))
            have go : ∀ x, x = v → Wp (j x k) (fun r' => r'.1 = 1 ∧ Inv r'.2 ∧ hZ r'.2 ≤ hZ h + 5 ∧ hS r'.2 ≤ hS h + 5000) := fun x hx => by
              rw [hj, hx]
              dsimp only
              refine Wp.ifT (fT46 Ik) (Wp.cIe (show c_X10_ask F 46 v 1 k = some (1, sI k 46 2 v) by unfold c_X10_ask; rw [fT46 Ik, if_pos rfl]; rfl) (Wp.ret ⟨rfl, ⟨ow, Inv.ask J v (d2.st (fs := [102]) I1 o (fun a i e => e.ow)) (by decide) (by decide) (by decide) rfl⟩, ?_, ?_⟩))
              · show hZ k ≤ _; rw [d2.Z.1]; show hZ h ≤ _; omega
              · show hS k ≤ _; rw [d2.Z.2]; show hS h ≤ _; omega
            by_cases z0 : wh = 0
            · exact Wp.ifT (show nI wh = 0 by rw [z0]; rfl) (go _ (by rw [hv, if_pos z0]))
            · refine Wp.ifF (fun y => z0 ((n1 0 (by omega)).mp y)) ?_
              by_cases z1 : wh = 1
              · refine Wp.ifT (show nI wh = 1 by rw [z1]; rfl) (Wp.ifT (fT46 Ik) (go _ ?_))
                rw [hv, if_neg z0, if_pos z1, W.1]
                have r1 := nI_toInt (n := tkn g n) (by omega)
                rw [fa_eq]
                have m60 : mks g n ≤ n := fb_ct_le _ _
                have mt : mks g n ≤ tkn g n := by rw [← mks_w M.2.2.2.2.1]; exact fb_ct_le _ _
                rw [show (1 : Int32) = nI 1 from rfl, nI_sub (show 1 ≤ mks g n + 1 by omega), Nat.add_sub_cancel, nI_sub mt]
                have : nI (tkn g n) - nI (mks g n + 1) + nI 1 = nI (tkn g n - mks g n) := by
                  have e1 : nI (mks g n + 1) = nI (mks g n) + nI 1 := (nI_add _ _).symm
                  rw [e1, ← Int32.sub_sub, Int32.sub_add_cancel, nI_sub mt]
                rw [this]
              · refine Wp.ifF (fun y => z1 ((n1 1 (by omega)).mp y)) (go _ ?_)
                rw [hv, if_neg z0, if_neg z1, let_w M.2.2.2.2.1]
    · refine OkI.same (-1) ⟨ow, J⟩ ?_ ?_
      · unfold c_X9_songTold
        rw [x_isSong, bI_some, if_pos c1, ite10]
        by_cases d : x2 < 0
        · rw [if_pos d]
        · rw [if_neg d, if_neg (by rw [fa_le, ti_2]; rw [fa_lt, ti_0] at d; omega)]
      · unfold c_X10_songTold
        rw [m_in, bI_some, if_neg (show ¬ ((0 : Int32).toInt ≤ x2.toInt ∧ x2.toInt ≤ (2 : Int32).toInt) by rw [ti_0, ti_2]; exact c2), ite00]
  · refine OkI.same (-1) ⟨ow, J⟩ ?_ ?_
    · unfold c_X9_songTold
      rw [x_isSong, bI_some, if_neg c1, ite00]
    · unfold c_X10_songTold
      rw [m_in, bI_some]
      by_cases d : (0 : Int32).toInt ≤ x2.toInt ∧ x2.toInt ≤ (2 : Int32).toInt
      · rw [if_pos d, ite10, fT46 I, if_pos rfl, m_askS_no F c1, bI_some, if_neg (by decide)]
      · rw [if_neg d, ite00]
end Sgt
