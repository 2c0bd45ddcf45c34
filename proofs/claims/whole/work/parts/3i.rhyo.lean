section Rhyo
variable {h : z_Hp} (F : Nat) (x1 x2 x3 x4 x5 : Int32)
theorem m_rStep (I : Ifx h) {s n w v p1 z1 p2 z2 od k : Nat} {g : Nat → Int32} (S : SgM h s n g) (hw : w < 70) (hv : v < 70) (a1 : hI h 55 w = nI p1) (a2 : hI h 56 w = nI z1) (b1 : hI h 55 v = nI p2) (b2 : hI h 56 v = nI z2) (l1 : p1 + z1 ≤ n) (l2 : p2 + z2 ≤ n) (k0 : 0 < k) (kz : k ≤ z1) (kv : k ≤ z2) (ho : k ≤ od) (ho2 : od ≤ 2) (K : Int32 → z_Hp → Option (Int32 × z_Hp)) (N : Nat) {P : Int32 × z_Hp → Prop} (kk : Wp (c_X10_rhyme_L119 F 46 (nI s) (nI w) (nI v) (nI od) K N (if g (p1 + z1 - k) = g (p2 + z2 - k) then 1 else 0) (nI (k + 1)) h) P) : Wp (c_X10_rhyme_L119 F 46 (nI s) (nI w) (nI v) (nI od) K (N + 1) 1 (nI k) h) P := by
  obtain ⟨s10, n60, e53, e54, _⟩ := S
  have o55w : okA h 55 20 (nI w) = true := okA_n (fT55 I) (fN55 I) (by omega) (by decide)
  have o56w : okA h 56 20 (nI w) = true := okA_n (fT56 I) (fN56 I) (by omega) (by decide)
  have o55v : okA h 55 20 (nI v) = true := okA_n (fT55 I) (fN55 I) (by omega) (by decide)
  have o56v : okA h 56 20 (nI v) = true := okA_n (fT56 I) (fN56 I) (by omega) (by decide)
  have oA : okA h 54 20 (nI (60 * s + (p1 + z1 - k))) = true := okA_n (fT54 I) (fN54 I) (by omega) (by decide)
  have oB : okA h 54 20 (nI (60 * s + (p2 + z2 - k))) = true := okA_n (fT54 I) (fN54 I) (by omega) (by decide)
  have iA : (60 : Int32) * nI s + nI p1 + nI z1 - nI k = nI (60 * s + (p1 + z1 - k)) := by rw [e60, nI_add, nI_sub (by omega)]; congr 1; omega
  have iB : (60 : Int32) * nI s + nI p2 + nI z2 - nI k = nI (60 * s + (p2 + z2 - k)) := by rw [e60, nI_add, nI_sub (by omega)]; congr 1; omega
  rw [c_X10_rhyme_L119, nI_1 k, ix_n (show w < 2147483648 by omega), ix_n (show v < 2147483648 by omega)]
  refine Wp.ifF (nI_nlt ho (by omega)) (Wp.ifF one0 (Wp.ifT (fT46 I) (Wp.ltO (Wp.ifT (fT46 I) (Wp.ltO (Wp.rf (fR46_15 I) (Wp.ifT o55w (Wp.ifT (fT46 I) (Wp.ltO (Wp.rf (fR46_16 I) (Wp.ifT o56w (Wp.rf (fR46_13 I) ?_))))))))))))
  rw [a1, a2, iA, ix_n (show 60 * s + (p1 + z1 - k) < 2147483648 by omega)]
  refine Wp.ifT oA (Wp.ifT (fT46 I) (Wp.ltO (Wp.ifT (fT46 I) (Wp.ltO (Wp.rf (fR46_15 I) (Wp.ifT o55v (Wp.ifT (fT46 I) (Wp.ltO (Wp.rf (fR46_16 I) (Wp.ifT o56v (Wp.rf (fR46_13 I) ?_)))))))))))
  rw [b1, b2, iB, ix_n (show 60 * s + (p2 + z2 - k) < 2147483648 by omega)]
  refine Wp.ifT oB (Wp.lj (fun j hj => ?_))
  rw [e54 _ (by omega), e54 _ (by omega)]
  by_cases c : g (p1 + z1 - k) = g (p2 + z2 - k)
  · rw [if_pos c] at kk
    refine Wp.ifT c ?_
    rw [hj]
    exact kk
  · rw [if_neg c] at kk
    refine Wp.ifF c ?_
    rw [hj]
    exact kk
theorem m_rStop {s w v od k : Nat} (K : Int32 → z_Hp → Option (Int32 × z_Hp)) (N : Nat) {P : Int32 × z_Hp → Prop} (kk : Wp (K 0 h) P) : Wp (c_X10_rhyme_L119 F 46 (nI s) (nI w) (nI v) (nI od) K (N + 1) 0 (nI k) h) P := by
  rw [c_X10_rhyme_L119]
  exact Wp.cs (fun _ => kk) (fun _ => Wp.ifT rfl kk)
theorem m_rEnd {s w v od k : Nat} (hk : od < k) (hk2 : k < 100) (x : Int32) (K : Int32 → z_Hp → Option (Int32 × z_Hp)) (N : Nat) {P : Int32 × z_Hp → Prop} (kk : Wp (K x h) P) : Wp (c_X10_rhyme_L119 F 46 (nI s) (nI w) (nI v) (nI od) K (N + 1) x (nI k) h) P := by
  rw [c_X10_rhyme_L119]
  exact Wp.ifT (nI_lt hk (by omega)) kk
theorem op_rhyme (hF : 5000 ≤ F) (J : Inv h) : OkI h (c_X9_rhyme F 5 x1 x2 x3 h) (c_X10_rhyme F 46 x1 x2 x3) := by
  obtain ⟨ow, J⟩ := J
  have o := J.1
  have I := J.2.1
  by_cases c1 : 0 ≤ x1.toInt ∧ x1.toInt ≤ 9
  · obtain ⟨s, hs, rfl⟩ := rng (x := x1) (n := 9) c1
    have o8 : okA h 8 25 (nI s) = true := okA_n (fT8 I) (fN8 I) (by omega) (by decide)
    rcases J.sng.x (s := s) (by omega) with ⟨g1, g2⟩ | ⟨n, a, b, g, e1, e2, X, M, SG⟩
    · refine OkI.found0 (F := F) 1 (by decide) J ?_ (fun h' w => ?_)
      · unfold c_X9_rhyme
        show _ = c_X9_found F 5 1 h
        rw [x_isSong, bI_some, if_pos c1, ite10]
        simp only [fT5 I, fR5_2 I, if_true, ltq, nnq, o8, ix_n (show s < 2147483648 by omega), g2, nlz, bI_id]
      · have I' := I.st o w (by decide)
        have e : hI h' 53 s = -9 := (w.fam I o (c := 62) (by decide) 53 s (by omega) rfl).1.trans g1
        unfold c_X10_rhyme
        show _ = c_X10_meets F 46 1 h'
        rw [fT46 I', if_pos rfl, m_askS F I' (by omega), e, if_neg nn9, m_meets I' F 1 1 rfl (by decide), bI_some, if_neg (by decide)]
    · have n60 := M.2.1
      have SS := M.2.2.2.2
      have ml : mks g n ≤ n := fb_ct_le _ _
      have tl := tkn_le g n
      obtain ⟨b2, b3, T⟩ := SG.t
      have asked : ∀ k, Ifx k → SgM k s n g → c_X10_askedSong F 46 (nI s) k = some (0, k) := fun k Ik Mk => by rw [m_askS F Ik (by omega), Mk.2.2.1, if_pos (nge (by omega))]
      by_cases c2 : (0 ≤ x2.toInt ∧ x2.toInt ≤ (mks g n : Int)) ∧ (0 ≤ x3.toInt ∧ x3.toInt ≤ (mks g n : Int))
      · obtain ⟨i, hi, rfl⟩ := rng (x := x2) (n := mks g n) c2.1
        obtain ⟨j, hj, rfl⟩ := rng (x := x3) (n := mks g n) c2.2
        obtain ⟨⟨l, k⟩, k1, k2, k3, W⟩ := m_lines F I hF M
        dsimp only at k2 k3 W
        have Ik := k3.fx I
        have Mk := M.ch k3 (fun i => ⟨by unfold Aw; omega, by unfold Aw; omega⟩)
        obtain ⟨r1, f1, w, er1, A⟩ := m_lastW F Ik hF n60 SS W hi
        obtain ⟨r2, f2, v, er2, B⟩ := m_lastW F Ik hF n60 SS W hj
        rw [er1] at f1
        rw [er2] at f2
        obtain ⟨r3, d1, d2⟩ := x_rhyme F hF X T SS hi hj A B
        rw [d2] at d1
        have sk : St [102] ow h k := k3.st (fs := [102]) I o (fun a i e => e.ow)
        have zw : ¬ wsz g n (tp g n w) = 0 := fun y => by have := A.2.1; rw [show Zw g n w = true from decide_eq_true y] at this; cases this
        have zv : ¬ wsz g n (tp g n v) = 0 := fun y => by have := B.2.1; rw [show Zw g n v = true from decide_eq_true y] at this; cases this
        have wl := wsz_le g (n := n) (k := tp g n w) (by have := (tp_ok A.1).1; omega)
        have vl := wsz_le g (n := n) (k := tp g n v) (by have := (tp_ok B.1).1; omega)
        obtain ⟨wa1, wa2⟩ := W.at A.1
        obtain ⟨vb1, vb2⟩ := W.at B.1
        have hw := A.1
        have hv := B.1
        generalize tp g n w = p1 at *
        generalize tp g n v = p2 at *
        generalize wsz g n p1 = z1 at *
        generalize wsz g n p2 = z2 at *
        refine OkI.wp ⟨(rhy g p1 z1 p2 z2, h), ?_, ?_⟩
        · unfold c_X9_rhyme
          rw [x_isSong, bI_some, if_pos c1, ite10]
          simp only [fT5 I, fR5_2 I, if_true, ltq, nnq, o8, ix_n (show s < 2147483648 by omega), e2, nlq, X.1, x_hasLine F X, bIq, if_pos c2.1, if_pos c2.2, ite10, d1]
          have r01 : rhy g p1 z1 p2 z2 = 0 ∨ rhy g p1 z1 p2 z2 = 1 := by
            unfold rhy
            split
            · exact Or.inl rfl
            · split
              · split
                · exact Or.inr rfl
                · split
                  · exact Or.inr rfl
                  · exact Or.inl rfl
              · exact Or.inl rfl
          rcases r01 with e | e
          · rw [e, if_pos rfl]
          · rw [e, if_neg one0]
        · dsimp only
          have fin : ∀ x : Int32, x = rhy g p1 z1 p2 z2 → Wp (some (x, k)) (fun r' => r'.1 = rhy g p1 z1 p2 z2 ∧ Inv r'.2 ∧ hZ r'.2 ≤ hZ h + 5 ∧ hS r'.2 ≤ hS h + 5000) := fun x hx => Wp.ret ⟨hx, ⟨ow, J.fin o sk (OwX.refl _ _) (by decide)⟩, by show hZ k ≤ _; rw [k3.Z.1]; omega, by show hS k ≤ _; rw [k3.Z.2]; omega⟩
          have o56w : okA k 56 20 (nI w) = true := okA_n (fT56 Ik) (fN56 Ik) (by omega) (by decide)
          have o56v : okA k 56 20 (nI v) = true := okA_n (fT56 Ik) (fN56 Ik) (by omega) (by decide)
          unfold c_X10_rhyme
          refine Wp.ifT (fT46 I) (Wp.cIe (asked h I M) (Wp.ifT (by decide) (Wp.ifT (fT46 I) (Wp.cIe k1 ?_))))
          rw [k2]
          refine Wp.cIe (m_inL F n60 _ _) (Wp.lj (fun jB hjB => Wp.ifF (by rw [if_pos c2.1]; exact one0) (Wp.cIe (m_inL F n60 _ _) (Wp.ifF (by rw [if_pos c2.2]; exact one0) (Wp.ifT (fT46 Ik) (Wp.cIe f1 (Wp.ifT (fT46 Ik) (Wp.cIe f2 (Wp.ifT (fT46 Ik) (Wp.ltO (Wp.rf (fR46_16 Ik) (Wp.ifT o56w (Wp.lj (fun jC hjC => ?_))))))))))))))
          rw [ix_n (show w < 2147483648 by omega), wa2]
          obtain ⟨F3, hF3⟩ : ∃ F3, F = F3 + 1 + 1 + 1 := ⟨F - 3, by omega⟩
          -- the comparison of ends
          have core : ∀ od td : Nat, (od = if 2 ≤ z1 then 2 else 1) → (td = if 2 ≤ z2 then 2 else 1) → ∀ K : Int32 → z_Hp → Option (Int32 × z_Hp), (∀ x : Int32, x = rhy g p1 z1 p2 z2 → Wp (K x k) (fun r' => r'.1 = rhy g p1 z1 p2 z2 ∧ Inv r'.2 ∧ hZ r'.2 ≤ hZ h + 5 ∧ hS r'.2 ≤ hS h + 5000)) → Wp (c_X10_rhyme_L119 F 46 (nI s) (nI w) (nI v) (nI od) K (F3 + 1 + 1 + 1) (if od = td then 1 else 0) (nI 1) k) (fun r' => r'.1 = rhy g p1 z1 p2 z2 ∧ Inv r'.2 ∧ hZ r'.2 ≤ hZ h + 5 ∧ hS r'.2 ≤ hS h + 5000) := by
            intro od td hod htd K hK
            by_cases e : z1 = 1 ↔ z2 = 1
            · have et : od = td := by
                rw [hod, htd]
                by_cases q1 : z1 = 1
                · rw [if_neg (by omega), if_neg (by have := e.mp q1; omega)]
                · rw [if_pos (by omega), if_pos (by have : ¬ z2 = 1 := fun y => q1 (e.mpr y); omega)]
              have o1 : 1 ≤ od := by rw [hod]; split <;> omega
              have o2 : od ≤ 2 := by rw [hod]; split <;> omega
              rw [if_pos et]
              refine m_rStep F Ik Mk (by omega) (by omega) wa1 wa2 vb1 vb2 wl vl (by decide) (by omega) (by omega) o1 o2 K _ ?_
              by_cases q1 : g (p1 + z1 - 1) = g (p2 + z2 - 1)
              · rw [if_pos q1]
                by_cases q2 : z1 = 1
                · have od1 : od = 1 := by rw [hod, if_neg (by omega)]
                  refine m_rEnd F (by omega) (by decide) _ K _ (hK 1 ?_)
                  unfold rhy
                  rw [if_neg (fun y => y e), if_pos q1, if_pos q2]
                · have od2 : od = 2 := by rw [hod, if_pos (by omega)]
                  have z2n : ¬ z2 = 1 := fun y => q2 (e.mpr y)
                  refine m_rStep F Ik Mk (by omega) (by omega) wa1 wa2 vb1 vb2 wl vl (by decide) (by omega) (by omega) (by omega) o2 K _ ?_
                  by_cases q3 : g (p1 + z1 - (1 + 1)) = g (p2 + z2 - (1 + 1))
                  · rw [if_pos q3]
                    refine m_rEnd F (by omega) (by decide) _ K _ (hK 1 ?_)
                    unfold rhy
                    rw [if_neg (fun y => y e), if_pos q1, if_neg q2, if_pos q3]
                  · rw [if_neg q3]
                    refine m_rStop F K _ (hK 0 ?_)
                    unfold rhy
                    rw [if_neg (fun y => y e), if_pos q1, if_neg q2, if_neg q3]
              · rw [if_neg q1]
                refine m_rStop F K _ (hK 0 ?_)
                unfold rhy
                rw [if_neg (fun y => y e), if_neg q1]
            · have et : ¬ od = td := by
                intro y
                apply e
                rw [hod, htd] at y
                constructor
                · intro q1
                  rw [if_neg (by omega)] at y
                  by_cases q2 : 2 ≤ z2
                  · rw [if_pos q2] at y; omega
                  · omega
                · intro q1
                  rw [if_neg (show ¬ 2 ≤ z2 by omega)] at y
                  by_cases q2 : 2 ≤ z1
                  · rw [if_pos q2] at y; omega
                  · omega
              rw [if_neg et]
              refine m_rStop F K _ (hK 0 ?_)
              unfold rhy
              rw [if_pos e]
          have gC : ∀ od : Nat, (od = if 2 ≤ z1 then 2 else 1) → Wp (jC (nI od) k) (fun r' => r'.1 = rhy g p1 z1 p2 z2 ∧ Inv r'.2 ∧ hZ r'.2 ≤ hZ h + 5 ∧ hS r'.2 ≤ hS h + 5000) := fun od hod => by
            rw [hjC]
            dsimp only
            refine Wp.ifT (fT46 Ik) (Wp.ltO (Wp.rf (fR46_16 Ik) (Wp.ifT o56v (Wp.lj (fun jD hjD => ?_)))))
            rw [ix_n (show v < 2147483648 by omega), vb2]
            have od2 : od ≤ 2 := by rw [hod]; split <;> omega
            have gD : ∀ td : Nat, (td = if 2 ≤ z2 then 2 else 1) → Wp (jD (nI td) k) (fun r' => r'.1 = rhy g p1 z1 p2 z2 ∧ Inv r'.2 ∧ hZ r'.2 ≤ hZ h + 5 ∧ hS r'.2 ≤ hS h + 5000) := fun td htd => by
              have td2 : td ≤ 2 := by rw [htd]; split <;> omega
              rw [hjD]
              dsimp only
              refine Wp.lj (fun jE hjE => ?_)
              have key := core od td hod htd (fun x59 h60 => (if x59 = 0 then (some (0, h60)) else (some (1, h60)))) (fun x hx => by
                by_cases q : x = 0
                · rw [if_pos q]; exact fin 0 (by rw [← hx, q])
                · rw [if_neg q]
                  refine fin 1 ?_
                  rw [hx] at q
                  unfold rhy at q ⊢
                  split
                  · rw [if_pos ‹_›] at q; exact absurd rfl q
                  · rename_i q1
                    rw [if_neg q1] at q
                    split
                    · rename_i q2
                      rw [if_pos q2] at q
                      split
                      · rfl
                      · rename_i q3
                        rw [if_neg q3] at q
                        split
                        · rfl
                        · rename_i q4
                          rw [if_neg q4] at q
                          exact absurd rfl q
                    · rename_i q2
                      rw [if_neg q2] at q
                      exact absurd rfl q)
              rw [← hF3] at key
              by_cases q : od = td
              · rw [if_pos q] at key
                refine Wp.ifT (by rw [q]) ?_
                rw [hjE]
                exact key
              · rw [if_neg q] at key
                refine Wp.ifF (fun y => q ((nI_eq (by omega) (by omega)).mp y)) ?_
                rw [hjE]
                exact key
            by_cases q : 2 ≤ z2
            · exact Wp.ifT (nI_le (a := 2) q (by omega)) (gD 2 (by rw [if_pos q]))
            · exact Wp.ifF (nI_ge (b := 2) (by omega) (by omega)) (gD 1 (by rw [if_neg q]))
          by_cases q : 2 ≤ z1
          · exact Wp.ifT (nI_le (a := 2) q (by omega)) (gC 2 (by rw [if_pos q]))
          · exact Wp.ifF (nI_ge (b := 2) (by omega) (by omega)) (gC 1 (by rw [if_neg q]))
      · have I2 : ∀ k, k = sI (sI h 5 12 (nI 2)) 45 2 (hI h 45 2 + 1) → Ifx k ∧ SgM k s n g := fun k ek => by
          have c0 : ChI (fun a i => a = 5 ∨ a = 45) h k := by rw [ek]; exact ((ChI.refl _ _).set (Or.inl rfl)).set (Or.inr rfl)
          exact ⟨c0.fx I, M.ch c0 (fun i => ⟨by omega, by omega⟩)⟩
        refine OkI.found (F := F) 2 (by decide) J (St.r I) (Szs.refl _) ?_ ?_
        · unfold c_X9_rhyme
          rw [x_isSong, bI_some, if_pos c1, ite10]
          simp only [fT5 I, fR5_2 I, if_true, ltq, nnq, o8, ix_n (show s < 2147483648 by omega), e2, nlq, X.1, x_hasLine F X, bIq, bI_id]
          by_cases d : 0 ≤ x2.toInt ∧ x2.toInt ≤ (mks g n : Int)
          · rw [if_pos d, if_neg one0, if_neg (fun y => c2 ⟨d, y⟩), if_pos rfl]; rfl
          · rw [if_neg d, if_pos rfl]; rfl
        · obtain ⟨Ik0, Mk0⟩ := I2 _ rfl
          obtain ⟨⟨l, k⟩, k1, k2, k3, k4⟩ := m_lines F Ik0 hF Mk0
          dsimp only at k2 k3 k4
          rw [k2] at k1
          have Ik := k3.fx Ik0
          refine ⟨k, (k3.st (fs := [102]) Ik0 o (fun a i e => e.ow)).sub (by decide), ⟨k3.Z.1, k3.Z.2⟩, ?_⟩
          unfold c_X10_rhyme
          rw [fT46 Ik0, if_pos rfl, asked _ Ik0 Mk0, bI_some, if_pos (by decide), fT46 Ik0, if_pos rfl, k1, bI_some, m_inL F n60, bI_some]
          dsimp only [lt_]
          by_cases d : 0 ≤ x2.toInt ∧ x2.toInt ≤ (mks g n : Int)
          · rw [if_pos d, if_neg one0, m_inL F n60, bI_some, if_neg (fun y => c2 ⟨d, y⟩), if_pos rfl, fT46 Ik, if_pos rfl, bI_id]; rfl
          · rw [if_neg d, if_pos rfl, fT46 Ik, if_pos rfl, bI_id]; rfl
  · refine OkI.same (-1) ⟨ow, J⟩ ?_ ?_
    · unfold c_X9_rhyme
      rw [x_isSong, bI_some, if_neg c1, ite00]
    · unfold c_X10_rhyme
      rw [fT46 I, if_pos rfl, m_askS_no F c1, bI_some, if_neg (by decide)]
end Rhyo
