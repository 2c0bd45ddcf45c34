section Jdo
variable {h : z_Hp} (F : Nat) (x1 x2 x3 x4 x5 : Int32)
theorem eq_wp {α : Type} {a p : Option α} (w : Wp a (fun r => some r = p)) : a = p := by
  obtain ⟨r, e1, e2⟩ := w
  exact e1.trans e2
theorem pcn_q {D q : Nat} (d2 : D < 2 ^ q) : ∀ k, pcn D (q + k) = pcn D q
  | 0 => rfl
  | k + 1 => by
    have := Nat.testBit_lt_two_pow (show D < 2 ^ (q + k) from Nat.lt_of_lt_of_le d2 (Nat.pow_le_pow_right (by decide) (by omega)))
    rw [← Nat.add_assoc, pcn_s, this, pcn_q d2 k]; rfl
theorem m_jud {ow : Ow} {e0 : z_Hp} (J : InvO ow h) (hF : 5000 ≤ F) {q D sl r : Nat} (hq : q ≤ 20) (h2 : hI h 46 26 = nI q) (h3 : Sh ow h q) (d1 : 1 ≤ D) (d2 : D < 2 ^ q) (hD : D < 1048576) (pc : pcn D 20 ≤ 10) (pq : pcn D 20 = pcn D q) (ex : ∃ t, t < q ∧ D.testBit t = true) (A : AllS h q D) (hsl : sl ≤ 999) (esl : now (mm h) 3 = nI sl) (hr : r < 6) (e48 : hI h 48 r = nI (pcn D q)) (s0 : St [121, 123, 124, 125, 3] ow h e0) : Wp (c_X10_judge F 46 (nI D) (nI r) e0) (fun u => ((¬ fea (mm h) q sl (fun _ => false) = true ∧ u.1 = -4 ∧ hI u.2 46 2 = hI h 46 2) ∨ (fea (mm h) q sl (fun _ => false) = true ∧ ((∃ s, s < q ∧ D.testBit s = true ∧ ¬ gd (yl (mm h) q (fun _ => false)) D q (hI h 49 (40 * r + pcn D s)) s ∧ (∀ t, t < s → D.testBit t = true → gd (yl (mm h) q (fun _ => false)) D q (hI h 49 (40 * r + pcn D t)) t) ∧ u.1 = nI s ∧ hI u.2 46 2 = hI h 46 2) ∨ ((∀ s, s < q → D.testBit s = true → gd (yl (mm h) q (fun _ => false)) D q (hI h 49 (40 * r + pcn D s)) s) ∧ u.1 = -9 ∧ hI u.2 46 2 = nI (fb_sm (fun s => if D.testBit s = true then ctb (VV h) (hI h 49 (40 * r + pcn D s)) s else 0) q))))) ∧ St [121, 123, 124, 125, 3, 106, 53, 102, 107, 108] ow h u.2 ∧ hI u.2 5 15 = hI e0 5 15 ∧ hZ u.2 = hZ e0 ∧ hS u.2 = hS e0) := by
  have o := J.1
  have I := J.2.1
  have I0 := I.st o s0 (by decide)
  have m0 : mm e0 = mm h := mm_st I o s0 (by decide)
  have e26 : hI e0 46 26 = nI q := (s0.fam I o (c := 66) (by decide) 46 26 (by omega) rfl).1.trans h2
  have R0 := (Sh.refS h3 J.sng).st I o s0 (by decide) (by decide)
  have f48 : hI e0 48 r = nI (pcn D q) := (s0.fam I o (c := 60) (by decide) 48 r (by omega) rfl).1.trans e48
  have o48 : okA e0 48 20 (nI r) = true := okA_n (fT48 I0) (fN48 I0) (by omega) (by decide)
  have cr : 0 ≤ (nI r).toInt ∧ (nI r).toInt ≤ 5 := by rw [toI_n (by omega)]; omega
  unfold c_X10_judge
  rw [ix_n (show r < 2147483648 by omega)]
  refine Wp.cIe (m_isRow F _ _) (Wp.ifF (by rw [if_pos cr]; exact one0) (Wp.ifT (fT46 I0) (Wp.cIe (m_set F I0 hF hq e26 hD d1 d2) ?_)))
  rw [if_pos pc]
  refine Wp.ifT (by decide) (Wp.ifT (fT46 I0) (Wp.ltO (Wp.rf (fR46_7 I0) (Wp.ifT o48 ?_))))
  rw [f48]
  refine Wp.lj (fun jA _ => Wp.ifF (pnI (by omega)) (Wp.ifT (fT46 I0) (Wp.cI ((m_haveS F I0 hF hq e26 R0 hD).mono (fun u d => ?_)))))
  obtain ⟨r1, k0⟩ := u
  obtain ⟨w1, w2⟩ := d
  dsimp only at w1 w2 ⊢
  rw [w1]
  have w3 : r1 = 1 := by
    rcases w2 with ⟨_, y⟩ | ⟨y, _⟩
    · exact y
    · exact absurd ((AllS.st I o s0 (by decide) (by decide)).mpr A) y
  rw [w3]
  refine Wp.ifF one0 (Wp.ifT (fT46 I0) (Wp.ltO (Wp.rf (fR46_7 I0) (Wp.ifT o48 (Wp.cIe (m_bits F (by omega) hF) ?_)))))
  rw [f48, pq]
  refine Wp.ifT rfl (Wp.ifT (fT46 I0) (Wp.cI ((m_setYears F I0 (J.rul.st I o s0 (by decide) (by decide)) hF (W := 0) hq e26 ((Sh.ref h3 J.prn).st hq I o s0 (by decide) (by decide)) hsl (by rw [m0]; exact esl) (by decide)).mono (fun u k => ?_))))
  obtain ⟨x', g'⟩ := u
  obtain ⟨k1, k2, k3⟩ := k
  rw [m0] at k1 k3
  have z : (fun s : Nat => (0 : Nat).testBit s) = fun _ => false := by funext i; exact Nat.zero_testBit i
  rw [z] at k1 k3
  dsimp only at k1 k2 k3 ⊢
  have I' := k2.fx I0
  have s' : St [121, 123, 124, 125, 3, 106] ow h g' := (s0.trans (k2.st (fs := [106]) I0 o (fun a i e => e.ow))).sub (by decide)
  have e2 : hI g' 46 2 = hI h 46 2 := (s'.fam I o (c := 53) (by decide) 46 2 (by omega) rfl).1
  have e15 : hI g' 5 15 = hI e0 5 15 := k2.1 5 15 (by unfold A8; omega)
  by_cases f : fea (mm h) q sl (fun _ => false) = true
  · rw [if_pos f] at k1
    rw [k1]
    have R1 := (Sh.refS h3 J.sng).st I o s' (by decide) (by decide)
    have g26 : hI g' 46 26 = nI q := (s'.fam I o (c := 66) (by decide) 46 26 (by omega) rfl).1.trans h2
    have gy : ∀ v, v < q → hI g' 80 v = nI (yl (mm h) q (fun _ => false) v) ∧ yl (mm h) q (fun _ => false) v ≤ 1999 := fun v hv => ⟨(k3 v hv).1, (k3 v hv).2.2.1⟩
    refine Wp.ifF one0 (m_jL81 F I' hF hq g26 hD gy ex _ _ (fun s1 o1 o2 o3 => ?_))
    refine m_jL139 F I' hF (V := VV h) (w := fun j => hI h 49 (40 * r + j)) (sg := so h) hq g26 hD (by omega) gy (fun v hv => by rw [(R1 v hv).1, so_st I o s' (by decide)]) hr (fun j _ => (s'.fam I o (c := 60) (by decide) 49 _ (by omega) rfl).1) o1 o2 o3 (fun k ck t s ht hs mt ms => ?_) _ (fun s g a1 a2 a3 a4 a5 => ?_) (fun G g ck => ?_)
    · have s2 := s'.trans (ck.st (fs := [102, 107, 108]) I' o (fun a i e => e.ow))
      have Ik := ck.fx I'
      obtain ⟨_, t10, _⟩ := (Sh.refS h3 J.sng) t ht
      obtain ⟨_, s10, _⟩ := (Sh.refS h3 J.sng) s hs
      obtain ⟨_, _, _, t60, tM⟩ := sg_ok J.sng t10 (A t ht mt)
      obtain ⟨_, _, _, s60, sM⟩ := sg_ok J.sng s10 (A s hs ms)
      rw [VV_eq t60 s60]
      exact m_chg F Ik hF (tM.st I o s2 (by decide)) (sM.st I o s2 (by decide))
    · have s2 := s'.trans (a5.st (fs := [102, 107, 108]) I' o (fun a i e => e.ow))
      exact ⟨Or.inr ⟨f, Or.inl ⟨s, a1, a2, a3, a4, rfl, (a5.1 46 2 (by unfold Am; omega)).trans e2⟩⟩, s2.sub (by decide), (a5.1 5 15 (by unfold Am; omega)).trans e15, a5.Z.1.trans k2.Z.1, a5.Z.2.trans k2.Z.2⟩
    · have s2 := s'.trans (ck.st (fs := [102, 107, 108]) I' o (fun a i e => e.ow))
      have Ik := ck.fx I'
      refine Wp.ifT (fT46 Ik) ?_
      unfold c_X10_ask
      rw [bI_id]
      refine Wp.ifT (fT46 Ik) (Wp.ltH (Wp.ret ⟨Or.inr ⟨f, Or.inr ⟨G, rfl, by rw [hI_sI, if_pos ⟨rfl, rfl⟩]⟩⟩, (s2.sub (by decide)).wI o 53 (by decide) rfl (by decide), ?_, ck.Z.1.trans k2.Z.1, ck.Z.2.trans k2.Z.2⟩))
      rw [hI_sI, if_neg (by omega), ck.1 5 15 (by unfold Am; omega)]; exact e15
  · rw [if_neg f] at k1
    rw [k1]
    exact Wp.ifT rfl (Wp.ret ⟨Or.inl ⟨f, rfl, e2⟩, s'.sub (by decide), e15, k2.Z.1, k2.Z.2⟩)
end Jdo
