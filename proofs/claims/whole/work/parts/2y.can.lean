section OpsS
variable {h : z_Hp} (F : Nat) (x1 x2 x3 x4 x5 : Int32)
variable {ow : Ow} {d : Nat}
def A60 (a i : Nat) : Prop := a = 46 ∧ (i = 59 ∨ i = 60)
theorem A60_sc (a i : Nat) (e : A60 a i) : a < 94 ∧ ow0 a i ∈ SC := by
  obtain ⟨rfl, rfl | rfl⟩ := e <;> exact ⟨by decide, by decide⟩
def FD (M : Nat → Nat → Int32) (pf : Nat → Nat) (x : Int32) (k : Nat) : Int32 := if x < 0 then -9 else fdy M pf (ix x) k
theorem m_whoCan (J : InvO ow h) (hF : 5000 ≤ F) (hd : d < 100) (sg x8 : Int32) (hx : x8 = -9 ∨ ∃ p, p < 10 ∧ x8 = nI p) : ∃ h', c_X10_whoCan F 46 sg (nI d) x8 h = some (nI (hv (mm h) (pfv (mm h) sg (ix (mm h 46 55))) (d + 1)), h') ∧ ChI A60 h h' ∧ hI h' 46 60 = FD (mm h) (pfv (mm h) sg (ix (mm h 46 55))) x8 (d + 1) := by
  obtain ⟨q, hq, h1, h2, h3⟩ := J.sun
  have hqe : ix (mm h 46 55) = q := by rw [(mm_sl h).2.2.2.2.2, h2, ix_n (by omega)]
  rw [hqe]
  have h3' : ∀ k, k < q → (∃ v, v < 10 ∧ hI h 92 k = nI v) ∧ ∃ v, v < 100 ∧ hI h 93 k = nI v := fun k hk => ⟨(h3 k hk).2.2.2.2.1, (h3 k hk).2.2.2.2.2⟩
  have I := J.2.1
  have key := lp (L := fun m (u : Int32 × Int32 × z_Hp) => c_X10_whoCan_L12 F 46 sg (nI d) x8 m u.1 u.2.1 u.2.2) (K := fun u => some (u.1, u.2.2)) (N := d + 1) (fun k u => u.1 = nI (hv (mm h) (pfv (mm h) sg q) k) ∧ u.2.1 = nI k ∧ ChI A60 h u.2.2 ∧ hI u.2.2 46 60 = FD (mm h) (pfv (mm h) sg q) x8 k) (fun m k u hk hP => ?_) (fun m u hP => ?_) (d + 1) 0 F (0, 0, sI h 46 60 (-9)) (by omega) (by omega) ⟨rfl, rfl, (ChI.refl _ _).set ⟨rfl, Or.inr rfl⟩, by
      show hI (sI h 46 60 (-9)) 46 60 = _
      rw [hI_sI, if_pos ⟨rfl, rfl⟩]; unfold FD; split <;> rfl⟩
  · obtain ⟨⟨u1, u2, g⟩, ⟨e1, e2, e3, e4⟩, e6⟩ := key
    dsimp only at e1 e2 e3 e4 e6
    subst e1
    refine ⟨g, ?_, e3, e4⟩
    unfold c_X10_whoCan
    rw [fT46 I, if_pos rfl]
    exact e6
  · obtain ⟨u1, u2, g⟩ := u
    obtain ⟨e1, e2, e3, e4⟩ := hP
    dsimp only at e1 e2 e3 e4 ⊢
    subst e1; subst e2
    have Jg : InvO ow g := J.sc (e3.st I J.1 A60_sc)
    have Ig := Jg.2.1
    have mg : mm g = mm h := e3.mm (fun a i e => by obtain ⟨rfl, rfl | rfl⟩ := e <;> decide)
    have na : ∀ a i, a ≠ 46 → ¬ A60 a i := fun a i e x => e x.1
    have f2 : hI g 46 55 = nI q := (e3.1 46 55 (fun e => by have := e.2; omega)).trans h2
    have f3 : ∀ k, k < q → (∃ v, v < 10 ∧ hI g 92 k = nI v) ∧ ∃ v, v < 100 ∧ hI g 93 k = nI v := fun k hk => by rw [e3.1 92 k (na _ _ (by omega)), e3.1 93 k (na _ _ (by omega))]; exact h3' k hk
    have T1 := pw_two (h := g) (d := k) Jg.wlk (by omega) sg f3
    have T2 := hv_two (h := g) (d := k) Jg.wlk (by omega) sg f3
    have sl : s1_ (mm g) sg k (hv (mm g) (pfv (mm g) sg q) k) q < 1048576 := s1_lt _ _ _ (hv_lt _ _ _) q
    have pl : pw (mm g) (pfv (mm g) sg q) k (hv (mm g) (pfv (mm g) sg q) k) < 1048576 := pw_lt Jg.wlk _ k _ 4 (Nat.le_refl _)
    have s2 : St SC ow g (sI g 46 59 (nI (pw (mm g) (pfv (mm g) sg q) k (hv (mm g) (pfv (mm g) sg q) k)))) := (St.r Ig).wI Jg.1 109 (by decide) rfl (by decide)
    have J2 := Jg.sc s2
    have m2 : mm (sI g 46 59 (nI (pw (mm g) (pfv (mm g) sg q) k (hv (mm g) (pfv (mm g) sg q) k)))) = mm g := mm_st Ig Jg.1 s2 (by decide)
    have W1 := m_wc161 F (h := sI g 46 59 (nI (pw (mm g) (pfv (mm g) sg q) k (hv (mm g) (pfv (mm g) sg q) k)))) (d := k) J2.2.1 J2.wlk hF (by omega) sg (nI d) x8 pl (by rw [hI_sI, if_pos ⟨rfl, rfl⟩])
    rw [m2] at W1
    rw [← mg]
    rw [c_X10_whoCan_L12, if_neg (nI_nlt (by omega) (by omega)), m_wc21 F Ig Jg.wlk hF (by omega) sg (nI d) x8 hq f2 f3, if_pos (fT46 Ig)]
    dsimp only [lt_]
    rw [m_wc113 F Jg hF (by omega) sg (nI d) x8 sl (fun j e => by
      obtain ⟨a1, a2, -⟩ := (s1_iff Jg.wlk (by omega) sg _ j (hv_wk _ _ k j) f3).mp e
      exact ⟨a1, a2⟩), T1, W1, T2]
    have c3 : ChI A60 h (sI g 46 59 (nI (pw (mm g) (pfv (mm g) sg q) k (hv (mm g) (pfv (mm g) sg q) k)))) := e3.set ⟨rfl, Or.inl rfl⟩
    have f60 : hI (sI g 46 59 (nI (pw (mm g) (pfv (mm g) sg q) k (hv (mm g) (pfv (mm g) sg q) k)))) 46 60 = FD (mm g) (pfv (mm g) sg q) x8 k := by
      rw [hI_sI, if_neg (by omega), mg]; exact e4
    have f59 : hI (sI g 46 59 (nI (pw (mm g) (pfv (mm g) sg q) k (hv (mm g) (pfv (mm g) sg q) k)))) 46 59 = nI (pw (mm g) (pfv (mm g) sg q) k (hv (mm g) (pfv (mm g) sg q) k)) := by rw [hI_sI, if_pos ⟨rfl, rfl⟩]
    generalize sI g 46 59 (nI (pw (mm g) (pfv (mm g) sg q) k (hv (mm g) (pfv (mm g) sg q) k))) = g2 at J2 c3 f60 f59 ⊢
    refine ⟨(nI (hv (mm g) (pfv (mm g) sg q) (k + 1)), nI (k + 1), sI g2 46 60 (FD (mm g) (pfv (mm g) sg q) x8 (k + 1))), ⟨rfl, rfl, c3.set ⟨rfl, Or.inr rfl⟩, by dsimp only; rw [hI_sI, if_pos ⟨rfl, rfl⟩]⟩, ?_⟩
    dsimp only
    rw [fT46 J2.2.1, if_pos rfl, if_pos rfl, f60, f59, nI_1]
    unfold FD
    rcases hx with rfl | ⟨p, hp, rfl⟩
    · rw [if_pos nlt9, if_pos nlt9, if_neg nn9, if_pos rfl, if_pos nlt9]
    · rw [if_neg (pnI (by omega)), if_neg (pnI (by omega)), if_neg (pnI (by omega)), ix_n (by omega), m_has F (by omega) (by omega), bI_some, if_pos rfl, if_pos (fT46 J2.2.1), if_pos (fT46 J2.2.1), if_pos (fT46 J2.2.1)]
      by_cases c : 0 ≤ fdy (mm g) (pfv (mm g) sg q) p k
      · rw [if_pos c]
        show _ = c_X10_whoCan_L12 F 46 sg (nI d) (nI p) m _ (nI (k + 1)) (sI g2 46 60 (if 0 ≤ fdy (mm g) (pfv (mm g) sg q) p k then fdy (mm g) (pfv (mm g) sg q) p k else if (pw (mm g) (pfv (mm g) sg q) k (hv (mm g) (pfv (mm g) sg q) k)).testBit p = true then nI k else -9))
        rw [if_pos c]
      · rw [if_neg c]
        show _ = c_X10_whoCan_L12 F 46 sg (nI d) (nI p) m _ (nI (k + 1)) (sI g2 46 60 (if 0 ≤ fdy (mm g) (pfv (mm g) sg q) p k then fdy (mm g) (pfv (mm g) sg q) p k else if (pw (mm g) (pfv (mm g) sg q) k (hv (mm g) (pfv (mm g) sg q) k)).testBit p = true then nI k else -9))
        rw [if_neg c]
        by_cases c2 : (pw (mm g) (pfv (mm g) sg q) k (hv (mm g) (pfv (mm g) sg q) k)).testBit p = true
        · rw [if_pos c2, ite10, if_pos c2, if_pos rfl]
        · rw [if_neg c2, ite00, if_neg c2, f60]
          unfold FD
          rw [if_neg (pnI (by omega)), ix_n (by omega)]
          rcases fdy_rng (mm g) (pfv (mm g) sg q) p k (by omega) with ⟨a1, -⟩ | ⟨d', hd', a1⟩
          · rw [a1, if_pos rfl]
          · rw [a1] at c; exact absurd (nge (by omega)) c
  · obtain ⟨u1, u2, g⟩ := u
    obtain ⟨e1, e2, e3, e4⟩ := hP
    dsimp only at e1 e2 e3 e4 ⊢
    subst e1; subst e2
    rw [c_X10_whoCan_L12, if_pos (nI_lt (by omega) (by omega))]
theorem x_havers (J : InvO ow h) (hF : 5000 ≤ F) (hd : d < 100) (sg : Int32) : ∃ h', c_X4_havers F 39 sg (nI d) h = some (nI (hv (mm h) (pfv (mm h) sg (ix (mm h 46 55))) (d + 1)), h') ∧ ChI (fun a _ => a = 44) h h' := by
  have I := J.2.1
  obtain ⟨g, g1, g2, g3⟩ := x_findPrinted F I J.sun hF sg
  have mg : mm g = mm h := g2.mm (fun a i e => by rw [e]; show ¬ (50 ≤ 126 ∧ 126 < 100); decide)
  have Jg : InvO ow g := J.sc (g2.st I J.1 (fun a i e => by rw [e]; exact ⟨by decide, by show 126 ∈ SC; decide⟩))
  refine ⟨g, ?_, g2⟩
  unfold c_X4_havers
  rw [fT39 I, if_pos rfl, g1, bV_some, x_havers_L F Jg.2.1 Jg.wlk hF hd (fun p hp => ⟨g3 p hp, pfv_le _ _ _ _⟩), mg]
theorem x_firstDay (J : InvO ow h) (hF : 5000 ≤ F) {p : Nat} (hp10 : p < 10) (sg : Int32) : ∃ h', c_X4_firstDayAt F 39 sg (nI p) h = some (fdy (mm h) (pfv (mm h) sg (ix (mm h 46 55))) p 100, h') ∧ ChI (fun a _ => a = 44) h h' := by
  have I := J.2.1
  obtain ⟨g, g1, g2, g3⟩ := x_findPrinted F I J.sun hF sg
  have mg : mm g = mm h := g2.mm (fun a i e => by rw [e]; show ¬ (50 ≤ 126 ∧ 126 < 100); decide)
  have Jg : InvO ow g := J.sc (g2.st I J.1 (fun a i e => by rw [e]; exact ⟨by decide, by show 126 ∈ SC; decide⟩))
  refine ⟨g, ?_, g2⟩
  unfold c_X4_firstDayAt
  rw [fT39 I, if_pos rfl, g1, bV_some, x_first_L F Jg.2.1 Jg.wlk hF hp10 (fun p hp => ⟨g3 p hp, pfv_le _ _ _ _⟩), mg]
theorem c44_st {g : z_Hp} (J : InvO ow h) (c : ChI (fun a _ => a = 44) h g) : St SC ow h g ∧ mm g = mm h := ⟨c.st J.2.1 J.1 (fun a i e => by rw [e]; exact ⟨by decide, by show 126 ∈ SC; decide⟩), c.mm (fun a i e => by rw [e]; show ¬ (50 ≤ 126 ∧ 126 < 100); decide)⟩
theorem op_can (hF : 5000 ≤ F) (J : Inv h) : OkI h (c_X9_can F 5 x1 x2 x3 h) (c_X10_can F 46 x1 x2 x3) := by
  obtain ⟨ow, J⟩ := J
  have I := J.2.1
  unfold c_X9_can c_X10_can
  by_cases c1 : 0 ≤ x1.toInt ∧ x1.toInt ≤ 3
  · by_cases c2 : 0 ≤ x2.toInt ∧ x2.toInt ≤ 9
    · by_cases c3 : 0 ≤ x3.toInt ∧ x3.toInt ≤ 99
      · obtain ⟨j, hj, rfl⟩ := rng (n := 3) c1
        obtain ⟨d, hd, rfl⟩ := rng (n := 99) c3
        have b1 : okA h 40 23 (nI j) = true := okA_n (fT40 I) (fN40 I) (by omega) (by decide)
        have b2 : okA h 89 20 (nI j) = true := okA_n (fT89 I) (fN89 I) (by omega) (by decide)
        obtain ⟨w1, w2, w3⟩ := J.wlk j (by omega)
        rcases w1 with ⟨g1, g2⟩ | ⟨n, a, g1, g2, g3, -⟩
        · refine OkI.same (-4) ⟨ow, J⟩ ?_ ?_
          · rw [x_isSeller, bI_some, if_pos c1, ite10, x_isSong, bI_some, if_pos c2, ite10, x_isWalkedDay, bI_some, if_pos c3, ite10, fT5 I, if_pos rfl, fR5_11 I]
            dsimp only [lt_, nn]
            rw [fT39 I, if_pos rfl, fR39_0 I]
            dsimp only [nn]
            rw [if_pos b1, ix_n (by omega), g2]; rfl
          · rw [m_isSeller, bI_some, if_pos c1, ite10, m_isSong, bI_some, if_pos c2, ite10, m_isEarly, bI_some, if_pos c3, ite10, fT46 I, if_pos rfl, fR46_53 I]
            dsimp only [lt_, nn]
            rw [if_pos b2, ix_n (by omega), g1, if_neg nn9]
        · obtain ⟨h1, e1, e2⟩ := x_havers F J hF (show d < 100 by omega) x2
          obtain ⟨s1, m1⟩ := c44_st J e2
          have J1 := J.sc s1
          obtain ⟨h2, e3, e4, -⟩ := m_whoCan F J1 hF (show d < 100 by omega) x2 (-9) (Or.inl rfl)
          have J2 := J1.sc (e4.st J1.2.1 J1.1 A60_sc)
          have b2' : okA h1 89 20 (nI j) = true := okA_n (fT89 J1.2.1) (fN89 J1.2.1) (by omega) (by decide)
          rw [m1] at e3
          have lt := hv_lt (mm h) (pfv (mm h) x2 (ix (mm h 46 55))) (d + 1)
          refine ⟨nI (if (hv (mm h) (pfv (mm h) x2 (ix (mm h 46 55))) (d + 1)).testBit j = true then 1 else 0), h1, h2, ?_, ?_, ⟨ow, J2⟩, ?_, ?_⟩
          · rw [x_isSeller, bI_some, if_pos c1, ite10, x_isSong, bI_some, if_pos c2, ite10, x_isWalkedDay, bI_some, if_pos c3, ite10, fT5 I, if_pos rfl, fR5_11 I]
            dsimp only [lt_, nn]
            rw [fT39 I, if_pos rfl, fR39_0 I]
            dsimp only [nn]
            rw [if_pos b1, ix_n (by omega), g3]
            dsimp only [nl]
            rw [if_pos rfl, if_pos rfl, e1, bI_some, bit_n (by omega) (by omega)]
          · dsimp only
            rw [m_isSeller, bI_some, if_pos c1, ite10, m_isSong, bI_some, if_pos c2, ite10, m_isEarly, bI_some, if_pos c3, ite10, fT46 J1.2.1, if_pos rfl, fR46_53 J1.2.1]
            dsimp only [lt_, nn]
            rw [if_pos b2', ix_n (by omega), e2.1 89 j (by omega), g2, if_pos (nge (by omega)), if_pos rfl, e3, bI_some, m_has F (by omega) (by omega), bI_some]
            by_cases c : (hv (mm h) (pfv (mm h) x2 (ix (mm h 46 55))) (d + 1)).testBit j = true
            · rw [if_pos c, if_pos c, ite10]; rfl
            · rw [if_neg c, if_neg c, ite00]; rfl
          · have := e4.Z.1; have := e2.Z.1; omega
          · have := e4.Z.2; have := e2.Z.2; omega
      · exact OkI.same (-1) ⟨ow, J⟩ (by rw [x_isSeller, bI_some, if_pos c1, ite10, x_isSong, bI_some, if_pos c2, ite10, x_isWalkedDay, bI_some, if_neg c3, ite00]) (by rw [m_isSeller, bI_some, if_pos c1, ite10, m_isSong, bI_some, if_pos c2, ite10, m_isEarly, bI_some, if_neg c3, ite00])
    · exact OkI.same (-1) ⟨ow, J⟩ (by rw [x_isSeller, bI_some, if_pos c1, ite10, x_isSong, bI_some, if_neg c2, ite00]) (by rw [m_isSeller, bI_some, if_pos c1, ite10, m_isSong, bI_some, if_neg c2, ite00])
  · exact OkI.same (-1) ⟨ow, J⟩ (by rw [x_isSeller, bI_some, if_neg c1, ite00]) (by rw [m_isSeller, bI_some, if_neg c1, ite00])
theorem op_far (hF : 5000 ≤ F) (J : Inv h) : OkI h (c_X9_far F 5 x1 x2 h) (c_X10_far F 46 x1 x2) := by
  obtain ⟨ow, J⟩ := J
  have I := J.2.1
  unfold c_X9_far c_X10_far
  by_cases c1 : 0 ≤ x1.toInt ∧ x1.toInt ≤ 9
  · by_cases c2 : 0 ≤ x2.toInt ∧ x2.toInt ≤ 9
    · obtain ⟨p, hp, rfl⟩ := rng (n := 9) c2
      obtain ⟨h1, e1, e2⟩ := x_firstDay F J hF (show p < 10 by omega) x1
      obtain ⟨s1, m1⟩ := c44_st J e2
      have J1 := J.sc s1
      obtain ⟨h2, e3, e4, e5⟩ := m_whoCan F J1 hF (show 99 < 100 by omega) x1 (nI p) (Or.inr ⟨p, by omega, rfl⟩)
      have J2 := J1.sc (e4.st J1.2.1 J1.1 A60_sc)
      rw [m1] at e3 e5
      unfold FD at e5
      rw [if_neg (pnI (by omega)), ix_n (by omega)] at e5
      have lt := hv_lt (mm h) (pfv (mm h) x1 (ix (mm h 46 55))) (99 + 1)
      refine ⟨fdy (mm h) (pfv (mm h) x1 (ix (mm h 46 55))) p 100, h1, h2, ?_, ?_, ⟨ow, J2⟩, ?_, ?_⟩
      · rw [x_isSong, bI_some, if_pos c1, ite10, x_isPlace, bI_some, if_pos c2, ite10, fT5 I, if_pos rfl, fR5_11 I]
        dsimp only [lt_, nn]
        rw [fT39 I, if_pos rfl, e1, bI_some]
      · dsimp only
        rw [m_isSong, bI_some, if_pos c1, ite10, m_isPlace, bI_some, if_pos c2, ite10, fT46 J1.2.1, if_pos rfl, show (99 : Int32) = nI 99 from rfl, e3, bI_some]
        by_cases c : hv (mm h) (pfv (mm h) x1 (ix (mm h 46 55))) (99 + 1) = 0
        · rw [c, if_pos (show nI 0 = 0 from rfl)]
          rcases fdy_rng (mm h) (pfv (mm h) x1 (ix (mm h 46 55))) p 100 (by omega) with ⟨a1, -⟩ | ⟨d, hd, a1⟩
          · rw [a1]
          · have nb : ∀ k, k ≤ 100 → hv (mm h) (pfv (mm h) x1 (ix (mm h 46 55))) k = 0 := by
              have st : ∀ k j, k + j = 100 → hv (mm h) (pfv (mm h) x1 (ix (mm h 46 55))) k = 0 := by
                intro k j
                induction j generalizing k with
                | zero => intro e; rw [show k = 99 + 1 by omega]; exact c
                | succ j ih =>
                  intro e
                  have := ih (k + 1) (by omega)
                  rw [show hv (mm h) (pfv (mm h) x1 (ix (mm h 46 55))) (k + 1) = hv (mm h) (pfv (mm h) x1 (ix (mm h 46 55))) k ||| sat (mm h) k (pw (mm h) (pfv (mm h) x1 (ix (mm h 46 55))) k (hv (mm h) (pfv (mm h) x1 (ix (mm h 46 55))) k)) from rfl] at this
                  apply Nat.eq_of_testBit_eq
                  intro i
                  have t := congrArg (fun x => x.testBit i) this
                  rw [Nat.testBit_or, Nat.zero_testBit, Bool.or_eq_false_iff] at t
                  rw [t.1, Nat.zero_testBit]
              exact fun k hk => st k (100 - k) (by omega)
            have np : ∀ k, k < 100 → ¬ (pw (mm h) (pfv (mm h) x1 (ix (mm h 46 55))) k (hv (mm h) (pfv (mm h) x1 (ix (mm h 46 55))) k)).testBit p = true := by
              intro k hk e
              have e' := e
              rw [pw_tb] at e'
              obtain ⟨j, a1, a2, -, a4⟩ := e'
              have : (hv (mm h) (pfv (mm h) x1 (ix (mm h 46 55))) (k + 1)).testBit j = true := by
                rw [show hv (mm h) (pfv (mm h) x1 (ix (mm h 46 55))) (k + 1) = hv (mm h) (pfv (mm h) x1 (ix (mm h 46 55))) k ||| sat (mm h) k (pw (mm h) (pfv (mm h) x1 (ix (mm h 46 55))) k (hv (mm h) (pfv (mm h) x1 (ix (mm h 46 55))) k)) from rfl, Nat.testBit_or, Bool.or_eq_true, sat_tb]
                exact Or.inr ⟨a1, a2, by rw [a4]; exact e⟩
              rw [nb (k + 1) (by omega), Nat.zero_testBit] at this
              exact absurd this (by decide)
            have hh : ∀ m, m ≤ 100 → fdy (mm h) (pfv (mm h) x1 (ix (mm h 46 55))) p m = -9 := by
              intro m
              induction m with
              | zero => intro _; rfl
              | succ m ih =>
                intro hm
                show (if 0 ≤ fdy (mm h) _ p m then fdy (mm h) _ p m else if (pw (mm h) _ m (hv (mm h) _ m)).testBit p = true then nI m else -9) = _
                rw [ih (by omega), if_neg nn9, if_neg (np m (by omega))]
            rw [hh 100 (by omega)]
        · rw [if_neg (nI_ne0 (by omega) (by omega)), if_pos (fT46 J2.2.1), e5]
      · have := e4.Z.1; have := e2.Z.1; omega
      · have := e4.Z.2; have := e2.Z.2; omega
    · exact OkI.same (-1) ⟨ow, J⟩ (by rw [x_isSong, bI_some, if_pos c1, ite10, x_isPlace, bI_some, if_neg c2, ite00]) (by rw [m_isSong, bI_some, if_pos c1, ite10, m_isPlace, bI_some, if_neg c2, ite00])
  · exact OkI.same (-1) ⟨ow, J⟩ (by rw [x_isSong, bI_some, if_neg c1, ite00]) (by rw [m_isSong, bI_some, if_neg c1, ite00])
end OpsS
