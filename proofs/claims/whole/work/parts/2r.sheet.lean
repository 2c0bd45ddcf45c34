section OpsL
variable {h : z_Hp} (F : Nat) (x1 x2 x3 x4 x5 : Int32)
/-- the new sheet's cell z with its fields, and its place in the row of all -/
def mkS (g : z_Hp) (q z cb : Nat) (k p s t : Int32) : z_Hp := sI (sR (sR (sI (sI (sI (sI (sI (sI (sI (nw g 5 11) z 5 (-9)) z 9 (-9)) z 10 (-9)) z 0 k) z 1 p) z 2 s) z 3 t) z 4 (some cb)) 15 q (some z)) 14 1 (nI (q + 1))
theorem x_mk {hc : z_Hp} (Ic : Ifx hc) {q cb : Nat} (hq : q < 20) (h1 : hI hc 14 1 = nI q) (k p s t : Int32) (ht : hI hc 5 4 = t) :
    (nwo hc 5 11 (fun a17 h18 => (if hT h18 5 = 9 then (bV (c_X5_init F a17 k p s (hI h18 5 4) (some cb) h18) (fun h19 => (nn (some 14) (fun a20 => (if hT h19 a20 = 6 then (bI (c_X6_add F a20 (some a17) h19) (fun x22 h21 => (some (x22, h21)))) else none))))) else none))) = some (nI q, mkS hc q (hZ hc) cb k p s t) := by
  have hz := Ic.2.2.1
  have T : ∀ b, b < hZ hc → hT (nw hc 5 11) b = hT hc b := fun b hb => by rw [hT_nw, if_neg (by omega)]
  have N : ∀ b, b < hZ hc → hN (nw hc 5 11) b = hN hc b := fun b hb => by rw [hN_nw, if_neg (by omega)]
  have R : ∀ b i, b < hZ hc → hR (nw hc 5 11) b i = hR hc b i := fun b i hb => by rw [hR_nw, if_neg (by omega)]
  have Iv : ∀ b i, b < hZ hc → hI (nw hc 5 11) b i = hI hc b i := fun b i hb => by rw [hI_nw, if_neg (by omega)]
  have t5 : hT (nw hc 5 11) 5 = 9 := (T 5 (by omega)).trans (fT5 Ic)
  have t14 : hT (nw hc 5 11) 14 = 6 := (T 14 (by omega)).trans (fT14 Ic)
  have tz : hT (nw hc 5 11) (hZ hc) = 5 := by rw [hT_nw, if_pos rfl]
  have e4 : hI (nw hc 5 11) 5 4 = t := (Iv 5 4 (by omega)).trans ht
  have e1 : hI (nw hc 5 11) 14 1 = nI q := (Iv 14 1 (by omega)).trans h1
  have r0 : hR (nw hc 5 11) 14 0 = some 15 := (R 14 0 (by omega)).trans (fR14_0 Ic)
  have t15 : hT (nw hc 5 11) 15 = 26 := (T 15 (by omega)).trans (fT15 Ic)
  have n15 : hN (nw hc 5 11) 15 = 20 := (N 15 (by omega)).trans (fN15 Ic)
  have zn : ¬ 14 = hZ hc := by omega
  dsimp only [nwo]
  rw [t5, if_pos rfl, e4]
  unfold c_X5_init
  simp only [tz, hT_sI, if_true, ltq, bVq, nnq, hT_sR, t14]
  generalize hg : sR (sI (sI (sI (sI (sI (sI (sI (nw hc 5 11) (hZ hc) 5 (-9)) (hZ hc) 9 (-9)) (hZ hc) 10 (-9)) (hZ hc) 0 k) (hZ hc) 1 p) (hZ hc) 2 s) (hZ hc) 3 t) (hZ hc) 4 (some cb) = g
  have gT : ∀ b, hT g b = hT (nw hc 5 11) b := fun b => by rw [← hg]; rfl
  have gN : ∀ b, hN g b = hN (nw hc 5 11) b := fun b => by rw [← hg]; rfl
  have g14 : hI g 14 1 = nI q := by
    rw [← hg, hI_sR, hI_sI, if_neg (by omega), hI_sI, if_neg (by omega), hI_sI, if_neg (by omega), hI_sI, if_neg (by omega), hI_sI, if_neg (by omega), hI_sI, if_neg (by omega), hI_sI, if_neg (by omega)]
    exact e1
  have gR : hR g 14 0 = some 15 := by
    rw [← hg, hR_sR, if_neg (by omega)]; exact r0
  have b1 : okA g 15 26 (nI q) = true := okA_n ((gT 15).trans t15) ((gN 15).trans n15) hq (by decide)
  have b2 : okS g 26 (some (hZ hc)) = true := by
    unfold okS
    simp [z_ct, gT, tz]
  unfold c_X6_add
  rw [gT 14, t14, if_pos rfl, gR]
  dsimp only [lt_]
  rw [if_pos rfl]
  dsimp only [nn]
  rw [g14, if_pos ⟨b1, b2⟩, ix_n (by omega), hT_sR, gT 14, t14, if_pos rfl, if_pos rfl, hI_sR, g14, nI_1, bI_some, ← hg]
  rfl
theorem m_sheet_L172 (I : Ifx h) {r s n q N : Nat} (hr : n = 0 ∨ r < 6) (hs : s < 20) (e : hI h 75 s = nI n) (eq : hI h 46 26 = nI q) (hn : n ≤ 40) (hN : n < N) (x : Int32) (hx : n = 0 ∨ x = nI r) : c_X10_sheet_L172 F 46 x (nI s) N 0 h = some (nI s, sI (fl h 76 (40 * s) n (fun k => hI h 49 (40 * r + k))) 46 26 (nI (q + 1))) := by
  have b3 : ∀ g : Nat → Int32, ∀ k, okA (fl h 76 (40 * s) k g) 75 20 (nI s) = true := fun g k => okA_n (fT75 I) (fN75 I) (by omega) (by decide)
  have e4 : ∀ g : Nat → Int32, ∀ k, hI (fl h 76 (40 * s) k g) 75 s = nI n := fun g k => by rw [hI_fl, if_neg (by omega)]; exact e
  have key := lpS (L := fun m (u : Int32 × z_Hp) => c_X10_sheet_L172 F 46 x (nI s) m u.1 u.2) (R := some (nI s, sI (fl h 76 (40 * s) n (fun k => hI h 49 (40 * r + k))) 46 26 (nI (q + 1)))) (fun k => (nI k, fl h 76 (40 * s) k (fun k => hI h 49 (40 * r + k)))) n (fun m k hk => ?_) (fun m => ?_) N hN
  · simp only [fl_0] at key
    exact key
  · show c_X10_sheet_L172 F 46 x (nI s) (m + 1) (nI k) (fl h 76 (40 * s) k (fun k => hI h 49 (40 * r + k))) = c_X10_sheet_L172 F 46 x (nI s) m (nI (k + 1)) _
    rw [c_X10_sheet_L172]
    have hx' : x = nI r := hx.resolve_left (by omega)
    have hr' : r < 6 := hr.resolve_left (by omega)
    subst hx'
    have e1 : (40 : Int32) * nI r + nI k = nI (40 * r + k) := by rw [show (40 : Int32) = nI 40 from rfl, nI_mul, nI_add]
    have e3 : (40 : Int32) * nI s + nI k = nI (40 * s + k) := by rw [show (40 : Int32) = nI 40 from rfl, nI_mul, nI_add]
    have b1 : okA (fl h 76 (40 * s) k (fun k => hI h 49 (40 * r + k))) 49 20 (nI (40 * r + k)) = true := okA_n (fT49 I) (fN49 I) (by omega) (by decide)
    have b2 : okA (fl h 76 (40 * s) k (fun k => hI h 49 (40 * r + k))) 76 20 (nI (40 * s + k)) = true := okA_n (fT76 I) (fN76 I) (by omega) (by decide)
    have e2 : hI (fl h 76 (40 * s) k (fun k => hI h 49 (40 * r + k))) 49 (40 * r + k) = hI h 49 (40 * r + k) := by rw [hI_fl, if_neg (by omega)]
    simp only [hT_fl, fT46 I, if_true, ltq, hR_fl, fR46_37 I, fR46_38 I, fR46_8 I, nnq, b3, ix_n (show s < 2147483648 by omega), e4, if_neg (nI_ge hk (show n < 2 ^ 31 by omega)), e1, e3, b1, b2, ix_n (show 40 * r + k < 2147483648 by omega), ix_n (show 40 * s + k < 2147483648 by omega), e2, nI_1]
    rw [fl_s h 76 (40 * s) k (fun k => hI h 49 (40 * r + k))]
  · show c_X10_sheet_L172 F 46 x (nI s) (m + 1) (nI n) (fl h 76 (40 * s) n (fun k => hI h 49 (40 * r + k))) = _
    rw [c_X10_sheet_L172]
    have e5 : hI (fl h 76 (40 * s) n (fun k => hI h 49 (40 * r + k))) 46 26 = nI q := by rw [hI_fl, if_neg (by omega)]; exact eq
    simp only [hT_fl, fT46 I, if_true, ltq, hR_fl, fR46_37 I, nnq, b3, ix_n (show s < 2147483648 by omega), e4, if_pos (nI_le (Nat.le_refl n) (show n < 2 ^ 31 by omega)), e5, nI_1]
/-- the reference's rows with the new sheet -/
def mkM (g : z_Hp) (q n r : Nat) (k p s t : Int32) : z_Hp := sI (fl (sI (sI (sI (sI (sI (sI (sI (sI g 65 q k) 66 q p) 67 q s) 68 q (-9)) 72 q (-9)) 73 q (-9)) 74 q t) 75 q (nI n)) 76 (40 * q) n (fun i => hI (sI (sI (sI (sI (sI (sI (sI (sI g 65 q k) 66 q p) 67 q s) 68 q (-9)) 72 q (-9)) 73 q (-9)) 74 q t) 75 q (nI n)) 49 (40 * r + i))) 46 26 (nI (q + 1))
theorem hI_mkM (g : z_Hp) (q n r : Nat) (k p s t : Int32) (b i : Nat) : hI (mkM g q n r k p s t) b i = if b = 46 ∧ i = 26 then nI (q + 1) else if b = 76 ∧ 40 * q ≤ i ∧ i < 40 * q + n then hI g 49 (40 * r + (i - 40 * q)) else if b = 75 ∧ i = q then nI n else if b = 74 ∧ i = q then t else if b = 73 ∧ i = q then -9 else if b = 72 ∧ i = q then -9 else if b = 68 ∧ i = q then -9 else if b = 67 ∧ i = q then s else if b = 66 ∧ i = q then p else if b = 65 ∧ i = q then k else hI g b i := by
  unfold mkM
  rw [hI_sI, hI_fl]
  simp only [hI_sI, Nat.reduceEqDiff, false_and, if_false]
theorem Rshe.new {ow : Ow} {h hc : z_Hp} (I : Ifx h) (o : OwOK ow) (sc : St [] ow h hc) {q cb n r : Nat} (hq : q < 20) (hn : n ≤ 40) (h1 : hI h 14 1 = nI q) (h2 : hI h 46 26 = nI q) (h3 : ∀ s, s < q → ∃ a, hR h 15 s = some a ∧ shAt ow h s a) (h4 : ∀ s, q ≤ s → s < 20 → hI h 69 s = 0 ∧ hI h 70 s = 0 ∧ hI h 71 s = 0) (h5 : ∀ s t a, s < q → t < q → hR h 15 s = some a → hR h 15 t = some a → s = t)
    (c1 : hT hc cb = (if cb = 1 then 19 else 20)) (c2 : hN hc cb = n) (c3 : cb = 1 ∨ (hZ h ≤ cb ∧ cb < hZ hc)) (c4 : ∀ k, k < n → hI hc cb k = hI hc 49 (40 * r + k)) {k p s t : Int32} (d1 : ∃ j, j < 7 ∧ k = nI j) (d2 : opt 8 p) (d3 : ∃ j, j < 10 ∧ s = nI j) (d4 : ∃ j, j ≤ 999 ∧ t = nI j) :
    Rshe (owN ow (hZ h) 16) (mkM (mkS hc q (hZ hc) cb k p s t) q n r k p s t) := by
  have hz := I.2.2.1
  have hzc := sc.1
  -- the class's side
  have XR : ∀ b i, hR (mkM (mkS hc q (hZ hc) cb k p s t) q n r k p s t) b i = if b = 15 ∧ i = q then some (hZ hc) else if b = hZ hc ∧ i = 4 then some cb else if b = hZ hc then none else hR hc b i := fun b i => rfl
  have XT : ∀ b, hT (mkM (mkS hc q (hZ hc) cb k p s t) q n r k p s t) b = if b = hZ hc then 5 else hT hc b := fun b => by show hT (nw hc 5 11) b = _; rw [hT_nw]
  have XN : ∀ b, hN (mkM (mkS hc q (hZ hc) cb k p s t) q n r k p s t) b = if b = hZ hc then 11 else hN hc b := fun b => by show hN (nw hc 5 11) b = _; rw [hN_nw]
  have SI : ∀ b i, hI (mkS hc q (hZ hc) cb k p s t) b i = if b = 14 ∧ i = 1 then nI (q + 1) else if b = hZ hc ∧ i = 3 then t else if b = hZ hc ∧ i = 2 then s else if b = hZ hc ∧ i = 1 then p else if b = hZ hc ∧ i = 0 then k else if b = hZ hc ∧ i = 10 then -9 else if b = hZ hc ∧ i = 9 then -9 else if b = hZ hc ∧ i = 5 then -9 else if b = hZ hc then 0 else hI hc b i := fun b i => rfl
  have SO : ∀ b i, b ≠ 14 → b ≠ hZ hc → hI (mkS hc q (hZ hc) cb k p s t) b i = hI hc b i := fun b i e1 e2 => by
    rw [SI, if_neg (fun e => e1 e.1), if_neg (fun e => e2 e.1), if_neg (fun e => e2 e.1), if_neg (fun e => e2 e.1), if_neg (fun e => e2 e.1), if_neg (fun e => e2 e.1), if_neg (fun e => e2 e.1), if_neg (fun e => e2 e.1), if_neg e2]
  have XI : ∀ b i, (b < 46 ∨ 94 ≤ b) → hI (mkM (mkS hc q (hZ hc) cb k p s t) q n r k p s t) b i = hI (mkS hc q (hZ hc) cb k p s t) b i := fun b i hb => by
    rw [hI_mkM, if_neg (by omega), if_neg (by omega), if_neg (by omega), if_neg (by omega), if_neg (by omega), if_neg (by omega), if_neg (by omega), if_neg (by omega), if_neg (by omega), if_neg (by omega)]
  have C : ∀ b i, b < hZ h → hI hc b i = hI h b i ∧ hR hc b i = hR h b i := fun b i hb => by
    have := sc.2.2.1 b i hb (fun e => by cases e)
    exact ⟨this.1, this.2.2⟩
  have MI : ∀ b i, 65 ≤ b → b ≤ 75 → i ≠ q → hI (mkM (mkS hc q (hZ hc) cb k p s t) q n r k p s t) b i = hI h b i := fun b i e1 e2 e3 => by
    rw [hI_mkM, if_neg (by omega), if_neg (by omega), if_neg (by omega), if_neg (by omega), if_neg (by omega), if_neg (by omega), if_neg (by omega), if_neg (by omega), if_neg (by omega), if_neg (by omega), SO b i (by omega) (by omega)]
    exact (C b i (by omega)).1
  have M3 : ∀ b, (b = 69 ∨ b = 70 ∨ b = 71) → ∀ i, hI (mkM (mkS hc q (hZ hc) cb k p s t) q n r k p s t) b i = hI h b i := fun b e1 i => by
    rw [hI_mkM, if_neg (by omega), if_neg (by omega), if_neg (by omega), if_neg (by omega), if_neg (by omega), if_neg (by omega), if_neg (by omega), if_neg (by omega), if_neg (by omega), if_neg (by omega), SO b i (by omega) (by omega)]
    exact (C b i (by omega)).1
  refine ⟨q + 1, by omega, ?_, ?_, fun u hu => ?_, fun u e1 e2 => ?_, fun u v a e1 e2 e3 e4 => ?_⟩
  · rw [XI 14 1 (by omega), SI, if_pos ⟨rfl, rfl⟩]
  · rw [hI_mkM, if_pos ⟨rfl, rfl⟩]
  · by_cases e : u = q
    · subst e
      refine ⟨hZ hc, by rw [XR, if_pos ⟨rfl, rfl⟩], ?_⟩
      have zz := h4 u (Nat.le_refl _) hq
      have FX : ∀ i, hI (mkM (mkS hc u (hZ hc) cb k p s t) u n r k p s t) (hZ hc) i = if i = 3 then t else if i = 2 then s else if i = 1 then p else if i = 0 then k else if i = 10 then -9 else if i = 9 then -9 else if i = 5 then -9 else 0 := fun i => by
        rw [XI _ _ (by omega), SI, if_neg (by omega)]
        simp only [true_and, if_true]
      have FM : ∀ b : Nat, 65 ≤ b → b ≤ 75 → hI (mkM (mkS hc u (hZ hc) cb k p s t) u n r k p s t) b u = if b = 75 then nI n else if b = 74 then t else if b = 73 then -9 else if b = 72 then -9 else if b = 68 then -9 else if b = 67 then s else if b = 66 then p else if b = 65 then k else hI h b u := fun b e1 e2 => by
        rw [hI_mkM, if_neg (by omega), if_neg (by omega)]
        simp only [and_true]
        rw [SO b u (by omega) (by omega), (C b u (by omega)).1]
      unfold shAt
      simp only [FX, FM 65 (by decide) (by decide), FM 66 (by decide) (by decide), FM 67 (by decide) (by decide), FM 68 (by decide) (by decide), FM 69 (by decide) (by decide), FM 70 (by decide) (by decide), FM 71 (by decide) (by decide), FM 72 (by decide) (by decide), FM 73 (by decide) (by decide), FM 74 (by decide) (by decide), FM 75 (by decide) (by decide), Nat.reduceEqDiff, if_true, if_false, zz.1, zz.2.1, zz.2.2]
      refine ⟨by rw [XT, if_pos rfl], fun i => if_pos (by omega), by omega, ?_, ?_, ?_, ?_, ?_, ?_, ?_, ?_, ?_, ?_, ⟨cb, n, ?_, ?_, ?_, hn, rfl, ?_, fun i hi => ?_⟩, d1, d2, d3, Or.inl rfl, ⟨0, by decide, rfl⟩, ⟨0, by decide, rfl⟩, ⟨0, by decide, rfl⟩, Or.inl ⟨rfl, rfl⟩, d4⟩
      all_goals try (first | rfl | simp)
      · rw [XR, if_neg (by omega), if_pos ⟨rfl, rfl⟩]
      · rw [XT, if_neg (by omega)]; exact c1
      · rw [XN, if_neg (by omega)]; exact c2
      · rcases c3 with c3 | c3
        · exact Or.inl c3
        · exact Or.inr ⟨by omega, fun i => if_pos c3.1⟩
      · rw [XI cb i (by omega), SO cb i (by omega) (by omega), c4 i hi, hI_mkM, if_neg (by omega), if_pos ⟨rfl, by omega, by omega⟩, SO 49 _ (by omega) (by omega)]
        exact congrArg (hI hc 49) (by omega)
    · obtain ⟨a, g1, g2⟩ := h3 u (by omega)
      have ha := I.al g2.1 (by decide)
      have a94 := g2.2.2.1
      refine ⟨a, ?_, g2.cong ?_ (fun i => if_neg (by omega)) (fun i => ?_) ?_ (fun b e1 e2 => MI b u e1 e2 e) (fun i hi => ?_) (fun b hb => ?_)⟩
      · rw [XR, if_neg (by omega), if_neg (by omega), if_neg (by omega)]; exact (C 15 u (by omega)).2.trans g1
      · rw [XT, if_neg (by omega)]; exact (sc.2.1 a ha).1
      · rw [XI a i (by omega), SO a i (by omega) (by omega)]; exact (C a i ha).1
      · rw [XR, if_neg (by omega), if_neg (by omega), if_neg (by omega)]; exact (C a 4 ha).2
      · rw [hI_mkM, if_neg (by omega), if_neg (by omega), if_neg (by omega), if_neg (by omega), if_neg (by omega), if_neg (by omega), if_neg (by omega), if_neg (by omega), if_neg (by omega), if_neg (by omega), SO 76 _ (by omega) (by omega)]
        exact (C 76 _ (by omega)).1
      · obtain ⟨b', n', k1, k2, k3, k4, k5, k6, k7⟩ := g2.2.2.2.2.2.2.2.2.2.2.2.2.2.1
        rw [k1] at hb; cases hb
        have hb' := I.al k2 (by split <;> decide)
        have tb := sc.2.1 b hb'
        refine ⟨fun i => ?_, ?_, ?_, fun i => if_neg (by omega)⟩
        · have : b < 46 ∨ 94 ≤ b := by rcases k6 with e | e <;> omega
          rw [XI b i this, SO b i (by rcases k6 with e | e <;> omega) (by omega)]; exact (C b i hb').1
        · rw [XT, if_neg (by omega)]; exact tb.1
        · rw [XN, if_neg (by omega)]; exact tb.2
  · rw [M3 69 (by omega), M3 70 (by omega), M3 71 (by omega)]
    exact h4 u (by omega) e2
  · have q1 : ∀ w a, w < q + 1 → hR (mkM (mkS hc q (hZ hc) cb k p s t) q n r k p s t) 15 w = some a → (w = q ∧ a = hZ hc) ∨ (w < q ∧ hR h 15 w = some a ∧ a < hZ h) := fun w a hw e => by
      rw [XR] at e
      by_cases c : w = q
      · rw [if_pos ⟨rfl, c⟩] at e; cases e; exact Or.inl ⟨c, rfl⟩
      · rw [if_neg (by omega), if_neg (by omega), if_neg (by omega), (C 15 w (by omega)).2] at e
        obtain ⟨a', g1, g2⟩ := h3 w (by omega)
        rw [g1] at e; cases e
        exact Or.inr ⟨by omega, g1, I.al g2.1 (by decide)⟩
    rcases q1 u a e1 e3 with ⟨a1, a2⟩ | ⟨a1, a2, a3⟩
    · rcases q1 v a e2 e4 with ⟨b1, b2⟩ | ⟨b1, b2, b3⟩
      · omega
      · omega
    · rcases q1 v a e2 e4 with ⟨b1, b2⟩ | ⟨b1, b2, b3⟩
      · omega
      · exact h5 u v a a1 b1 a2 b2
end OpsL
