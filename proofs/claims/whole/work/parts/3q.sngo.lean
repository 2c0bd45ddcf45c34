section Sngo
variable {h : z_Hp} (F : Nat) (x1 x2 x3 x4 x5 : Int32)
theorem tkb_cg {g g' : Nat → Int32} {n : Nat} (e : ∀ k, k < n → g' k = g k) {k : Nat} (hk : k < n) : tkb g' k = tkb g k := by
  unfold tkb cont
  rw [e k hk]
  cases k with
  | zero => rw [decide_eq_false (Nat.lt_irrefl 0), Bool.false_and, Bool.false_and]
  | succ k => rw [Nat.add_sub_cancel, e k (by omega)]
theorem tkn_cg {g g' : Nat → Int32} {n : Nat} (e : ∀ k, k < n → g' k = g k) {k : Nat} (hk : k ≤ n) : tkn g' k = tkn g k := fb_ct_cong (fun j hj => tkb_cg e (by omega))
theorem mks_cg {g g' : Nat → Int32} {n : Nat} (e : ∀ k, k < n → g' k = g k) : mks g' n = mks g n := fb_ct_cong (fun j hj => by rw [e j hj])
theorem some_cg {g g' : Nat → Int32} {n : Nat} (e : ∀ k, k < n → g' k = g k) : ∀ k, k ≤ n → some_ g' k = some_ g k
  | 0, _ => rfl
  | k + 1, hk => by
    show (if g' k = 47 then false else isL (g' k) || some_ g' k) = (if g k = 47 then false else isL (g k) || some_ g k)
    rw [e k (by omega), some_cg e k (by omega)]
theorem run_cg {g g' : Nat → Int32} {n : Nat} (e : ∀ k, k < n → g' k = g k) : ∀ d k, k + d ≤ n → run g' d k = run g d k
  | 0, _, _ => rfl
  | d + 1, k, hk => by
    show (if isL (g' k) = true then run g' d (k + 1) + 1 else 0) = (if isL (g k) = true then run g d (k + 1) + 1 else 0)
    rw [e k (by omega), run_cg e d (k + 1) (by omega)]
theorem tke_cg {g g' : Nat → Int32} {n : Nat} (e : ∀ k, k < n → g' k = g k) {k : Nat} (hk : k < n) : tke g' n k = tke g n k := by
  unfold tke
  rw [e k hk, run_cg e (n - k) k (by omega)]
theorem isSg_cg {g g' : Nat → Int32} {n : Nat} (e : ∀ k, k < n → g' k = g k) (S : isSg g n) : isSg g' n := by
  obtain ⟨s1, s2, s3, s4⟩ := S
  refine ⟨fun k hk => by rw [e k hk]; exact s1 k hk, fun k hk => by rw [e k hk, some_cg e k (by omega)]; exact s2 k hk, by rw [some_cg e n (Nat.le_refl _)]; exact s3, by rw [mks_cg e]; exact s4⟩
theorem sgAt.ch {ow ow' : Ow} {h' : z_Hp} {t a n : Nat} {g g' : Nat → Int32} (S : sgAt ow h t a n g) (I : Ifx h) (o : OwOK ow) (T : ∀ c, c < hZ h → hT h' c = hT h c ∧ hN h' c = hN h c) (C : ∀ c i, c < hZ h → ¬ c = 53 → ¬ c = 54 → hI h' c i = hI h c i) (R : ∀ c i, 94 ≤ c → c < hZ h → hR h' c i = hR h c i) (x : OwX h ow ow') (e : ∀ k, k < n → g' k = g k) : sgAt ow' h' t a n g' := by
  obtain ⟨a1, a2, a3, a4, a5, a6, ⟨b, b1, b2, b3, b4, b5⟩, ⟨c, c1, c2, c3, c4, c5⟩, ⟨d, d1, d2, d3, d4, d5⟩⟩ := S
  have ha := I.al a1 (by decide)
  have hb := I.al b2 (by decide)
  have hc := I.al c2 (by decide)
  have hd := I.al d2 (by decide)
  have nb : ∀ b, (∀ i, ow b i = 12) → ¬ b = 53 ∧ ¬ b = 54 := fun b hb => ⟨fun e => by
    have := hb 0
    rw [e, o 53 0 (by decide)] at this
    exact absurd this (by decide), fun e => by
    have := hb 0
    rw [e, o 54 0 (by decide)] at this
    exact absurd this (by decide)⟩
  have CC : ∀ b i, b < hZ h → (∀ i, ow b i = 12) → hI h' b i = hI h b i := fun b i h1 h2 => C b i h1 (nb b h2).1 (nb b h2).2
  refine ⟨(T a ha).1.trans a1, a2, fun i => (x a i ha).trans (a3 i), isSg_cg e a4, by rw [mks_cg e, CC a 1 ha a3]; exact a5, by rw [tkn_cg e (Nat.le_refl _), CC a 4 ha a3]; exact a6, ⟨b, (R a 0 a2 ha).trans b1, (T b hb).1.trans b2, (T b hb).2.trans b3, fun i => (x b i hb).trans (b4 i), fun k hk => ?_⟩, ⟨c, (R a 2 a2 ha).trans c1, (T c hc).1.trans c2, (T c hc).2.trans c3, fun i => (x c i hc).trans (c4 i), fun k hk hk2 => ?_⟩, ⟨d, (R a 3 a2 ha).trans d1, (T d hd).1.trans d2, (T d hd).2.trans d3, fun i => (x d i hd).trans (d4 i), fun k hk hk2 => ?_⟩⟩
  · rw [CC b k hb b4, e k hk]; exact b5 k hk
  · rw [tkn_cg e (by omega), CC c _ hc c4]; rw [tkb_cg e hk] at hk2; exact c5 k hk hk2
  · rw [tkn_cg e (by omega), CC d _ hd d4, tke_cg e hk]; rw [tkb_cg e hk] at hk2; exact d5 k hk hk2
/-- a song's four new cells, still without its words -/
def mk4 (h : z_Hp) (b n : Nat) (x : Int32) : z_Hp := sR (nw (sR (nw (sI (sR (cl_ (nw h 7 5) b) (hZ h) 0 (some (hZ h + 1))) (hZ h) 1 x) 20 n) (hZ h) 2 (some (hZ h + 2))) 20 n) (hZ h) 3 (some (hZ h + 3))
theorem mk4_T {b n : Nat} {x : Int32} (hb : b < hZ h) (c : Nat) : hT (mk4 h b n x) c = if c = hZ h + 3 then 20 else if c = hZ h + 2 then 20 else if c = hZ h + 1 then hT h b else if c = hZ h then 7 else hT h c := by
  unfold mk4
  rw [hT_sR, hT_nw, hT_sR, hT_nw, hT_sI, hT_sR, hT_cl, hT_nw, hT_nw, if_neg (show ¬ b = hZ h by omega)]
  rfl
theorem mk4_N {b n : Nat} {x : Int32} (hb : b < hZ h) (c : Nat) : hN (mk4 h b n x) c = if c = hZ h + 3 then n else if c = hZ h + 2 then n else if c = hZ h + 1 then hN h b else if c = hZ h then 5 else hN h c := by
  unfold mk4
  rw [hN_sR, hN_nw, hN_sR, hN_nw, hN_sI, hN_sR, hN_cl, hN_nw, hN_nw, if_neg (show ¬ b = hZ h by omega)]
  rfl
theorem mk4_R {b n : Nat} {x : Int32} (c i : Nat) : hR (mk4 h b n x) c i = if c = hZ h ∧ i = 3 then some (hZ h + 3) else if c = hZ h + 3 then none else if c = hZ h ∧ i = 2 then some (hZ h + 2) else if c = hZ h + 2 then none else if c = hZ h ∧ i = 0 then some (hZ h + 1) else if c = hZ h + 1 then none else if c = hZ h then none else hR h c i := by
  unfold mk4
  rw [hR_sR, hR_nw, hR_sR, hR_nw, hR_sI, hR_sR, hR_cl, hR_nw]
  rfl
theorem mk4_I {b n : Nat} {x : Int32} (hb : b < hZ h) (c i : Nat) : hI (mk4 h b n x) c i = if c = hZ h + 3 then 0 else if c = hZ h + 2 then 0 else if c = hZ h ∧ i = 1 then x else if c = hZ h + 1 then hI h b i else if c = hZ h then 0 else hI h c i := by
  unfold mk4
  rw [hI_sR, hI_nw, hI_sR, hI_nw, hI_sI, hI_sR, hI_cl, hI_nw, hI_nw, if_neg (show ¬ b = hZ h by omega)]
  rfl
theorem mk4_J {b n : Nat} {x : Int32} (c i : Nat) (hc : c < hZ h) : hJ (mk4 h b n x) c i = hJ h c i := by
  have e : hJ (mk4 h b n x) c i = if c = hZ h + 3 then 0 else if c = hZ h + 2 then 0 else if c = hZ h + 1 then 0 else if c = hZ h then 0 else hJ h c i := by
    unfold mk4
    rw [hJ_sR, hJ_nw, hJ_sR, hJ_nw, hJ_sI, hJ_sR, hJ_cl, hJ_nw]
    rfl
  rw [e, if_neg (by omega), if_neg (by omega), if_neg (by omega), if_neg (by omega)]
theorem Wp.nwo {α : Type} {g : z_Hp} {t n : Nat} {k : Nat → z_Hp → Option α} {P : α → Prop} (w : Wp (k (hZ g) (nw g t n)) P) : Wp (nwo g t n k) P := w
theorem x_copyB {a n : Nat} (t1 : hT h a = 21) (t2 : hN h a = n) : c_J7_copyOf_9075b F (some a) (nI n) h = some (some (hZ h), cl_ h a) := by
  unfold c_J7_copyOf_9075b
  have b1 : okL h a = true := okL_n t1 (by decide) (by decide)
  simp only [nn, b1, if_true, t2, t1, clo, hT_cl]
theorem x_init (I : Ifx h) (hF : 5000 ≤ F) {b n : Nat} {g : Nat → Int32} (n60 : n ≤ 60) (tb : hT h b = 21) (nb : hN h b = n) (eb : ∀ k, k < n → hI h b k = g k) (hv : ∀ k, k < n → isL (g k) = true ∨ g k = 32 ∨ g k = 47) (x : Int32) : Wp (c_X7_init F (hZ h) (some b) x (nw h 7 5)) (fun r => ChI (Awd (hZ h)) (mk4 h b n x) r ∧ hI r (hZ h) 4 = nI (tkn g n) ∧ ∀ j, j < n → tkb g j = true → hI r (hZ h + 2) (tkn g j) = nI j ∧ hI r (hZ h + 3) (tkn g j) = nI (tke g n j)) := by
  have hb := I.al tb (by decide)
  have t1 : hT (nw h 7 5) b = 21 := by rw [hT_nw, if_neg (by omega)]; exact tb
  have n1 : hN (nw h 7 5) b = n := by rw [hN_nw, if_neg (by omega)]; exact nb
  have l1 : okL (nw h 7 5) b = true := okL_n t1 (by decide) (by decide)
  unfold c_X7_init
  refine Wp.rf rfl (Wp.ifT l1 ?_)
  rw [n1, x_copyB F t1 n1, bR_some]
  have tz : hT (cl_ (nw h 7 5) b) (hZ h) = 7 := by rw [hT_cl, hZ_nw, if_neg (by omega), hT_nw, if_pos rfl]
  have l2 : okL (cl_ (nw h 7 5) b) b = true := okL_n (t := 21) (by rw [hT_cl, hZ_nw, if_neg (by omega)]; exact t1) (by decide) (by decide)
  have n2 : hN (cl_ (nw h 7 5) b) b = n := by rw [hN_cl, hZ_nw, if_neg (by omega)]; exact n1
  have ib : inb (nI n) 100000 = true := inb_n (by omega) (by decide)
  refine Wp.ifT tz (Wp.ltH (Wp.ifT tz (Wp.ltH (Wp.ifT l2 ?_))))
  rw [show hN (sI (sR (cl_ (nw h 7 5) b) (hZ h) 0 (some (hZ (nw h 7 5)))) (hZ h) 1 x) b = n from n2, ix_n (show n < 2147483648 by omega)]
  refine Wp.ifT ib (Wp.nwo ?_)
  generalize hk : sI (sR (cl_ (nw h 7 5) b) (hZ h) 0 (some (hZ (nw h 7 5)))) (hZ h) 1 x = k
  have zk : hZ k = hZ h + 2 := by rw [← hk]; rfl
  have tk : hT k (hZ h) = 7 := by rw [← hk]; exact tz
  have lk : hT k b = 21 := by rw [← hk]; show hT (cl_ (nw h 7 5) b) b = 21; rw [hT_cl, hZ_nw, if_neg (by omega)]; exact t1
  have nk : hN k b = n := by rw [← hk]; exact n2
  have tk1 : hT (nw k 20 n) (hZ h) = 7 := by rw [hT_nw, if_neg (by omega)]; exact tk
  have lk1 : okL (nw k 20 n) b = true := okL_n (t := 21) (by rw [hT_nw, if_neg (by omega)]; exact lk) (by decide) (by decide)
  have nk1 : hN (nw k 20 n) b = n := by rw [hN_nw, if_neg (by omega)]; exact nk
  refine Wp.ifT tk1 (Wp.ltH (Wp.ifT lk1 ?_))
  rw [show hN (sR (nw k 20 n) (hZ h) 2 (some (hZ k))) b = n from nk1, ix_n (show n < 2147483648 by omega)]
  refine Wp.ifT ib (Wp.nwo ?_)
  have tk2 : hT (nw (sR (nw k 20 n) (hZ h) 2 (some (hZ k))) 20 n) (hZ h) = 7 := by
    rw [hT_nw]; exact (if_neg (show ¬ hZ h = hZ k + 1 by omega)).trans tk1
  refine Wp.ifT tk2 (Wp.ltH ?_)
  have em : sR (nw (sR (nw k 20 n) (hZ h) 2 (some (hZ k))) 20 n) (hZ h) 3 (some (hZ (sR (nw k 20 n) (hZ h) 2 (some (hZ k))))) = mk4 h b n x := by
    rw [← hk]; rfl
  rw [em]
  have T := mk4_T (h := h) (b := b) (n := n) (x := x) hb
  have N := mk4_N (h := h) (b := b) (n := n) (x := x) hb
  have R := mk4_R (h := h) (b := b) (n := n) (x := x)
  have V := mk4_I (h := h) (b := b) (n := n) (x := x) hb
  refine x_init40 F hF n60 ?_ ?_ ?_ ?_ ?_ ?_ ?_ ?_ ?_ ?_ (fun k hk => ?_) hv
  · rw [T, if_neg (by omega), if_neg (by omega), if_neg (by omega), if_pos rfl]
  · rw [R, if_neg (by omega), if_neg (by omega), if_neg (by omega), if_neg (by omega), if_pos ⟨rfl, rfl⟩]
  · rw [R, if_neg (by omega), if_neg (by omega), if_pos ⟨rfl, rfl⟩]
  · rw [R, if_pos ⟨rfl, rfl⟩]
  · rw [T, if_neg (by omega), if_neg (by omega), if_pos rfl]; exact tb
  · rw [N, if_neg (by omega), if_neg (by omega), if_pos rfl]; exact nb
  · rw [T, if_neg (by omega), if_pos rfl]
  · rw [N, if_neg (by omega), if_pos rfl]
  · rw [T, if_pos rfl]
  · rw [N, if_pos rfl]
  · rw [V, if_neg (by omega), if_neg (by omega), if_neg (by omega), if_pos rfl]; exact eb k hk
theorem mk4_st (I : Ifx h) {ow : Ow} {b n : Nat} {x : Int32} (hb : b < hZ h) {k : z_Hp} (c : ChI (Awd (hZ h)) (mk4 h b n x) k) : St [] ow h k := by
  have zk : hZ k = hZ h + 4 := c.Z.1
  refine ⟨by omega, fun a ha => ⟨?_, ?_⟩, fun a i ha _ => ⟨?_, ?_, ?_⟩, fun a ha => ?_⟩
  · rw [c.T, mk4_T hb, if_neg (by omega), if_neg (by omega), if_neg (by omega), if_neg (by omega)]
  · rw [c.N, mk4_N hb, if_neg (by omega), if_neg (by omega), if_neg (by omega), if_neg (by omega)]
  · rw [c.1 a i (by unfold Awd; omega), mk4_I hb, if_neg (by omega), if_neg (by omega), if_neg (by omega), if_neg (by omega), if_neg (by omega)]
  · rw [c.J, mk4_J a i ha]
  · rw [c.R, mk4_R, if_neg (by omega), if_neg (by omega), if_neg (by omega), if_neg (by omega), if_neg (by omega), if_neg (by omega), if_neg (by omega)]
  · rw [c.T, mk4_T hb, if_neg (by omega), if_neg (by omega), if_neg (by omega), if_neg (by omega)]
    exact I.2.2.2 a (by omega)
theorem op_song (hF : 5000 ≤ F) (J : Inv h) : OkI h (c_X9_song F 5 x1 x2 h) (c_X10_song F 46 x1 x2) := by
  obtain ⟨ow, J⟩ := J
  have o := J.1
  have I := J.2.1
  have hz := I.2.2.1
  have RT : Rtxt ow h := J.2.2.2.2.2.2.2.2.1
  by_cases c1 : 0 ≤ x1.toInt ∧ x1.toInt ≤ 9
  · by_cases c2 : 0 ≤ x2.toInt ∧ x2.toInt ≤ 3
    · obtain ⟨s, hs, rfl⟩ := rng (x := x1) (n := 9) c1
      obtain ⟨t, ht, rfl⟩ := rng (x := x2) (n := 3) c2
      have o7 : okA h 7 24 (nI t) = true := okA_n (fT7 I) (fN7 I) (by omega) (by decide)
      rcases RT.1 t (by omega) with ⟨g1, g2⟩ | ⟨n, b, n60, e51, e7, tb, nb, b94, ob, eb⟩
      · refine OkI.found0 (F := F) 1 (by decide) J ?_ (fun h' w => ?_)
        · unfold c_X9_song
          show _ = c_X9_found F 5 1 h
          rw [x_isSong, bI_some, if_pos c1, ite10, x_isText, bI_some, if_pos c2, ite10]
          simp only [fT5 I, fR5_1 I, if_true, ltq, nnq, o7, ix_n (show t < 2147483648 by omega), g2, nlz, bI_id]
        · have I' := I.st o w (by decide)
          have e : hI h' 51 t = -9 := (w.fam I o (c := 61) (by decide) 51 t (by omega) rfl).1.trans g1
          have o51 : okA h' 51 20 (nI t) = true := okA_n (fT51 I') (fN51 I') (by omega) (by decide)
          unfold c_X10_song
          show _ = c_X10_meets F 46 1 h'
          rw [m_isSong, bI_some, if_pos c1, ite10, m_isText, bI_some, if_pos c2, ite10]
          simp only [fT46 I', fR46_10 I', if_true, ltq, nnq, o51, ix_n (show t < 2147483648 by omega), e, if_neg nn9, bI_id]
      · have hb := I.al tb (by decide)
        obtain ⟨⟨v, k0⟩, d1, d2, d3⟩ := x_linesIn F hF tb nb n60 eb
        dsimp only at d2 d3
        rw [d2] at d1
        generalize hg : (fun k => hI h 52 (60 * t + k)) = g at *
        have eg : ∀ k, hI h 52 (60 * t + k) = g k := fun k => by rw [← hg]
        have ml : mks g n ≤ n := fb_ct_le _ _
        by_cases S : isSg g n
        · have d4 : v = nI (mks g n + 1) := by
            rcases d3 with ⟨_, y⟩ | ⟨y, _⟩
            · exact y
            · exact absurd S y
          rw [d4] at d1
          clear d3 d4
          have m8 := S.2.2.2
          obtain ⟨k, f1, f2, f3, f4⟩ := x_init F I hF n60 tb nb eb S.1 (nI (mks g n + 1))
          have s0 : St [] ow h k := mk4_st I hb f2
          have zk : hZ k = hZ h + 4 := f2.Z.1
          have Sk : hS k = hS h + 5 + n + n + n := by
            rw [f2.Z.2]
            unfold mk4
            rw [hS_sR, hS_nw, hS_sR, hS_nw, hS_sI, hS_sR, hS_cl, hS_nw, hN_nw, if_neg (by omega), nb]
          have T := mk4_T (h := h) (b := b) (n := n) (x := nI (mks g n + 1)) hb
          have N := mk4_N (h := h) (b := b) (n := n) (x := nI (mks g n + 1)) hb
          have R := mk4_R (h := h) (b := b) (n := n) (x := nI (mks g n + 1))
          have V := mk4_I (h := h) (b := b) (n := n) (x := nI (mks g n + 1)) hb
          have kz : hT k (hZ h) = 7 := by rw [f2.T, T, if_neg (by omega), if_neg (by omega), if_neg (by omega), if_pos rfl]
          have Ik := I.st o s0 (by decide)
          have o8 : okA k 8 25 (nI s) = true := okA_n (fT8 Ik) (fN8 Ik) (by omega) (by decide)
          have oS : okS k 25 (some (hZ h)) = true := by unfold okS; simp [z_ct, kz]
          have s1 : St [12] ow h (sR k 8 s (some (hZ h))) := (s0.sub (by decide)).wR o 12 (by decide) rfl (by decide)
          have I1 := I.st o s1 (by decide)
          have h51 : hI (sR k 8 s (some (hZ h))) 51 t = nI n := (s1.fam I o (c := 61) (by decide) 51 t (by omega) rfl).1.trans e51
          have h52 : ∀ j, j < n → hI (sR k 8 s (some (hZ h))) 52 (60 * t + j) = g j := fun j _ => (s1.fam I o (c := 61) (by decide) 52 (60 * t + j) (by omega) rfl).1.trans (eg j)
          refine OkI.wp ⟨(nI (mks g n + 1), sR k 8 s (some (hZ h))), ?_, ?_⟩
          · unfold c_X9_song
            rw [x_isSong, bI_some, if_pos c1, ite10, x_isText, bI_some, if_pos c2, ite10]
            simp only [fT5 I, fR5_1 I, fR5_2 I, if_true, ltq, nnq, o7, ix_n (show t < 2147483648 by omega), e7, nlq, d1, bIq, if_neg (enc9 (show mks g n + 1 < 2147483648 by omega)), nwo, f1, bV_some, o8, oS, and_self, ix_n (show s < 2147483648 by omega)]
          · dsimp only
            generalize hk1 : sR k 8 s (some (hZ h)) = k1 at *
            have o51 : okA k1 51 20 (nI t) = true := okA_n (fT51 I1) (fN51 I1) (by omega) (by decide)
            have o53 : okA k1 53 20 (nI s) = true := okA_n (fT53 I1) (fN53 I1) (by omega) (by decide)
            unfold c_X10_song
            rw [m_isSong, bI_some, if_pos c1, ite10, m_isText, bI_some, if_pos c2, ite10, ix_n (show t < 2147483648 by omega), ix_n (show s < 2147483648 by omega)]
            refine Wp.ifT (fT46 I1) (Wp.ltO (Wp.rf (fR46_10 I1) (Wp.ifT o51 ?_)))
            rw [h51]
            refine Wp.ifT (nge (by omega)) (m_songL F _ I1 hF (by omega) n60 h51 h52 _ (fun _ => ?_) (fun y => absurd S y))
            refine Wp.lj (fun jA hjA => Wp.ifF one0 (Wp.ifT (nI_le (b := 8) (by omega) (by decide)) (Wp.ifT (fT46 I1) (Wp.ltO (Wp.ifT (fT46 I1) (Wp.ltO (Wp.rf (fR46_10 I1) (Wp.ifT o51 (Wp.rf (fR46_12 I1) (Wp.ifT o53 (Wp.ltH ?_)))))))))))
            rw [h51]
            refine (m_songC F (g := g) (I1.gI) hF (show s < 10 by omega) (show t < 4 by omega) n60 (show hI (sI k1 53 s (nI n)) 51 t = nI n by rw [hI_sI, if_neg (by omega)]; exact h51) (fun j hj => by rw [hI_sI, if_neg (by omega)]; exact h52 j hj) _).mono (fun r w => ?_)
            obtain ⟨r1, k2⟩ := r
            obtain ⟨w1, w2, w3, w4⟩ := w
            dsimp only at w1 w2 w3 w4 ⊢
            have c0 : ChI (Asg s) k1 k2 := (((ChI.refl (Asg s) k1).set (x := nI n) (Or.inl ⟨rfl, rfl⟩)).trans w2).mono (fun a i e => by rcases e with e | e <;> exact e)
            have w5 : hI k2 53 s = nI n := by rw [w3, hI_sI, if_pos ⟨rfl, rfl⟩]
            have s2 : St [12, 62] ow h k2 := (s1.trans (c0.st (fs := [62]) I1 o (fun a i e => by
              rcases e with ⟨rfl, rfl⟩ | ⟨rfl, _⟩
              · exact ⟨by decide, List.mem_cons_self⟩
              · exact ⟨by decide, List.mem_cons_self⟩))).sub (by decide)
            have zz : hZ k2 = hZ h + 4 := by rw [c0.Z.1, ← hk1]; exact zk
            have ss : hS k2 = hS h + 5 + n + n + n := by rw [c0.Z.2, ← hk1]; exact Sk
            have bI_ : ∀ c i, ¬ c = 53 → ¬ c = 54 → hI k2 c i = hI k c i := fun c i h1 h2 => by
              rw [c0.1 c i (by unfold Asg; omega), ← hk1]; rfl
            have bR_ : ∀ c i, ¬ c = 8 → hR k2 c i = hR k c i := fun c i h1 => by
              rw [c0.R, ← hk1, hR_sR, if_neg (by omega)]
            have bT : ∀ c, hT k2 c = hT k c := fun c => by rw [c0.T, ← hk1]; rfl
            have bN : ∀ c, hN k2 c = hN k c := fun c => by rw [c0.N, ← hk1]; rfl
            refine ⟨w1, ⟨owN ow (hZ h) 12, J.fin (o.new hz) s2 (OwX.new _ _ _) (by decide) (c12 := fun _ => ?_)⟩, by omega, by omega⟩
            intro u hu
            by_cases e : u = s
            · subst e
              right
              refine ⟨n, hZ h, n60, w5, ?_, ?_⟩
              · rw [c0.R, ← hk1, hR_sR, if_pos ⟨rfl, rfl⟩]
              · have e54 : ∀ j, j < n → (fun k => hI k2 54 (60 * u + k)) j = g j := fun j hj => w4 j hj
                have on : ∀ a i, hZ h ≤ a → owN ow (hZ h) 12 a i = 12 := fun a i ha => if_pos ha
                refine ⟨(bT _).trans kz, hz, fun i => on _ _ (Nat.le_refl _), isSg_cg e54 S, ?_, ?_, ⟨hZ h + 1, ?_, ?_, ?_, fun i => on _ _ (by omega), fun j hj => ?_⟩, ⟨hZ h + 2, ?_, ?_, ?_, fun i => on _ _ (by omega), fun j hj hj2 => ?_⟩, ⟨hZ h + 3, ?_, ?_, ?_, fun i => on _ _ (by omega), fun j hj hj2 => ?_⟩⟩
                · rw [mks_cg e54, bI_ _ _ (by omega) (by omega), f2.1 _ _ (by unfold Awd; omega), V, if_neg (by omega), if_neg (by omega), if_pos ⟨rfl, rfl⟩]
                · rw [tkn_cg e54 (Nat.le_refl _), bI_ _ _ (by omega) (by omega)]; exact f3
                · rw [bR_ _ _ (by omega), f2.R, R, if_neg (by omega), if_neg (by omega), if_neg (by omega), if_neg (by omega), if_pos ⟨rfl, rfl⟩]
                · rw [bT, f2.T, T, if_neg (by omega), if_neg (by omega), if_pos rfl]; exact tb
                · rw [bN, f2.N, N, if_neg (by omega), if_neg (by omega), if_pos rfl]; exact nb
                · rw [bI_ _ _ (by omega) (by omega), f2.1 _ _ (by unfold Awd; omega), V, if_neg (by omega), if_neg (by omega), if_neg (by omega), if_pos rfl, eb j hj]; exact (e54 j hj).symm
                · rw [bR_ _ _ (by omega), f2.R, R, if_neg (by omega), if_neg (by omega), if_pos ⟨rfl, rfl⟩]
                · rw [bT, f2.T, T, if_neg (by omega), if_pos rfl]
                · rw [bN, f2.N, N, if_neg (by omega), if_pos rfl]
                · rw [tkn_cg e54 (by omega), bI_ _ _ (by omega) (by omega)]
                  rw [tkb_cg e54 hj] at hj2
                  exact (f4 j hj hj2).1
                · rw [bR_ _ _ (by omega), f2.R, R, if_pos ⟨rfl, rfl⟩]
                · rw [bT, f2.T, T, if_pos rfl]
                · rw [bN, f2.N, N, if_pos rfl]
                · rw [tkn_cg e54 (by omega), bI_ _ _ (by omega) (by omega), tke_cg e54 hj]
                  rw [tkb_cg e54 hj] at hj2
                  exact (f4 j hj hj2).2
            · have e53 : hI k2 53 u = hI h 53 u := by
                rw [c0.1 53 u (by unfold Asg; omega)]
                exact (s1.fam I o (c := 62) (by decide) 53 u (by omega) rfl).1
              have e8 : hR k2 8 u = hR h 8 u := by
                rw [c0.R, ← hk1, hR_sR, if_neg (by omega)]
                exact (s0.2.2.1 8 u (by omega) (by simp)).2.2
              rw [e53, e8]
              rcases J.sng u hu with y | ⟨n', a', y1, y2, y3, y4⟩
              · exact Or.inl y
              · refine Or.inr ⟨n', a', y1, y2, y3, y4.ch I o (fun c hc => s2.2.1 c hc) (fun c i hc h1 h2 => ?_) (fun c i h1 hc => ?_) (OwX.new _ _ _) (fun j hj => ?_)⟩
                · rw [bI_ c i h1 h2]; exact (s0.2.2.1 c i hc (by simp)).1
                · rw [bR_ c i (by omega)]; exact (s0.2.2.1 c i hc (by simp)).2.2
                · rw [c0.1 54 (60 * u + j) (by unfold Asg; omega)]
                  exact (s1.fam I o (c := 62) (by decide) 54 _ (by omega) rfl).1
        · have d4 : v = -9 := by
            rcases d3 with ⟨y, _⟩ | ⟨_, y⟩
            · exact absurd y S
            · exact y
          rw [d4] at d1
          refine OkI.found0 (F := F) 3 (by decide) J ?_ (fun h' w => ?_)
          · unfold c_X9_song
            show _ = c_X9_found F 5 3 h
            rw [x_isSong, bI_some, if_pos c1, ite10, x_isText, bI_some, if_pos c2, ite10]
            simp only [fT5 I, fR5_1 I, if_true, ltq, nnq, o7, ix_n (show t < 2147483648 by omega), e7, nlq, d1, bIq, bI_id]
          · have I' := I.st o w (by decide)
            have h51 : hI h' 51 t = nI n := (w.fam I o (c := 61) (by decide) 51 t (by omega) rfl).1.trans e51
            have h52 : ∀ j, j < n → hI h' 52 (60 * t + j) = g j := fun j _ => (w.fam I o (c := 61) (by decide) 52 (60 * t + j) (by omega) rfl).1.trans (eg j)
            have o51 : okA h' 51 20 (nI t) = true := okA_n (fT51 I') (fN51 I') (by omega) (by decide)
            show _ = c_X10_meets F 46 3 h'
            have mt := m_meets I' F 3 3 rfl (by decide)
            have key : Wp (c_X10_song F 46 (nI s) (nI t) h') (fun r => some r = c_X10_meets F 46 3 h') := by
              unfold c_X10_song
              rw [m_isSong, bI_some, if_pos c1, ite10, m_isText, bI_some, if_pos c2, ite10, ix_n (show t < 2147483648 by omega), ix_n (show s < 2147483648 by omega)]
              refine Wp.ifT (fT46 I') (Wp.ltO (Wp.rf (fR46_10 I') (Wp.ifT o51 ?_)))
              rw [h51]
              refine Wp.ifT (nge (by omega)) (m_songL F _ I' hF (by omega) n60 h51 h52 _ (fun y => absurd y S) (fun _ p c hp => ?_))
              refine Wp.lj (fun jA hjA => ?_)
              have fin : Wp (jA h') (fun r => some r = c_X10_meets F 46 3 h') := by
                rw [hjA]
                refine Wp.ifT (fT46 I') ?_
                rw [bI_id, mt]
                exact Wp.ret rfl
              rcases hp with hp | ⟨hp, hc⟩
              · exact Wp.ifT hp fin
              · exact Wp.ifF (by rw [hp]; exact one0) (Wp.ifF hc fin)
            obtain ⟨r, k1, k2⟩ := key
            exact k1.trans k2
    · refine OkI.same (-1) ⟨ow, J⟩ ?_ ?_
      · unfold c_X9_song
        rw [x_isSong, bI_some, if_pos c1, ite10, x_isText, bI_some, if_neg c2, ite00]
      · unfold c_X10_song
        rw [m_isSong, bI_some, if_pos c1, ite10, m_isText, bI_some, if_neg c2, ite00]
  · refine OkI.same (-1) ⟨ow, J⟩ ?_ ?_
    · unfold c_X9_song
      rw [x_isSong, bI_some, if_neg c1, ite00]
    · unfold c_X10_song
      rw [m_isSong, bI_some, if_neg c1, ite00]
end Sngo
