/-! ===== what stays: each part of the invariant, when nothing of it has been touched ===== -/
theorem Ifx.al {h : z_Hp} (I : Ifx h) {a t : Nat} (e : hT h a = t) (ht : t ≠ 99) : a < hZ h := by
  rcases Nat.lt_or_ge a (hZ h) with h1 | h1
  · exact h1
  · exact absurd ((e.symm.trans (I.2.2.2 a h1))) ht
theorem St.fam {fs : List Nat} {ow : Ow} {h h' : z_Hp} (s : St fs ow h h') (I : Ifx h) (o : OwOK ow) {c : Nat} (hn : c ∉ fs) (a i : Nat) (ha : a < 94) (hc : ow0 a i = c) : hI h' a i = hI h a i ∧ hJ h' a i = hJ h a i ∧ hR h' a i = hR h a i :=
  s.2.2.1 a i (by have := I.2.2.1; omega) (by rw [o a i ha, hc]; exact hn)
theorem rowAt.st {c mx : Nat} {fs : List Nat} {ow ow' : Ow} {h h' : z_Hp} {p p' : Option Nat} {sz sz' : Int32} {g g' : Nat → Int32} (R : rowAt c mx ow h p sz g) (I : Ifx h) (s : St fs ow h h') (x : OwX h ow ow') (hn : c ∉ fs) (e1 : p' = p) (e2 : sz' = sz) (e3 : ∀ n k, sz = nI n → n ≤ mx → k < n → g' k = g k) : rowAt c mx ow' h' p' sz' g' := by
  subst e1; subst e2
  rcases R with ⟨h1, h2⟩ | ⟨n, a, h1, h2, h3, h4, h5, h6, h7, h8⟩
  · exact Or.inl ⟨h1, h2⟩
  · have ha := I.al h4 (by decide)
    have ht := s.2.1 a ha
    refine Or.inr ⟨n, a, h1, h2, h3, ht.1.trans h4, ht.2.trans h5, h6, fun i => (x a i ha).trans (h7 i), fun k hk => ?_⟩
    rw [(s.2.2.1 a k ha (by rw [h7 k]; exact hn)).1, h8 k hk, e3 n k h2 h1 hk]
theorem Rrow.st {fs : List Nat} {ow ow' : Ow} {h h' : z_Hp} (R : Rrow ow h) (I : Ifx h) (o : OwOK ow) (s : St fs ow h h') (x : OwX h ow ow') (hn : 10 ∉ fs) (hm : 60 ∉ fs) : Rrow ow' h' := by
  have F := s.fam I o hn
  have G := s.fam I o hm
  refine ⟨fun r hr => ?_, fun r q a hr hq h1 h2 => ?_⟩
  · exact (R.1 r hr).st I s x hn (F 6 r (by omega) rfl).2.2 (G 48 r (by omega) rfl).1 (fun n k _ _ _ => (G 49 _ (by omega) rfl).1)
  · rw [(F 6 r (by omega) rfl).2.2] at h1
    rw [(F 6 q (by omega) rfl).2.2] at h2
    exact R.2 r q a hr hq h1 h2
theorem txtAt.st {fs : List Nat} {ow ow' : Ow} {h h' : z_Hp} {p p' : Option Nat} {sz sz' : Int32} {g g' : Nat → Int32} (R : txtAt ow h p sz g) (I : Ifx h) (s : St fs ow h h') (x : OwX h ow ow') (hn : 11 ∉ fs) (e1 : p' = p) (e2 : sz' = sz) (e3 : ∀ k, g' k = g k) : txtAt ow' h' p' sz' g' := by
  subst e1; subst e2
  rcases R with ⟨h1, h2⟩ | ⟨n, a, h1, h2, h3, h4, h5, h6, h7, h8⟩
  · exact Or.inl ⟨h1, h2⟩
  · have ha := I.al h4 (by decide)
    have ht := s.2.1 a ha
    refine Or.inr ⟨n, a, h1, h2, h3, ht.1.trans h4, ht.2.trans h5, h6, fun i => (x a i ha).trans (h7 i), fun k hk => ?_⟩
    rw [(s.2.2.1 a k ha (by rw [h7 k]; exact hn)).1, h8 k hk, e3]
theorem Rtxt.st {fs : List Nat} {ow ow' : Ow} {h h' : z_Hp} (R : Rtxt ow h) (I : Ifx h) (o : OwOK ow) (s : St fs ow h h') (x : OwX h ow ow') (hn : 11 ∉ fs) (hm : 61 ∉ fs) : Rtxt ow' h' := by
  have F := s.fam I o hn
  have G := s.fam I o hm
  refine ⟨fun r hr => ?_, fun r q a hr hq h1 h2 => ?_⟩
  · exact (R.1 r hr).st I s x hn (F 7 r (by omega) rfl).2.2 (G 51 r (by omega) rfl).1 (fun k => (G 52 _ (by omega) rfl).1)
  · rw [(F 7 r (by omega) rfl).2.2] at h1
    rw [(F 7 q (by omega) rfl).2.2] at h2
    exact R.2 r q a hr hq h1 h2
theorem Rtun.st {fs : List Nat} {ow ow' : Ow} {h h' : z_Hp} (R : Rtun ow h) (I : Ifx h) (o : OwOK ow) (s : St fs ow h h') (x : OwX h ow ow') (hn : 13 ∉ fs) (hm : 63 ∉ fs) : Rtun ow' h' := by
  have F := s.fam I o hn
  have G := s.fam I o hm
  refine fun r hr => ⟨(R r hr).1.st I s x hn (F 9 r (by omega) rfl).2.2 (G 57 r (by omega) rfl).1 (fun n k _ _ _ => (G 58 _ (by omega) rfl).1), ?_⟩
  rw [(G 57 r (by omega) rfl).1]; exact (R r hr).2
theorem Rwlk.st {fs : List Nat} {ow ow' : Ow} {h h' : z_Hp} (R : Rwlk ow h) (I : Ifx h) (o : OwOK ow) (s : St fs ow h h') (x : OwX h ow ow') (hn : 18 ∉ fs) (hm : 68 ∉ fs) : Rwlk ow' h' := by
  have F := s.fam I o hn
  have G := s.fam I o hm
  refine fun r hr => ⟨(R r hr).1.st I s x hn (F 40 r (by omega) rfl).2.2 (G 89 r (by omega) rfl).1 (fun n k _ _ _ => (G 90 _ (by omega) rfl).1), ?_, ?_⟩
  · rw [(G 89 r (by omega) rfl).1]; exact (R r hr).2.1
  · intro k n e1 e2 e3
    rw [(G 89 r (by omega) rfl).1] at e1
    rw [(G 90 _ (by omega) rfl).1]
    exact (R r hr).2.2 k n e1 e2 e3
theorem Rrul.st {fs : List Nat} {ow : Ow} {h h' : z_Hp} (R : Rrul h) (I : Ifx h) (o : OwOK ow) (s : St fs ow h h') (hn : 14 ∉ fs) (hm : 64 ∉ fs) : Rrul h' := by
  have F := s.fam I o hn
  have G := s.fam I o hm
  obtain ⟨q, h1, h2, h3, h4⟩ := R
  refine ⟨q, h1, ?_, ?_, fun k hk => ?_⟩
  · rw [(F 10 3 (by omega) rfl).1]; exact h2
  · rw [(G 46 19 (by omega) rfl).1]; exact h3
  · rw [(F 11 k (by omega) rfl).1, (G 59 k (by omega) rfl).1, (F 12 k (by omega) rfl).1, (G 60 k (by omega) rfl).1]
    obtain ⟨g1, g2, g3, g4, g5⟩ := h4 k hk
    refine ⟨g1, g2, g3, g4, fun j hj => ?_⟩
    rw [(F 13 (5 * k + j) (by omega) rfl).1, (G 61 (5 * k + j) (by omega) rfl).1]
    exact g5 j hj
theorem Rprn.st {fs : List Nat} {ow : Ow} {h h' : z_Hp} (R : Rprn h) (I : Ifx h) (o : OwOK ow) (s : St fs ow h h') (hn : 15 ∉ fs) (hm : 65 ∉ fs) : Rprn h' := by
  have F := s.fam I o hn
  have G := s.fam I o hm
  intro p hp
  rw [(F 21 p (by omega) rfl).1, (G 63 p (by omega) rfl).1, (F 22 p (by omega) rfl).1, (G 64 p (by omega) rfl).1]
  exact R p hp
theorem shAt.st {fs : List Nat} {ow ow' : Ow} {h h' : z_Hp} {t a : Nat} (R : shAt ow h t a) (I : Ifx h) (o : OwOK ow) (s : St fs ow h h') (x : OwX h ow ow') (hn : 16 ∉ fs) (hm : 66 ∉ fs) (hn2 : 20 ∉ fs) : shAt ow' h' t a := by
  have F := s.fam I o hm
  obtain ⟨a1, a2, a3, b0, b1, b2, b3, b5, b6, b7, b8, b9, b10, ⟨b, n, c1, c2, c3, c4, c5, c6, c7⟩, r⟩ := R
  have ha := I.al a1 (by decide)
  have G : ∀ i, hI h' a i = hI h a i ∧ hR h' a i = hR h a i := fun i => by
    have := s.2.2.1 a i ha (by rw [a2 i]; exact hn)
    exact ⟨this.1, this.2.2⟩
  have hb := I.al c2 (by split <;> decide)
  have tb := s.2.1 b hb
  unfold shAt
  simp only [(G _).1, (G _).2, (F 65 t (by omega) rfl).1, (F 66 t (by omega) rfl).1, (F 67 t (by omega) rfl).1, (F 68 t (by omega) rfl).1, (F 69 t (by omega) rfl).1, (F 70 t (by omega) rfl).1, (F 71 t (by omega) rfl).1, (F 72 t (by omega) rfl).1, (F 73 t (by omega) rfl).1, (F 74 t (by omega) rfl).1, (F 75 t (by omega) rfl).1, (s.2.1 a ha).1]
  refine ⟨a1, fun i => (x a i ha).trans (a2 i), a3, b0, b1, b2, b3, b5, b6, b7, b8, b9, b10, ⟨b, n, c1, tb.1.trans c2, tb.2.trans c3, c4, c5, ?_, fun k hk => ?_⟩, r⟩
  · rcases c6 with e | ⟨e1, e2⟩
    · exact Or.inl e
    · exact Or.inr ⟨e1, fun i => (x b i hb).trans (e2 i)⟩
  · rw [(F 76 (40 * t + k) (by omega) rfl).1, ← c7 k hk]
    rcases c6 with e | ⟨e1, e2⟩
    · subst e; exact (s.fam I o hn2 1 k (by omega) rfl).1
    · exact (s.2.2.1 b k hb (by rw [e2 k]; exact hn)).1
theorem Rshe.st {fs : List Nat} {ow ow' : Ow} {h h' : z_Hp} (R : Rshe ow h) (I : Ifx h) (o : OwOK ow) (s : St fs ow h h') (x : OwX h ow ow') (hn : 16 ∉ fs) (hm : 66 ∉ fs) (hn2 : 20 ∉ fs) : Rshe ow' h' := by
  have F := s.fam I o hn
  have G := s.fam I o hm
  obtain ⟨q, h1, h2, h3, h4, h5, h6⟩ := R
  refine ⟨q, h1, ?_, ?_, fun t ht => ?_, fun t h7 h8 => ?_, fun t u a h7 h8 h9 h10 => ?_⟩
  · rw [(F 14 1 (by omega) rfl).1]; exact h2
  · rw [(G 46 26 (by omega) rfl).1]; exact h3
  · obtain ⟨a, e1, e2⟩ := h4 t ht
    exact ⟨a, (F 15 t (by omega) rfl).2.2.trans e1, e2.st I o s x hn hm hn2⟩
  · rw [(G 69 t (by omega) rfl).1, (G 70 t (by omega) rfl).1, (G 71 t (by omega) rfl).1]
    exact h5 t h7 h8
  · rw [(F 15 t (by omega) rfl).2.2] at h9
    rw [(F 15 u (by omega) rfl).2.2] at h10
    exact h6 t u a h7 h8 h9 h10
theorem Rreg.st {fs : List Nat} {ow : Ow} {h h' : z_Hp} (R : Rreg h) (I : Ifx h) (o : OwOK ow) (s : St fs ow h h') (hn : 17 ∉ fs) (hm : 67 ∉ fs) : Rreg h' := by
  have F := s.fam I o hn
  have G := s.fam I o hm
  obtain ⟨q, h1, h2, h3, h4, p, h5, h6⟩ := R
  refine ⟨q, h1, ?_, ?_, fun k hk => ?_, p, fun k hk => ?_, fun j k hj hk => ?_⟩
  · rw [(F 34 4 (by omega) rfl).1]; exact h2
  · rw [(G 46 49 (by omega) rfl).1]; exact h3
  · rw [(F 35 k (by omega) rfl).1, (F 36 k (by omega) rfl).1, (F 37 k (by omega) rfl).1, (G 86 k (by omega) rfl).1, (G 87 k (by omega) rfl).1, (G 88 k (by omega) rfl).1]
    exact h4 k hk
  · rw [(F 38 k (by omega) rfl).1]; exact h5 k hk
  · rw [(G 88 (p j) (by omega) rfl).1, (G 88 (p k) (by omega) rfl).1]; exact h6 j k hj hk
theorem Rsun.st {fs : List Nat} {ow : Ow} {h h' : z_Hp} (R : Rsun h) (I : Ifx h) (o : OwOK ow) (s : St fs ow h h') (hn : 19 ∉ fs) (hm : 69 ∉ fs) : Rsun h' := by
  have F := s.fam I o hn
  have G := s.fam I o hm
  obtain ⟨q, h1, h2, h3, h4⟩ := R
  refine ⟨q, h1, ?_, ?_, fun k hk => ?_⟩
  · rw [(F 39 5 (by omega) rfl).1]; exact h2
  · rw [(G 46 55 (by omega) rfl).1]; exact h3
  · rw [(F 41 k (by omega) rfl).1, (F 42 k (by omega) rfl).1, (F 43 k (by omega) rfl).1, (G 91 k (by omega) rfl).1, (G 92 k (by omega) rfl).1, (G 93 k (by omega) rfl).1]
    exact h4 k hk
theorem Rtod.st {fs : List Nat} {ow : Ow} {h h' : z_Hp} (R : Rtod h) (I : Ifx h) (o : OwOK ow) (s : St fs ow h h') (hn : 1 ∉ fs) (hm : 51 ∉ fs) : Rtod h' := by
  have F := s.fam I o hn
  have G := s.fam I o hm
  unfold Rtod
  rw [(F 5 4 (by omega) rfl).1, (G 46 6 (by omega) rfl).1]
  exact R
theorem Rfin.st {fs : List Nat} {ow : Ow} {h h' : z_Hp} (R : Rfin h) (I : Ifx h) (o : OwOK ow) (s : St fs ow h h') (hn : 2 ∉ fs) (hm : 52 ∉ fs) : Rfin h' := by
  have F := s.fam I o hn
  have G := s.fam I o hm
  refine ⟨?_, fun j hj => ?_⟩
  · rw [(F 5 12 (by omega) rfl).1, (G 46 0 (by omega) rfl).1]; exact R.1
  · rw [(F 45 j (by omega) rfl).1, (G 47 j (by omega) rfl).1]; exact R.2 j hj
theorem Rask.st {fs : List Nat} {ow : Ow} {h h' : z_Hp} (R : Rask h) (I : Ifx h) (o : OwOK ow) (s : St fs ow h h') (hn : 3 ∉ fs) (hm : 53 ∉ fs) : Rask h' := by
  have F := s.fam I o hn
  have G := s.fam I o hm
  unfold Rask
  rw [(F 5 15 (by omega) rfl).1, (G 46 2 (by omega) rfl).1]
  exact R
theorem Rman.st {fs : List Nat} {ow : Ow} {h h' : z_Hp} (R : Rman h) (I : Ifx h) (o : OwOK ow) (s : St fs ow h h') (hn : 4 ∉ fs) (hm : 54 ∉ fs) : Rman h' := by
  have F := s.fam I o hn
  have G := s.fam I o hm
  unfold Rman
  rw [(F 5 14 (by omega) rfl).2.1, (G 46 3 (by omega) rfl).2.1]
  exact R
theorem Rfra.st {fs : List Nat} {ow : Ow} {h h' : z_Hp} (R : Rfra h) (I : Ifx h) (o : OwOK ow) (s : St fs ow h h') (hn : 5 ∉ fs) (hm : 55 ∉ fs) : Rfra h' := by
  have F := s.fam I o hn
  have G := s.fam I o hm
  unfold Rfra
  rw [(F 5 16 (by omega) rfl).2.1, (G 46 4 (by omega) rfl).2.1, (F 5 17 (by omega) rfl).2.1, (G 46 5 (by omega) rfl).2.1]
  exact R
theorem Rway.st {fs : List Nat} {ow ow' : Ow} {h h' : z_Hp} (R : Rway ow h) (I : Ifx h) (o : OwOK ow) (s : St fs ow h h') (x : OwX h ow ow') (h16 : hR h' 16 2 = hR h 16 2) : Rway ow' h' := by
  obtain ⟨a, h1, h2, h3, h4, h5⟩ := R
  have ha := I.al h2 (by decide)
  have ht := s.2.1 a ha
  exact ⟨a, h16.trans h1, ht.1.trans h2, by rw [ht.2]; exact h3, fun i => (x a i ha).trans (h4 i), h5⟩
theorem sgAt.st {fs : List Nat} {ow ow' : Ow} {h h' : z_Hp} {t a n : Nat} {g g' : Nat → Int32} (R : sgAt ow h t a n g) (I : Ifx h) (s : St fs ow h h') (x : OwX h ow ow') (hn : 12 ∉ fs) (hg : g' = g) : sgAt ow' h' t a n g' := by
  subst hg
  obtain ⟨a1, a2, a3, a4, a5, a6, ⟨b, b1, b2, b3, b4, b5⟩, ⟨c, c1, c2, c3, c4, c5⟩, ⟨d, d1, d2, d3, d4, d5⟩⟩ := R
  have ha := I.al a1 (by decide)
  have hb := I.al b2 (by decide)
  have hc := I.al c2 (by decide)
  have hd := I.al d2 (by decide)
  have G : ∀ i, hI h' a i = hI h a i ∧ hR h' a i = hR h a i := fun i => by
    have := s.2.2.1 a i ha (by rw [a3 i]; exact hn)
    exact ⟨this.1, this.2.2⟩
  refine ⟨(s.2.1 a ha).1.trans a1, a2, fun i => (x a i ha).trans (a3 i), a4, (G 1).1.trans a5, (G 4).1.trans a6, ⟨b, (G 0).2.trans b1, (s.2.1 b hb).1.trans b2, (s.2.1 b hb).2.trans b3, fun i => (x b i hb).trans (b4 i), fun k hk => ?_⟩, ⟨c, (G 2).2.trans c1, (s.2.1 c hc).1.trans c2, (s.2.1 c hc).2.trans c3, fun i => (x c i hc).trans (c4 i), fun k hk hk2 => ?_⟩, ⟨d, (G 3).2.trans d1, (s.2.1 d hd).1.trans d2, (s.2.1 d hd).2.trans d3, fun i => (x d i hd).trans (d4 i), fun k hk hk2 => ?_⟩⟩
  · rw [(s.2.2.1 b k hb (by rw [b4 k]; exact hn)).1]; exact b5 k hk
  · rw [(s.2.2.1 c _ hc (by rw [c4]; exact hn)).1]; exact c5 k hk hk2
  · rw [(s.2.2.1 d _ hd (by rw [d4]; exact hn)).1]; exact d5 k hk hk2
theorem Rsng.st {fs : List Nat} {ow ow' : Ow} {h h' : z_Hp} (R : Rsng ow h) (I : Ifx h) (o : OwOK ow) (s : St fs ow h h') (x : OwX h ow ow') (hn : 12 ∉ fs) (hm : 62 ∉ fs) : Rsng ow' h' := by
  have F := s.fam I o hn
  have G := s.fam I o hm
  intro t ht
  rw [(G 53 t (by omega) rfl).1, (F 8 t (by omega) rfl).2.2]
  rcases R t ht with h1 | ⟨n, a, h1, h2, h3, h4⟩
  · exact Or.inl h1
  · exact Or.inr ⟨n, a, h1, h2, h3, h4.st I s x hn (funext fun k => (G 54 (60 * t + k) (by omega) rfl).1)⟩
