/-! ===== arrays ===== -/
theorem z_isA {w : z_M} {H0 : Heap} {s : State} (hK : z_K w H0 s) {t : Nat} (h20 : 20 ≤ t) (h26 : t ≤ 26) : ArrOfT s (w.2.2.1 t) (z_el t) := by
  obtain ⟨kA, comp, h1, h2, -⟩ := hK.2.1 t h20 h26
  exact fun n z => ⟨fun k h => (by cases h), kA, h1, comp, h2⟩
theorem z_lt {i : Int32} {n : Nat} (h : vp_in i n) : i.toNatClampNeg < n := Nat.not_le.mp fun q => h (Or.inr q)
theorem z_iaload {α : Type} {ρ : α → z_R} {mi : z_MI} {pc : Nat} {L : List (Nat × z_V)} {st : List z_V} {h : z_Hp} {o : Option α} {a : Nat} {i : Int32} (d : decode mi.2.1 pc = .ok (.iaload, 1))
    (g : z_G ρ mi (pc + 1) L (vi (hI h a (ix i)) :: st) h o) : z_G ρ mi pc L (vi i :: vr (some a) :: st) h (if okA h a 20 i = true then o else none) := by
  refine z_ite (fun hc => ?_) (fun _ => z_none)
  obtain ⟨h1, h2⟩ := okA_iff.mp hc
  refine z_look (fun w H0 p l e R s m args below meth c Q H locs ls cells slots hC hRel kk => ?_) g
  obtain ⟨-, -, hc, -⟩ := z_arr hRel h1 (by omega) (by omega)
  exact W.iald (v := z_cv w H0 (vi (hI h a (ix i)))) hC.1 hC.2.1 hc (z_isA hC.2.2.2.2.2.1 (t := 20) (by omega) (by omega) _ _) (fun q => by cases q) (by rw [arrV_size]; exact h2) (by rw [arrV_read _ _ (z_lt h2)]; rfl) rfl rfl d kk
theorem z_baload {α : Type} {ρ : α → z_R} {mi : z_MI} {pc : Nat} {L : List (Nat × z_V)} {st : List z_V} {h : z_Hp} {o : Option α} {a : Nat} {i : Int32} (d : decode mi.2.1 pc = .ok (.baload, 1))
    (g : z_G ρ mi (pc + 1) L (vi (hI h a (ix i)) :: st) h o) : z_G ρ mi pc L (vi i :: vr (some a) :: st) h (if okA h a 21 i = true then o else none) := by
  refine z_ite (fun hc => ?_) (fun _ => z_none)
  obtain ⟨h1, h2⟩ := okA_iff.mp hc
  refine z_look (fun w H0 p l e R s m args below meth c Q H locs ls cells slots hC hRel kk => ?_) g
  obtain ⟨-, -, hc, -⟩ := z_arr hRel h1 (by omega) (by omega)
  exact W.bald (v := z_cv w H0 (vi (hI h a (ix i)))) hC.1 hC.2.1 hc (z_isA hC.2.2.2.2.2.1 (t := 21) (by omega) (by omega) _ _) (fun q => by cases q) (by rw [arrV_size]; exact h2) (by rw [arrV_read _ _ (z_lt h2)]; rfl) rfl rfl d kk
theorem z_laload {α : Type} {ρ : α → z_R} {mi : z_MI} {pc : Nat} {L : List (Nat × z_V)} {st : List z_V} {h : z_Hp} {o : Option α} {a : Nat} {i : Int32} (d : decode mi.2.1 pc = .ok (.laload, 1))
    (g : z_G ρ mi (pc + 1) L (vl (hJ h a (ix i)) :: st) h o) : z_G ρ mi pc L (vi i :: vr (some a) :: st) h (if okA h a 22 i = true then o else none) := by
  refine z_ite (fun hc => ?_) (fun _ => z_none)
  obtain ⟨h1, h2⟩ := okA_iff.mp hc
  refine z_look (fun w H0 p l e R s m args below meth c Q H locs ls cells slots hC hRel kk => ?_) g
  obtain ⟨-, -, hc, -⟩ := z_arr hRel h1 (by omega) (by omega)
  exact W.lald (v := z_cv w H0 (vl (hJ h a (ix i)))) hC.1 hC.2.1 hc (z_isA hC.2.2.2.2.2.1 (t := 22) (by omega) (by omega) _ _) (fun q => by cases q) (by rw [arrV_size]; exact h2) (by rw [arrV_read _ _ (z_lt h2)]; rfl) rfl rfl d kk
theorem z_aaload {α : Type} {ρ : α → z_R} {mi : z_MI} {pc : Nat} {L : List (Nat × z_V)} {st : List z_V} {h : z_Hp} {o : Option α} {a : Nat} {i : Int32} (t : Nat) (ht : 23 ≤ t ∧ t ≤ 26) (d : decode mi.2.1 pc = .ok (.aaload, 1))
    (g : z_G ρ mi (pc + 1) L (vr (hR h a (ix i)) :: st) h o) : z_G ρ mi pc L (vi i :: vr (some a) :: st) h (if okA h a t i = true then o else none) := by
  refine z_ite (fun hc => ?_) (fun _ => z_none)
  obtain ⟨h1, h2⟩ := okA_iff.mp hc
  refine z_look (fun w H0 p l e R s m args below meth c Q H locs ls cells slots hC hRel kk => ?_) g
  obtain ⟨-, -, hc, -⟩ := z_arr hRel h1 (by omega) ht.2
  have hrt : z_rty (z_el t) = true ∧ (z_el t).isReference = true := by
    obtain ⟨h3, h4⟩ := ht
    rcases (show t = 23 ∨ t = 24 ∨ t = 25 ∨ t = 26 by omega) with rfl | rfl | rfl | rfl <;> exact ⟨rfl, rfl⟩
  exact W.aald (v := z_cv w H0 (vr (hR h a (ix i)))) (ty := z_el t) hC.1 hC.2.1 hc (z_isA hC.2.2.2.2.2.1 (by omega) ht.2 _ _) hrt.2 (fun q => by cases q) (by rw [arrV_size]; exact h2) (by rw [arrV_read _ _ (z_lt h2), z_sv_ref hrt.1]; rfl) rfl rfl d kk
/-- the arrays of the start: read alone -/
theorem z_iald0 {α : Type} {ρ : α → z_R} {mi : z_MI} {pc : Nat} {L : List (Nat × z_V)} {st : List z_V} {h : z_Hp} {o : Option α} {a : Nat} {i : Int32} (ha : a < 5) (d : decode mi.2.1 pc = .ok (.iaload, 1))
    (g : z_G ρ mi (pc + 1) L (vi (hI h a (ix i)) :: st) h o) : z_G ρ mi pc L (vi i :: vr (some a) :: st) h (if inb i (hN h a) = true then o else none) := by
  refine z_ite (fun hc => ?_) (fun _ => z_none)
  have h2 : vp_in i (hN h a) := by simpa [inb, vp_in] using hc
  refine z_look (fun w H0 p l e R s m args below meth c Q H locs ls cells slots hC hRel kk => ?_) g
  obtain ⟨-, hn, hv⟩ := hRel.2.2.2.1 a ha
  obtain ⟨cell, e1, e2, e3, e4, e5, e6, e7⟩ := hC.2.2.2.2.2.1.2.2.1 a ha
  rw [hn] at h2
  have e8 : z_ad w H0 a = w.2.2.2.1 a := if_pos ha
  refine W.iald (cell := cell) (v := z_cv w H0 (vi (hI h a (ix i)))) hC.1 hC.2.1 (a := z_ad w H0 a) ?_ e2 e3 (fun q => h2 (q.imp id (fun q => Nat.le_trans e4 q))) ?_ rfl rfl d kk
  · rw [e8, hRel.2.2.1 _ (Nat.not_le.mp e7)]
    exact e1
  · rw [e6 _ (z_lt h2), hv]
    rfl
theorem z_alen {α : Type} {ρ : α → z_R} {mi : z_MI} {pc : Nat} {L : List (Nat × z_V)} {st : List z_V} {h : z_Hp} {o : Option α} {a : Nat} (d : decode mi.2.1 pc = .ok (.arraylength, 1))
    (g : z_G ρ mi (pc + 1) L (vi (nI (hN h a)) :: st) h o) : z_G ρ mi pc L (vr (some a) :: st) h (if okL h a = true then o else none) := by
  refine z_ite (fun hc => ?_) (fun _ => z_none)
  have h2 : 19 ≤ hT h a ∧ hT h a ≤ 26 := by simpa [okL] using hc
  refine z_look (fun w H0 p l e R s m args below meth c Q H locs ls cells slots hC hRel kk => ?_) g
  by_cases h19 : hT h a = 19
  · have ha : a < 5 := by
      rcases Nat.lt_or_ge a 5 with q | q
      · exact q
      · rcases Nat.lt_or_ge a (hZ h) with q2 | q2
        · rcases hRel.2.2.2.2.2 a q q2 with ⟨q', hq', -, -⟩ | ⟨hc, -⟩
          · have := z_lt11 hq'
            omega
          · omega
        · have := hRel.2.2.2.2.1 a q2
          omega
    obtain ⟨-, hn, hv⟩ := hRel.2.2.2.1 a ha
    obtain ⟨cell, e1, e2, e3, e4, e5, e6, e7⟩ := hC.2.2.2.2.2.1.2.2.1 a ha
    have e8 : z_ad w H0 a = w.2.2.2.1 a := if_pos ha
    refine W.alen (cell := cell) (n := nI (hN h a)) hC.1 hC.2.1 (a := z_ad w H0 a) ?_ e2 ?_ rfl rfl d kk
    · rw [e8, hRel.2.2.1 _ (Nat.not_le.mp e7)]
      exact e1
    · rw [hn]
      exact e5
  · obtain ⟨-, -, hc, -⟩ := z_arr (a := a) hRel rfl (by omega) h2.2
    exact W.alen (n := nI (hN h a)) hC.1 hC.2.1 hc (z_isA hC.2.2.2.2.2.1 (by omega) h2.2 _ _) (by rw [arrV_size] <;> rfl) rfl rfl d kk
theorem z_locs {locs : List Loc} {n a k : Nat} (h : ∀ q ∈ locs, n ≤ q.base) (ha : n ≤ a) : ∀ q ∈ locs ++ [(⟨a, k⟩ : Loc)], n ≤ q.base := by
  intro x hx
  rcases List.mem_append.mp hx with hx | hx
  · exact h x hx
  · rw [List.mem_singleton.mp hx]
    exact ha
/-- a cell of an array, written -/
theorem z_arrset {w : z_M} {H0 H H1 : Heap} {h h' : z_Hp} {a t k : Nat} {v : Value} (hRl : z_Rel w H0 h H) (ht : hT h a = t) (h20 : 20 ≤ t) (h26 : t ≤ 26) (hz : hZ h' = hZ h) (hl : ∀ b, hT h' b = hT h b ∧ hN h' b = hN h b)
    (hoth : ∀ b, b ≠ a → ∀ j, hI h' b j = hI h b j ∧ hJ h' b j = hJ h b j ∧ hR h' b j = hR h b j) (hself : ∀ j, j ≠ k → hI h' a j = hI h a j ∧ hJ h' a j = hJ h a j ∧ hR h' a j = hR h a j) (hv : z_sv w H0 (z_el t) h' a k = v) (hf : t = 21 → fits .byte (.int (hI h' a k)) = true)
    (e : H1[z_ad w H0 a]? = some ((arrV (w.2.2.1 t) (hN h a) (z_sv w H0 (z_el t) h a)).setSlot k v)) (hs : H1.size = H.size) (ho : ∀ q, q ≠ z_ad w H0 a → H1[q]? = H[q]?) : z_Rel w H0 h' H1 := by
  obtain ⟨h5, h6, hc, hfit⟩ := z_arr hRl ht h20 h26
  refine z_upd hRl h5 hz hl hoth hs ho (Or.inr ⟨by rw [(hl a).1, ht]; exact h20, by rw [(hl a).1, ht]; exact h26, ?_, fun hb j => ?_⟩)
  · rw [(hl a).1, (hl a).2, ht, e, arrV_store]
    congr 2
    funext j
    by_cases hj : j = k
    · subst hj
      simp only [updV, if_true]
      exact hv.symm
    · simp only [updV, if_neg hj]
      exact (z_sv_congr _ (hself j hj).1 (hself j hj).2.1 (hself j hj).2.2).symm
  · rw [(hl a).1, ht] at hb
    by_cases hj : j = k
    · rw [hj]; exact hf hb
    · rw [(hself j hj).1]; exact hfit hb j
theorem z_iastore {α : Type} {ρ : α → z_R} {mi : z_MI} {pc : Nat} {L : List (Nat × z_V)} {st : List z_V} {h : z_Hp} {o : Option α} {a : Nat} {i : Int32} {x : Int32} (d : decode mi.2.1 pc = .ok (.iastore, 1))
    (g : z_G ρ mi (pc + 1) L st (sI h a (ix i) (x)) o) : z_G ρ mi pc L (vi x :: vi i :: vr (some a) :: st) h (if okA h a 20 i = true then o else none) := by
  refine z_ite (fun hc => ?_) (fun _ => z_none)
  obtain ⟨h1, h2⟩ := okA_iff.mp hc
  refine z_write (h' := sI h a (ix i) (x)) rfl rfl (z_Fr.gI (by omega)) (fun w H0 p l e R s m args below meth c Q H locs ls cells slots hC hRel _ hlo kk => ?_) g
  obtain ⟨h5, h6, hcl, -⟩ := z_arr hRel h1 (by omega) (by omega)
  have hbase : H0.size ≤ z_ad w H0 a := by rw [z_ad5 h5]; omega
  refine W.iast hC.1 hC.2.1 hcl (z_isA hC.2.2.2.2.2.1 (t := 20) (by omega) (by omega) _ _) (fun h => by cases h) (by rw [arrV_size]; exact h2) rfl rfl d fun H1 e z oq => ?_
  exact kk H1 _ (z_arrset (h' := sI h a (ix i) (x)) hRel h1 (by omega) (by omega) rfl (fun b => ⟨rfl, rfl⟩) (fun b hb j => ⟨by rw [hI_sI, if_neg (fun q => hb q.1)], rfl, rfl⟩) (fun j hj => ⟨by rw [hI_sI, if_neg (fun q => hj q.2)], rfl, rfl⟩) (by simp [z_el, z_sv, hI_sI, z_cv, vp_nar_byte, narrow]) (fun h => by omega) e z oq) (z_locs hlo hbase)
theorem z_bastore {α : Type} {ρ : α → z_R} {mi : z_MI} {pc : Nat} {L : List (Nat × z_V)} {st : List z_V} {h : z_Hp} {o : Option α} {a : Nat} {i : Int32} {x : Int32} (d : decode mi.2.1 pc = .ok (.bastore, 1))
    (g : z_G ρ mi (pc + 1) L st (sI h a (ix i) (x.toInt8.toInt32)) o) : z_G ρ mi pc L (vi x :: vi i :: vr (some a) :: st) h (if okA h a 21 i = true then o else none) := by
  refine z_ite (fun hc => ?_) (fun _ => z_none)
  obtain ⟨h1, h2⟩ := okA_iff.mp hc
  refine z_write (h' := sI h a (ix i) (x.toInt8.toInt32)) rfl rfl (z_Fr.gI (by omega)) (fun w H0 p l e R s m args below meth c Q H locs ls cells slots hC hRel _ hlo kk => ?_) g
  obtain ⟨h5, h6, hcl, -⟩ := z_arr hRel h1 (by omega) (by omega)
  have hbase : H0.size ≤ z_ad w H0 a := by rw [z_ad5 h5]; omega
  refine W.bast hC.1 hC.2.1 hcl (z_isA hC.2.2.2.2.2.1 (t := 21) (by omega) (by omega) _ _) (fun h => by cases h) (by rw [arrV_size]; exact h2) rfl rfl d fun H1 e z oq => ?_
  exact kk H1 _ (z_arrset (h' := sI h a (ix i) (x.toInt8.toInt32)) hRel h1 (by omega) (by omega) rfl (fun b => ⟨rfl, rfl⟩) (fun b hb j => ⟨by rw [hI_sI, if_neg (fun q => hb q.1)], rfl, rfl⟩) (fun j hj => ⟨by rw [hI_sI, if_neg (fun q => hj q.2)], rfl, rfl⟩) (by simp [z_el, z_sv, hI_sI, z_cv, vp_nar_byte, narrow]) (fun _ => by rw [hI_sI, if_pos ⟨rfl, rfl⟩]; exact pk_fb x) e z oq) (z_locs hlo hbase)
theorem z_lastore {α : Type} {ρ : α → z_R} {mi : z_MI} {pc : Nat} {L : List (Nat × z_V)} {st : List z_V} {h : z_Hp} {o : Option α} {a : Nat} {i : Int32} {x : Int64} (d : decode mi.2.1 pc = .ok (.lastore, 1))
    (g : z_G ρ mi (pc + 1) L st (sJ h a (ix i) (x)) o) : z_G ρ mi pc L (vl x :: vi i :: vr (some a) :: st) h (if okA h a 22 i = true then o else none) := by
  refine z_ite (fun hc => ?_) (fun _ => z_none)
  obtain ⟨h1, h2⟩ := okA_iff.mp hc
  refine z_write (h' := sJ h a (ix i) (x)) rfl rfl z_Fr.gJ (fun w H0 p l e R s m args below meth c Q H locs ls cells slots hC hRel _ hlo kk => ?_) g
  obtain ⟨h5, h6, hcl, -⟩ := z_arr hRel h1 (by omega) (by omega)
  have hbase : H0.size ≤ z_ad w H0 a := by rw [z_ad5 h5]; omega
  refine W.last hC.1 hC.2.1 hcl (z_isA hC.2.2.2.2.2.1 (t := 22) (by omega) (by omega) _ _) (fun h => by cases h) (by rw [arrV_size]; exact h2) rfl rfl d fun H1 e z oq => ?_
  exact kk H1 _ (z_arrset (h' := sJ h a (ix i) (x)) hRel h1 (by omega) (by omega) rfl (fun b => ⟨rfl, rfl⟩) (fun b hb j => ⟨rfl, by rw [hJ_sJ, if_neg (fun q => hb q.1)], rfl⟩) (fun j hj => ⟨rfl, by rw [hJ_sJ, if_neg (fun q => hj q.2)], rfl⟩) (by simp [z_el, z_sv, hJ_sJ, z_cv, vp_nar_byte, narrow]) (fun h => by omega) e z oq) (z_locs hlo hbase)
theorem z_WaastN {p : Program} {l : Launch} {e : Env} {R : Room} {s : State} {m : MethodId} {args : Array Value} {below : List Frame} {meth : Method} {c : Code} {H : Heap} {locs : List Loc} {cells slots : Nat} {Q : State → Prop} {cc : ByteArray} (hexec : p.tables.exec = Jvm.exec) (hb : c.code = cc) {a : Addr} {cell : Cell} {t : FieldType} (htr : z_rty t = true) {j : Int32} (hcell : H[a]? = some cell) (harr : s.isArrayOf cell t) (hknown : cell.vm ≠ .unknown) (hin : ¬ (j < 0 ∨ cell.slots.size ≤ j.toNatClampNeg))
    {g : JFrame} (hg : g.method = m) {rest : List Value} (hstack : g.stack = .null :: .int j :: .ref a :: rest) (hdg : decode cc g.pc = .ok (.aastore, 1))
    (kk : ∀ H' : Heap, H'[a]? = some (cell.setSlot j.toNatClampNeg .null) → H'.size = H.size → (∀ q, q ≠ a → H'[q]? = H[q]?) → W p l e R s m args below meth c H' (locs ++ [⟨a, j.toNatClampNeg⟩]) cells slots Q { g with pc := g.pc + 1, stack := rest }) :
    W p l e R s m args below meth c H locs cells slots Q g := by
  intro T hT X
  have hT' : T.heap[a]? = some cell := by rw [hT]; exact hcell
  subst hb
  have hA := State.isArrayOf_alike X.warmed.alike harr
  have hfit : T.fitsSlot cell.cls cell.vm j.toNatClampNeg .null = true := by
    obtain ⟨hobj, k, hk, comp, hkind⟩ := hA
    cases t <;> first | (simp [z_rty] at htr; done) | (cases hvm : cell.vm <;> first | exact absurd hvm (hobj _) | simp [State.fitsSlot, State.slotType?, hk, hkind, fits])
  have X' := X.stored hT' j.toNatClampNeg .null
  have hlt : a < T.heap.size := (Array.getElem?_eq_some_iff.mp hT').1
  obtain ⟨t', a1, b1⟩ := kk _ (heapAt_setCell_self _ hlt) (by rw [size_setCell, hT]) (fun q hq => by rw [heapAt_setCell_ne _ (Ne.symm hq), hT]) (T.setCell a (cell.setSlot j.toNatClampNeg .null)) rfl X'
  refine ⟨t', ?_, b1⟩
  subst hg
  jvm_step X.here [hexec, hdg]
  refine aastore.wp_of_null (c := cell) (t := t) X.here.top hstack hT' hA hin hknown (Nat.not_le.mp fun q => hin (Or.inr q)) hfit ?_
  intro acts
  rw [afterInstr_ok]
  exact a1
theorem z_kind {w : z_M} {H0 : Heap} {s : State} (hK : z_K w H0 s) {H : Heap} {h : z_Hp} (hRl : z_Rel w H0 h H) {t b : Nat} (ht : 23 ≤ t ∧ t ≤ 26) (hb : hT h b = z_ct t) : ∃ cv : Cell, H[z_ad w H0 b]? = some cv ∧ (∀ q, cv.vm ≠ .statics q) ∧ cv.cls = z_cp w t := by
  obtain ⟨h3, h4⟩ := ht
  rcases (show t = 23 ∨ t = 24 ∨ t = 25 ∨ t = 26 by omega) with rfl | rfl | rfl | rfl
  · obtain ⟨-, -, hc, -⟩ := z_arr (t := 20) hRl hb (by omega) (by omega)
    exact ⟨_, hc, (fun q h => by cases h), rfl⟩
  · obtain ⟨-, -, hc, -⟩ := z_arr (t := 21) hRl hb (by omega) (by omega)
    exact ⟨_, hc, (fun q h => by cases h), rfl⟩
  · obtain ⟨-, -, -, cell, q1, q2, q3, -⟩ := z_obj (t := 7) hRl hb rfl
    exact ⟨_, q1, (fun q h => by rw [q3] at h; cases h), q2⟩
  · obtain ⟨-, -, -, cell, q1, q2, q3, -⟩ := z_obj (t := 5) hRl hb rfl
    exact ⟨_, q1, (fun q h => by rw [q3] at h; cases h), q2⟩
theorem z_aastore {α : Type} {ρ : α → z_R} {mi : z_MI} {pc : Nat} {L : List (Nat × z_V)} {st : List z_V} {h : z_Hp} {o : Option α} {a : Nat} {i : Int32} {x : Option Nat} (t : Nat) (ht : 23 ≤ t ∧ t ≤ 26) (d : decode mi.2.1 pc = .ok (.aastore, 1))
    (g : z_G ρ mi (pc + 1) L st (sR h a (ix i) x) o) : z_G ρ mi pc L (vr x :: vi i :: vr (some a) :: st) h (if okA h a t i = true ∧ okS h t x = true then o else none) := by
  refine z_ite (fun hc => ?_) (fun _ => z_none)
  obtain ⟨h1, h2⟩ := okA_iff.mp hc.1
  have hrt : z_rty (z_el t) = true ∧ (z_el t).isReference = true := by
    obtain ⟨h3, h4⟩ := ht
    rcases (show t = 23 ∨ t = 24 ∨ t = 25 ∨ t = 26 by omega) with rfl | rfl | rfl | rfl <;> exact ⟨rfl, rfl⟩
  refine z_write (h' := sR h a (ix i) x) rfl rfl z_Fr.gR (fun w H0 p l e R s m args below meth c Q H locs ls cells slots hC hRel _ hlo kk => ?_) g
  obtain ⟨h5, h6, hcl, -⟩ := z_arr hRel h1 (by omega) ht.2
  have hbase : H0.size ≤ z_ad w H0 a := by rw [z_ad5 h5]; omega
  have hend : ∀ H1 : Heap, H1[z_ad w H0 a]? = some ((arrV (w.2.2.1 t) (hN h a) (z_sv w H0 (z_el t) h a)).setSlot (ix i) (va_rf (x.map (z_ad w H0)))) → H1.size = H.size → (∀ q, q ≠ z_ad w H0 a → H1[q]? = H[q]?) → z_Rel w H0 (sR h a (ix i) x) H1 := fun H1 e z oq =>
    z_arrset (h' := sR h a (ix i) x) hRel h1 (by omega) ht.2 rfl (fun b => ⟨rfl, rfl⟩) (fun b hb j => ⟨rfl, rfl, by rw [hR_sR, if_neg (fun q => hb q.1)]⟩) (fun j hj => ⟨rfl, rfl, by rw [hR_sR, if_neg (fun q => hj q.2)]⟩) (by rw [z_sv_ref hrt.1, hR_sR, if_pos ⟨rfl, rfl⟩]) (fun h => by omega) e z oq
  cases x with
  | none =>
    exact z_WaastN hC.1 hC.2.1 hrt.1 hcl (z_isA hC.2.2.2.2.2.1 (by omega) ht.2 _ _) (fun h => by cases h) (by rw [arrV_size]; exact h2) rfl rfl d fun H1 e z oq => kk H1 _ (hend H1 e z oq) (z_locs hlo hbase)
  | some b =>
    have hb : hT h b = z_ct t := by simpa [okS] using hc.2
    obtain ⟨cv, v1, v2, v3⟩ := z_kind hC.2.2.2.2.2.1 hRel ht hb
    obtain ⟨kA, comp, k1, k2, k3, k4⟩ := hC.2.2.2.2.2.1.2.1 t (by omega) ht.2
    obtain ⟨k5, kc, k6⟩ := k4 ht.1
    exact W.aast hC.1 hC.2.1 hcl (fun q h => by cases h) (fun h => by cases h) k1 k2 hrt.2 k6 ⟨fun q => h2 (Or.inl q), by rw [arrV_size]; exact z_lt h2⟩ v1 v2 (by rw [v3, ← k5]; exact k6) (by rw [v3, ← k5]; exact va_asg _ _) rfl rfl d fun H1 e z oq => kk H1 _ (hend H1 e z oq) (z_locs hlo hbase)
/-! ===== new cells ===== -/
theorem z_born {w : z_M} {H0 : Heap} {h : z_Hp} {t n k : Nat} {ty : FieldType} (hty : z_oty ty = true) : defaultValue ty = z_sv w H0 ty (nw h t n) (hZ h) k := by
  cases ty <;> first | (simp [z_oty] at hty; done) | simp [defaultValue, z_sv, hI_nw, hJ_nw, hR_nw, va_rf]
def z_cn (own : String) (idx t : Nat) (q : vw_C) : Prop := vwCl[t]? = some q ∧ Cond.classLink own idx q.1 ∈ z_tb ∧ Cond.instantiable q.1 q.2.2 ∈ z_tb ∧ Cond.initialized q.1 ∈ z_tb
theorem z_new {α : Type} {ρ : α → z_R} {mi : z_MI} {pc : Nat} {L : List (Nat × z_V)} {st : List z_V} {h : z_Hp} {o : Option α} {idx t : Nat} {q : vw_C} (hc : z_cn mi.1.cls idx t q) (d : decode mi.2.1 pc = .ok (.new idx, 3))
    (g : z_G ρ mi (pc + 3) L (vr (some (hZ h)) :: st) (nw h t q.2.2) o) : z_G ρ mi pc L st h o := by
  obtain ⟨hq, c1, c2, c3⟩ := hc
  refine z_make (h' := nw h t q.2.2) (n := q.2.2) rfl rfl z_Fr.gN (fun w H0 p l e R s m args below meth c Q H locs ls cells slots hC hRel hls hcc hss kk => ?_) g
  obtain ⟨hx, hb, hml, hown, hts, hK, -⟩ := hC
  have hKn := hK.1 t q hq
  refine W.newcK hx hb hown (hts _ c1) (hts _ c2) (hts _ c3) rfl d hcc hss hKn.2.1 rfl fun H1 kC hkC e1 z1 o1 => ?_
  have hz : z_ad w H0 (hZ h) = H.size := by
    have := hRel.2.1
    have h5 := hRel.1
    rw [z_ad5 hRel.1]; omega
  have hr : z_Rel w H0 (nw h t q.2.2) H1 := by
    have ht := z_lt11 hq
    refine z_push hRel z1 o1 (by omega) (Or.inl ⟨q, by rw [hT_nw, if_pos rfl]; exact hq, by rw [hN_nw, if_pos rfl], ?_⟩)
    rw [hT_nw, if_pos rfl, hz]
    exact (u_born (z_ft t) hts (z_lays t q hq) hKn hkC e1 (z_fty t q hq)).to (fun k hk => z_born (z_fto t q hq k hk))
  have := kk H1 hr
  rw [List.map_cons, show z_cv w H0 (vr (some (hZ h))) = .ref H.size from congrArg Value.ref hz] at this
  exact this
theorem z_arrnew {w : z_M} {H0 H H1 : Heap} {h : z_Hp} {t n : Nat} (hRl : z_Rel w H0 h H) (h20 : 20 ≤ t) (h26 : t ≤ 26) (z1 : H1.size = H.size + 1) (o1 : ∀ q, q < H.size → H1[q]? = H[q]?) (e1 : H1[H.size]? = some (arrV (w.2.2.1 t) n (fun _ => defaultValue (z_el t)))) : z_Rel w H0 (nw h t n) H1 ∧ z_ad w H0 (hZ h) = H.size := by
  have hz : z_ad w H0 (hZ h) = H.size := by
    have := hRl.2.1
    have h5 := hRl.1
    rw [z_ad5 hRl.1]; omega
  have ho : z_oty (z_el t) = true := by
    rcases (show t = 20 ∨ t = 21 ∨ t = 22 ∨ t = 23 ∨ t = 24 ∨ t = 25 ∨ t = 26 by omega) with rfl | rfl | rfl | rfl | rfl | rfl | rfl <;> rfl
  refine ⟨z_push hRl z1 o1 (by omega) (Or.inr ⟨by rw [hT_nw, if_pos rfl]; exact h20, by rw [hT_nw, if_pos rfl]; exact h26, ?_, fun _ j => by rw [hI_nw, if_pos rfl]; rfl⟩), hz⟩
  rw [hT_nw, if_pos rfl, hN_nw, if_pos rfl, hz, e1]
  congr 2
  funext j
  exact z_born ho
theorem z_newarr {α : Type} {ρ : α → z_R} {mi : z_MI} {pc : Nat} {L : List (Nat × z_V)} {st : List z_V} {h : z_Hp} {o : Option α} {n : Int32} (t : Nat) {aty : ArrayType} (ht : 20 ≤ t ∧ t ≤ 22) (hty : newarray.typeOf aty = z_el t) (hm : Cond.arrayClass (z_el t) ∈ z_tb) (d : decode mi.2.1 pc = .ok (.newarray aty, 2))
    (g : z_G ρ mi (pc + 2) L (vr (some (hZ h)) :: st) (nw h t (ix n)) o) : z_G ρ mi pc L (vi n :: st) h (if inb n 100000 = true then o else none) := by
  refine z_ite (fun hc => ?_) (fun _ => z_none)
  have h2 : vp_in n 100000 := by simpa [inb, vp_in] using hc
  refine z_make (h' := nw h t (ix n)) (n := ix n) rfl rfl z_Fr.gN (fun w H0 p l e R s m args below meth c Q H locs ls cells slots hC hRel hls hcc hss kk => ?_) g
  obtain ⟨hx, hb, hml, hown, hts, hK, -⟩ := hC
  have hby : ix n * componentBytes (newarray.typeOf aty) ≤ 536870912 := by
    have hcb : componentBytes (newarray.typeOf aty) ≤ 8 := by cases aty <;> decide
    exact Nat.le_trans (Nat.mul_le_mul (Nat.le_of_lt (z_lt h2)) hcb) (by decide)
  refine va_newaK hx hb (by rw [hty]; exact hts _ hm) rfl d rfl (fun q => h2 (Or.inl q)) rfl hby hcc hss rfl fun H1 cA e1 z1 o1 hAr hNm => ?_
  obtain ⟨kA, comp, k1, k2, k3, -⟩ := hK.2.1 t ht.1 (by omega)
  rw [hty] at e1 hNm
  have hcA : cA = w.2.2.1 t := Option.some.inj (hNm.symm.trans k3)
  subst hcA
  obtain ⟨hr, hz⟩ := z_arrnew (n := ix n) hRel ht.1 (by omega) z1 o1 e1
  have := kk H1 hr
  rw [List.map_cons, show z_cv w H0 (vr (some (hZ h))) = .ref H.size from congrArg Value.ref hz] at this
  exact this
def z_en (t : Nat) : String := match t with
  | 23 => "[I"
  | 24 => "[B"
  | 25 => "BalladSheets$Song"
  | _ => "BalladSheets$Sheet"
theorem z_anewarr {α : Type} {ρ : α → z_R} {mi : z_MI} {pc : Nat} {L : List (Nat × z_V)} {st : List z_V} {h : z_Hp} {o : Option α} {n : Int32} {idx : Nat} (t : Nat) (ht : 23 ≤ t ∧ t ≤ 26) (hm : Cond.classLink mi.1.cls idx (z_en t) ∈ z_tb) (d : decode mi.2.1 pc = .ok (.anewarray idx, 3))
    (g : z_G ρ mi (pc + 3) L (vr (some (hZ h)) :: st) (nw h t (ix n)) o) : z_G ρ mi pc L (vi n :: st) h (if inb n 100000 = true then o else none) := by
  refine z_ite (fun hc => ?_) (fun _ => z_none)
  have h2 : vp_in n 100000 := by simpa [inb, vp_in] using hc
  refine z_make (h' := nw h t (ix n)) (n := ix n) rfl rfl z_Fr.gN (fun w H0 p l e R s m args below meth c Q H locs ls cells slots hC hRel hls hcc hss kk => ?_) g
  obtain ⟨hx, hb, hml, hown, hts, hK, -⟩ := hC
  have hby : ix n * 4 ≤ 536870912 := Nat.le_trans (Nat.mul_le_mul (Nat.le_of_lt (z_lt h2)) (Nat.le_refl 4)) (by decide)
  obtain ⟨kA, comp, k1, k2, k3, -⟩ := hK.2.1 t (by omega) ht.2
  have hov := hK.2.2.2.2.2.2.1 t ht.1 ht.2
  have key : ∀ cA : ClassId, s.vm.findClass ("[" ++ (z_el t).toString) = some cA → defaultValue (z_el t) = .null → W p l e R s m args below meth c (H.push { cls := cA, slots := Array.replicate n.toNatClampNeg .null, vm := .none }) locs (cells + 1) (slots + n.toNatClampNeg) Q (F0 m (pc + 3) ls (.ref H.size :: st.map (z_cv w H0))) := by
    intro cA hcA hdv
    have hcA : cA = w.2.2.1 t := Option.some.inj (hcA.symm.trans k3)
    subst hcA
    obtain ⟨hr, hz⟩ := z_arrnew (n := ix n) (H1 := H.push { cls := w.2.2.1 t, slots := Array.replicate n.toNatClampNeg .null, vm := .none }) hRel (by omega) ht.2 (by rw [Array.size_push]) (fun q hq => by rw [Array.getElem?_push, if_neg (Nat.ne_of_lt hq)]) (by rw [Array.getElem?_push_size, ← arrV_new, hdv])
    have := kk _ hr
    rw [List.map_cons, show z_cv w H0 (vr (some (hZ h))) = .ref H.size from congrArg Value.ref hz] at this
    exact this
  obtain ⟨h3, h4⟩ := ht
  rcases (show t = 23 ∨ t = 24 ∨ t = 25 ∨ t = 26 by omega) with rfl | rfl | rfl | rfl
  · exact W.anewA (t := .int) hx hb hown (hts _ hm) hov rfl d rfl (fun q => h2 (Or.inl q)) hby hcc hss fun cA kA comp f1 f2 f3 f4 => key cA f1 rfl
  · exact W.anewA (t := .byte) hx hb hown (hts _ hm) hov rfl d rfl (fun q => h2 (Or.inl q)) hby hcc hss fun cA kA comp f1 f2 f3 f4 => key cA f1 rfl
  · exact W.anew hx hb hown (hts _ hm) hov rfl d rfl (fun q => h2 (Or.inl q)) hby hcc hss fun cA kA comp f1 f2 f3 f4 => key cA f1 rfl
  · exact W.anew hx hb hown (hts _ hm) hov rfl d rfl (fun q => h2 (Or.inl q)) hby hcc hss fun cA kA comp f1 f2 f3 f4 => key cA f1 rfl
/-! ===== static arrays; two references compared ===== -/
theorem z_gets {α : Type} {ρ : α → z_R} {mi : z_MI} {pc : Nat} {L : List (Nat × z_V)} {st : List z_V} {h : z_Hp} {o : Option α} {k idx : Nat} (hk : k < 4) (hm : Cond.fieldLink mi.1.cls idx "BalladSheets" (z_sn k) "[I" ∈ z_tb) (d : decode mi.2.1 pc = .ok (.getstatic idx, 3))
    (g : z_G ρ mi (pc + 3) L (vr (some k) :: st) h o) : z_G ρ mi pc L st h o := by
  refine z_look (fun w H0 p l e R s m args below meth c Q H locs ls cells slots hC hRel kk => ?_) g
  obtain ⟨cf, kf, fi, f, a, cell, h1, h2, h3, h4, h5, h6, h7, h8⟩ := hC.2.2.2.2.2.1.2.2.2.1 k hk
  refine W.gets (v := z_cv w H0 (vr (some k))) hC.1 hC.2.1 hC.2.2.2.1 (hC.2.2.2.2.1 _ hm) h1 h2 h3 h4 (by rw [hRel.2.2.1 _ (Nat.not_le.mp h8)]; exact h5) (fun e => by rw [e] at h6; cases h6) (by rw [h7]; exact congrArg some (congrArg Value.ref (if_pos (by omega)).symm)) rfl d kk
theorem z_getsN {α : Type} {ρ : α → z_R} {mi : z_MI} {pc : Nat} {L : List (Nat × z_V)} {st : List z_V} {h : z_Hp} {o : Option α} {k idx : Nat} (hk : k < 4) (hm : (mi.1.cls, idx, "BalladSheets", z_sn k, "[I", "BalladSheets") ∈ z_nf) (d : decode mi.2.1 pc = .ok (.getstatic idx, 3))
    (g : z_G ρ mi (pc + 3) L (vr (some k) :: st) h o) : z_G ρ mi pc L st h o := by
  refine z_look (fun w H0 p l e R s m args below meth c Q H locs ls cells slots hC hRel kk => ?_) g
  obtain ⟨cf, kf, fi, f, a, cell, h1, h2, h3, h4, h5, h6, h7, h8⟩ := hC.2.2.2.2.2.1.2.2.2.1 k hk
  have hlink := va_Nw.use (A := args) rfl (hC.2.2.2.2.2.1.2.2.2.2.2.1 _ hm)
  intro T hT X
  obtain ⟨vm', X', st⟩ := X.getstaticNest hC.1 hC.2.2.2.1 hlink h1 h2 h3 h4 (by rw [hT, hRel.2.2.1 _ (Nat.not_le.mp h8)]; exact h5) (fun e => by rw [e] at h6; cases h6) h7 (g := F0 m pc ls (st.map (z_cv w H0))) rfl (by rw [hC.2.1]; exact d)
  have hv : (Value.ref (w.2.2.2.1 k)) = z_cv w H0 (vr (some k)) := congrArg Value.ref (if_pos (by omega)).symm
  rw [hv] at st
  obtain ⟨t, a1, b1⟩ := kk (T.setVm vm') hT X'
  exact ⟨t, st t a1, b1⟩
