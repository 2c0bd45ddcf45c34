/-! ===== the words that last; the heap's relation; the judgement of a walk with its answer ===== -/
def z_tb : List Cond := lw_tbl.filter goodWord
def z_nm : List (String × Nat × MethodName × String) := [("BalladSheets", 32, ⟨"BalladSheets$Rules", "<init>", "()V"⟩, "BalladSheets"), ("BalladSheets", 39, ⟨"BalladSheets$Sheets", "<init>", "()V"⟩, "BalladSheets"), ("BalladSheets", 46, ⟨"BalladSheets$Orders", "<init>", "()V"⟩, "BalladSheets"), ("BalladSheets", 60, ⟨"BalladSheets$Families", "<init>", "()V"⟩, "BalladSheets"), ("BalladSheets", 67, ⟨"BalladSheets$Register", "<init>", "()V"⟩, "BalladSheets"), ("BalladSheets", 74, ⟨"BalladSheets$Sellers", "<init>", "()V"⟩, "BalladSheets"), ("BalladSheets$Sellers", 44, ⟨"BalladSheets", "has", "(II)Z"⟩, "BalladSheets"), ("BalladSheets$Sheets", 55, ⟨"BalladSheets", "has", "(II)Z"⟩, "BalladSheets"), ("BalladSheets$Years", 57, ⟨"BalladSheets", "has", "(II)Z"⟩, "BalladSheets"), ("BalladSheets$Families", 52, ⟨"BalladSheets", "has", "(II)Z"⟩, "BalladSheets"), ("BalladSheets$Years", 103, ⟨"BalladSheets", "mix", "(JI)J"⟩, "BalladSheets"), ("BalladSheets$Sheets", 71, ⟨"BalladSheets", "mix", "(JI)J"⟩, "BalladSheets"), ("BalladSheets$Sheets", 82, ⟨"BalladSheets", "mixRow", "(J[I)J"⟩, "BalladSheets"), ("BalladSheets$Rules", 47, ⟨"BalladSheets", "mix", "(JI)J"⟩, "BalladSheets"), ("BalladSheets$Register", 28, ⟨"BalladSheets", "mix", "(JI)J"⟩, "BalladSheets"), ("BalladSheets$Sellers", 56, ⟨"BalladSheets", "mixRow", "(J[I)J"⟩, "BalladSheets"), ("BalladSheets$Sellers", 60, ⟨"BalladSheets", "mix", "(JI)J"⟩, "BalladSheets")]
def z_nf : List (String × Nat × String × String × String × String) := [("BalladSheets$Rules", 18, "BalladSheets", "RULE_LETTERS", "[I", "BalladSheets"), ("BalladSheets$Rules", 44, "BalladSheets", "FORCE_AT_FIRST", "[I", "BalladSheets"), ("BalladSheets$Sheet", 37, "BalladSheets", "KIND_ABOVE", "[I", "BalladSheets")]

theorem z_mem {w : Cond} (i : Nat) (h : lw_tbl[i]? = some w) (g : goodWord w = true) : w ∈ z_tb := List.mem_filter.mpr ⟨List.mem_of_getElem? h, g⟩
theorem z_good : GoodIn z_tb z_tb := fun w h => ⟨h, good_of_word (List.mem_filter.mp h).2⟩
def z_Rel (w : z_M) (H0 : Heap) (h : z_Hp) (H : Heap) : Prop :=
  5 ≤ hZ h ∧ H.size + 5 = H0.size + hZ h ∧ (∀ q, q < H0.size → H[q]? = H0[q]?) ∧ (∀ a, a < 5 → hT h a = 19 ∧ hN h a = w.2.2.2.2.1 a ∧ ∀ j, hI h a j = w.2.2.2.2.2 a j) ∧ (∀ a, hZ h ≤ a → hT h a = 99) ∧ ∀ a, 5 ≤ a → a < hZ h → z_cell w H0 h a H
def z_cp (w : z_M) (t : Nat) : ClassId := match t with
  | 23 => w.2.2.1 20
  | 24 => w.2.2.1 21
  | 25 => w.1 7
  | _ => w.1 5
def z_sn (k : Nat) : String := match k with
  | 0 => "KIND_ABOVE"
  | 1 => "NO_CUT"
  | 2 => "RULE_LETTERS"
  | _ => "FORCE_AT_FIRST"
def z_K (w : z_M) (H0 : Heap) (s : State) : Prop :=
  (∀ (c : Nat) (q : vw_C), vwCl[c]? = some q → u_Kn s q.1 q.2.1 q.2.2 (w.1 c) (w.2.1 c)) ∧
  (∀ t, 20 ≤ t → t ≤ 26 → ∃ (kA : Class) (comp : ClassId), s.vm.classes[w.2.2.1 t]? = some kA ∧ kA.kind = .array comp (z_el t) ∧ s.vm.findClass ("[" ++ (z_el t).toString) = some (w.2.2.1 t) ∧ (23 ≤ t → comp = z_cp w t ∧ ∃ kc : Class, s.vm.classes[comp]? = some kc)) ∧
  (∀ a, a < 5 → va_T .int (w.2.2.2.1 a) (w.2.2.2.2.1 a) (fun j => .int (w.2.2.2.2.2 a j)) (fun q => H0.size ≤ q) s H0) ∧
  (∀ k, k < 4 → va_Z "BalladSheets" (z_sn k) "[I" (.ref (w.2.2.2.1 k)) (fun q => H0.size ≤ q) s H0) ∧
  (∀ u ∈ z_nm, va_Nw (.methodLinkNest u.1 u.2.1 u.2.2.1 u.2.2.2) s) ∧ (∀ u ∈ z_nf, va_Nw (.fieldLinkNest u.1 u.2.1 u.2.2.1 u.2.2.2.1 u.2.2.2.2.1 u.2.2.2.2.2) s) ∧
  (∀ t, 23 ≤ t → t ≤ 26 → (Cond.arrayOver (z_el t)).before #[] s = true) ∧ va_Nw (.castable "[I" "java/lang/Cloneable") s ∧ va_Nw (.castable "[B" "java/lang/Cloneable") s
abbrev z_MI : Type := MethodName × ByteArray × Nat × Option FieldType × Nat × Nat
def z_C (mi : z_MI) (w : z_M) (H0 : Heap) (p : Program) (R : Room) (s : State) (m : MethodId) (args : Array Value) (meth : Method) (c : Code) : Prop :=
  p.tables.exec = Jvm.exec ∧ c.code = mi.2.1 ∧ c.maxLocals = mi.2.2.1 ∧ s.vm.findClass mi.1.cls = some m.cls ∧ (∀ u ∈ z_tb, u.before args s = true) ∧ z_K w H0 s ∧ meth.name = mi.1.name ∧ mi.2.2.2.2.1 ≤ R.frames ∧ mi.2.2.2.2.2 ≤ R.locals
def z_ri (r : Option z_V) : Instr := match r with
  | none => .return_
  | some (.inl _) => .ireturn
  | some (.inr (.inl _)) => .lreturn
  | some (.inr (.inr _)) => .areturn
def z_rk (ret : Option FieldType) (r : Option z_V) : Prop := match r with
  | none => ret = none
  | some (.inl x) => ∃ ty, ret = some ty ∧ narrow ty (.int x) = .int x
  | some (.inr (.inl _)) => ret = some .long
  | some (.inr (.inr _)) => ∃ t, ret = some (.array t)
/-- what stays over a walk: kind and size of every cell, the start's arrays -/
def z_Fr (h h' : z_Hp) : Prop := (∀ a, hZ h ≤ a → hT h a = 99) → (∀ a, hZ h' ≤ a → hT h' a = 99) ∧ hZ h ≤ hZ h' ∧ ∀ a, a < hZ h → hT h' a = hT h a ∧ hN h' a = hN h a ∧ (hT h a = 19 → ∀ j, hI h' a j = hI h a j)
theorem z_Fr.refl (h : z_Hp) : z_Fr h h := fun e => ⟨e, Nat.le_refl _, fun _ _ => ⟨rfl, rfl, fun _ _ => rfl⟩⟩
theorem z_Fr.trans {h h1 h2 : z_Hp} (a : z_Fr h h1) (b : z_Fr h1 h2) : z_Fr h h2 := by
  intro e
  obtain ⟨a1, a2, a3⟩ := a e
  obtain ⟨b1, b2, b3⟩ := b a1
  refine ⟨b1, Nat.le_trans a2 b2, fun c hc => ?_⟩
  obtain ⟨c1, c2, c3⟩ := a3 c hc
  obtain ⟨d1, d2, d3⟩ := b3 c (by omega)
  exact ⟨d1.trans c1, d2.trans c2, fun e9 j => (d3 (c1.trans e9) j).trans (c3 e9 j)⟩
theorem z_Fr.wr {h h' : z_Hp} (hz : hZ h' = hZ h) (hl : ∀ b, hT h' b = hT h b ∧ hN h' b = hN h b) (hs : ∀ b, hT h b = 19 → ∀ j, hI h' b j = hI h b j) : z_Fr h h' :=
  fun e => ⟨fun a ha => (hl a).1.trans (e a (by rw [← hz]; exact ha)), by rw [hz]; exact Nat.le_refl _, fun a _ => ⟨(hl a).1, (hl a).2, hs a⟩⟩
theorem z_Fr.mk {h h' : z_Hp} (hz : hZ h' = hZ h + 1) (hl : ∀ b, b ≠ hZ h → hT h' b = hT h b ∧ hN h' b = hN h b ∧ ∀ j, hI h' b j = hI h b j) : z_Fr h h' :=
  fun e => ⟨fun a ha => (hl a (by omega)).1.trans (e a (by omega)), by omega, fun a ha => ⟨(hl a (by omega)).1, (hl a (by omega)).2.1, fun _ => (hl a (by omega)).2.2⟩⟩
theorem z_Fr.gI {h : z_Hp} {a i : Nat} {x : Int32} (ht : hT h a ≠ 19) : z_Fr h (sI h a i x) := z_Fr.wr rfl (fun _ => ⟨rfl, rfl⟩) (fun b hb j => by rw [hI_sI, if_neg (fun q => ht (by rw [← q.1]; exact hb))])
theorem z_Fr.gJ {h : z_Hp} {a i : Nat} {x : Int64} : z_Fr h (sJ h a i x) := z_Fr.wr rfl (fun _ => ⟨rfl, rfl⟩) (fun _ _ _ => rfl)
theorem z_Fr.gR {h : z_Hp} {a i : Nat} {x : Option Nat} : z_Fr h (sR h a i x) := z_Fr.wr rfl (fun _ => ⟨rfl, rfl⟩) (fun _ _ _ => rfl)
theorem z_Fr.gN {h : z_Hp} {t n : Nat} : z_Fr h (nw h t n) := z_Fr.mk rfl (fun b hb => ⟨by rw [hT_nw, if_neg hb], by rw [hN_nw, if_neg hb], fun j => by rw [hI_nw, if_neg hb]⟩)
theorem z_Fr.gC {h : z_Hp} {a sp b dp n : Nat} (ht : hT h b ≠ 19) : z_Fr h (cpI h a sp b dp n) := z_Fr.wr rfl (fun _ => ⟨rfl, rfl⟩) (fun c hc j => by rw [hI_cp, if_neg (fun q => ht (by rw [← q]; exact hc))])
def z_G {α : Type} (ρ : α → z_R) (mi : z_MI) (pc : Nat) (L : List (Nat × z_V)) (st : List z_V) (h : z_Hp) (o : Option α) : Prop :=
  ∀ (r : Option z_V) (hf : z_Hp), o.map ρ = some (r, hf) → (hZ h ≤ hZ hf ∧ hS h ≤ hS hf ∧ z_Fr h hf) ∧
   ∀ (w : z_M) (H0 : Heap) (p : Program) (l : Launch) (e : Env) (R : Room) (s : State) (m : MethodId) (args : Array Value) (below : List Frame) (meth : Method) (c : Code) (Q : State → Prop) (c0 s0 : Nat),
    z_C mi w H0 p R s m args meth c → hZ hf ≤ c0 + R.cells → hS hf ≤ s0 + R.slots →
    (∀ (pc : Nat) (ls : Array Slot) (H : Heap) (locs : List Loc) (cells slots : Nat), decode mi.2.1 pc = .ok (z_ri r, 1) → z_rk mi.2.2.2.1 r → z_Rel w H0 hf H → (∀ q ∈ locs, H0.size ≤ q.base) → hZ hf = c0 + cells → hS hf = s0 + slots → W p l e R s m args below meth c H locs cells slots Q (F0 m pc ls (r.toList.map (z_cv w H0)))) →
    ∀ (H : Heap) (locs : List Loc) (ls : Array Slot) (cells slots : Nat), z_Rel w H0 h H → (∀ q ∈ locs, H0.size ≤ q.base) → lv_has ls mi.2.2.1 (L.map fun q => (q.1, z_cv w H0 q.2)) → hZ h = c0 + cells → hS h = s0 + slots →
    W p l e R s m args below meth c H locs cells slots Q (F0 m pc ls (st.map (z_cv w H0)))
/-! ===== rows that don't look at the heap ===== -/
theorem z_pure {α : Type} {ρ : α → z_R} {mi : z_MI} {pc pc' : Nat} {L L' : List (Nat × z_V)} {st st' : List z_V} {h : z_Hp} {o : Option α}
    (hs : ∀ (w : z_M) (H0 : Heap) (p : Program) (l : Launch) (e : Env) (R : Room) (s : State) (m : MethodId) (args : Array Value) (below : List Frame) (meth : Method) (c : Code) (Q : State → Prop) (H : Heap) (locs : List Loc) (ls : Array Slot) (cells slots : Nat), z_C mi w H0 p R s m args meth c →
      lv_has ls mi.2.2.1 (L.map fun q => (q.1, z_cv w H0 q.2)) → (∀ ls' : Array Slot, lv_has ls' mi.2.2.1 (L'.map fun q => (q.1, z_cv w H0 q.2)) → W p l e R s m args below meth c H locs cells slots Q (F0 m pc' ls' (st'.map (z_cv w H0)))) → W p l e R s m args below meth c H locs cells slots Q (F0 m pc ls (st.map (z_cv w H0))))
    (g : z_G ρ mi pc' L' st' h o) : z_G ρ mi pc L st h o := by
  intro r hf ho
  obtain ⟨g1, g2⟩ := g r hf ho
  refine ⟨g1, ?_⟩
  intro w H0 p l e R s m args below meth c Q c0 s0 hC h1 h2 hr H locs ls cells slots hRel hlo hl e1 e2
  exact hs w H0 p l e R s m args below meth c Q H locs ls cells slots hC hl (fun ls' hl' => g2 w H0 p l e R s m args below meth c Q c0 s0 hC h1 h2 hr H locs ls' cells slots hRel hlo hl' e1 e2)
theorem z_none {α : Type} {ρ : α → z_R} {mi : z_MI} {pc : Nat} {L : List (Nat × z_V)} {st : List z_V} {h : z_Hp} : z_G ρ mi pc L st h none := fun _ _ h => by simp at h
theorem z_ite {α : Type} {ρ : α → z_R} {mi : z_MI} {pc : Nat} {L : List (Nat × z_V)} {st : List z_V} {h : z_Hp} {c : Prop} [Decidable c] {a b : Option α} (g1 : c → z_G ρ mi pc L st h a) (g2 : ¬ c → z_G ρ mi pc L st h b) : z_G ρ mi pc L st h (if c then a else b) := by
  by_cases hc : c
  · rw [if_pos hc]; exact g1 hc
  · rw [if_neg hc]; exact g2 hc
/-- fewer locals, by their places -/
theorem z_sub {α : Type} {ρ : α → z_R} {mi : z_MI} {pc : Nat} {L L' : List (Nat × z_V)} {st : List z_V} {h : z_Hp} {o : Option α} (ks : List Nat) (hk : ks.map (fun k => L[k]?) = L'.map some) (g : z_G ρ mi pc L' st h o) : z_G ρ mi pc L st h o := by
  refine z_pure (L' := L') (fun w H0 p l e R s m args below meth c Q H locs ls cells slots hC hl k => k ls ⟨hl.1, hl.2.1, fun q hq => ?_⟩) g
  obtain ⟨u, hu, rfl⟩ := List.mem_map.mp hq
  have h1 : some u ∈ ks.map (fun k => L[k]?) := by rw [hk]; exact List.mem_map.mpr ⟨u, hu, rfl⟩
  obtain ⟨k, -, hk2⟩ := List.mem_map.mp h1
  exact hl.2.2 _ (List.mem_map.mpr ⟨u, List.mem_of_getElem? hk2, rfl⟩)
theorem z_lvat {w : z_M} {H0 : Heap} {ls : Array Slot} {n : Nat} {L : List (Nat × z_V)} (hl : lv_has ls n (L.map fun q => (q.1, z_cv w H0 q.2))) {k i : Nat} {v : z_V} (hk : L[k]? = some (i, v)) : ls[i]? = some (.val (z_cv w H0 v)) :=
  hl.2.2 (i, z_cv w H0 v) (List.mem_map.mpr ⟨(i, v), List.mem_of_getElem? hk, rfl⟩)
def z_is2 (v : z_V) : Bool := match v with
  | .inr (.inl _) => true
  | _ => false
def z_ins : List (Nat × z_V) → Nat → z_V → List (Nat × z_V)
  | [], i, v => [(i, v)]
  | (j, u) :: t, i, v => if i < j then (i, v) :: (j, u) :: t else (j, u) :: z_ins t i v
def z_set (L : List (Nat × z_V)) (i : Nat) (v : z_V) : List (Nat × z_V) := z_ins (L.filter fun q => !(q.1 == i) && (!(z_is2 v && q.1 == i + 1) && !(q.1 + 1 == i && z_is2 q.2))) i v
theorem z_ins_mem {L : List (Nat × z_V)} {i : Nat} {v : z_V} {q : Nat × z_V} (h : q ∈ z_ins L i v) : q = (i, v) ∨ q ∈ L := by
  induction L with
  | nil => exact Or.inl (List.mem_singleton.mp h)
  | cons x t ih =>
    obtain ⟨j, u⟩ := x
    unfold z_ins at h
    split at h
    · rcases List.mem_cons.mp h with h | h
      · exact Or.inl h
      · exact Or.inr h
    · rcases List.mem_cons.mp h with h | h
      · exact Or.inr (by rw [h]; exact List.mem_cons_self)
      · rcases ih h with h | h
        · exact Or.inl h
        · exact Or.inr (List.mem_cons_of_mem _ h)
theorem z_cat (w : z_M) (H0 : Heap) (v : z_V) : (z_cv w H0 v).category = if z_is2 v then 2 else 1 := by
  rcases v with x | x | o
  · rfl
  · rfl
  · cases o <;> rfl
theorem z_stored {w : z_M} {H0 : Heap} {ls' : Array Slot} {n i : Nat} {v : z_V} {L : List (Nat × z_V)}
    (hl' : lv_has ls' n ((i, z_cv w H0 v) :: (L.map fun q => (q.1, z_cv w H0 q.2)).filter (fun q => !(q.1 == i) && (!(z_is2 v && q.1 == i + 1) && !(q.1 + 1 == i && q.2.category == 2))))) : lv_has ls' n ((z_set L i v).map fun q => (q.1, z_cv w H0 q.2)) := by
  refine ⟨hl'.1, hl'.2.1, fun q hq => ?_⟩
  obtain ⟨u, hu, rfl⟩ := List.mem_map.mp hq
  rcases z_ins_mem hu with rfl | hu
  · exact hl'.2.2 _ List.mem_cons_self
  · obtain ⟨h1, h2⟩ := List.mem_filter.mp hu
    refine hl'.2.2 _ (List.mem_cons_of_mem _ (List.mem_filter.mpr ⟨List.mem_map.mpr ⟨u, h1, rfl⟩, ?_⟩))
    simp only [z_cat]
    cases h3 : z_is2 u.2 <;> simp_all
theorem z_iconst {α : Type} {ρ : α → z_R} {mi : z_MI} {pc : Nat} {L : List (Nat × z_V)} {st : List z_V} {h : z_Hp} {o : Option α} {n : Int} {v : Int32} (d : decode mi.2.1 pc = .ok (.iconst n, 1)) (hv : Int32.ofInt n = v) (g : z_G ρ mi (pc + 1) L (vi v :: st) h o) : z_G ρ mi pc L (st) h o :=
  z_pure (fun w H0 p l e R s m args below meth c Q H locs ls cells slots hC hl k => lv_iconst hC.1 hC.2.1 d hv (k ls hl)) g
theorem z_bipush {α : Type} {ρ : α → z_R} {mi : z_MI} {pc : Nat} {L : List (Nat × z_V)} {st : List z_V} {h : z_Hp} {o : Option α} {n : Int} {v : Int32} (d : decode mi.2.1 pc = .ok (.bipush n, 2)) (hv : (Int8.ofInt n).toInt32 = v) (g : z_G ρ mi (pc + 2) L (vi v :: st) h o) : z_G ρ mi pc L (st) h o :=
  z_pure (fun w H0 p l e R s m args below meth c Q H locs ls cells slots hC hl k => lv_bipush hC.1 hC.2.1 d hv (k ls hl)) g
theorem z_sipush {α : Type} {ρ : α → z_R} {mi : z_MI} {pc : Nat} {L : List (Nat × z_V)} {st : List z_V} {h : z_Hp} {o : Option α} {n : Int} {v : Int32} (d : decode mi.2.1 pc = .ok (.sipush n, 3)) (hv : (Int16.ofInt n).toInt32 = v) (g : z_G ρ mi (pc + 3) L (vi v :: st) h o) : z_G ρ mi pc L (st) h o :=
  z_pure (fun w H0 p l e R s m args below meth c Q H locs ls cells slots hC hl k => lv_sipush hC.1 hC.2.1 d hv (k ls hl)) g
theorem z_lconst {α : Type} {ρ : α → z_R} {mi : z_MI} {pc : Nat} {L : List (Nat × z_V)} {st : List z_V} {h : z_Hp} {o : Option α} {n : Fin 2} {v : Int64} (d : decode mi.2.1 pc = .ok (.lconst n, 1)) (hv : Int64.ofNat (n : Nat) = v) (g : z_G ρ mi (pc + 1) L (vl v :: st) h o) : z_G ρ mi pc L (st) h o :=
  z_pure (fun w H0 p l e R s m args below meth c Q H locs ls cells slots hC hl k => lv_lconst hC.1 hC.2.1 d hv (k ls hl)) g
theorem z_null {α : Type} {ρ : α → z_R} {mi : z_MI} {pc : Nat} {L : List (Nat × z_V)} {st : List z_V} {h : z_Hp} {o : Option α}  (d : decode mi.2.1 pc = .ok (.aconst_null, 1))  (g : z_G ρ mi (pc + 1) L (vr none :: st) h o) : z_G ρ mi pc L (st) h o :=
  z_pure (fun w H0 p l e R s m args below meth c Q H locs ls cells slots hC hl k => lv_null hC.1 hC.2.1 d  (k ls hl)) g
theorem z_ldcw {α : Type} {ρ : α → z_R} {mi : z_MI} {pc : Nat} {L : List (Nat × z_V)} {st : List z_V} {h : z_Hp} {o : Option α} {index : Nat} {v : Int32} (d : decode mi.2.1 pc = .ok (.ldc_w index, 3)) (hw : Cond.constant mi.1.cls index v ∈ z_tb) (g : z_G ρ mi (pc + 3) L (vi v :: st) h o) : z_G ρ mi pc L st h o :=
  z_pure (fun w H0 p l e R s m args below meth c Q H locs ls cells slots hC hl k => lv_ldcw hC.1 hC.2.1 hC.2.2.2.1 (hC.2.2.2.2.1 _ hw) d (k ls hl)) g
theorem z_ldc {α : Type} {ρ : α → z_R} {mi : z_MI} {pc : Nat} {L : List (Nat × z_V)} {st : List z_V} {h : z_Hp} {o : Option α} {index : Nat} {v : Int32} (d : decode mi.2.1 pc = .ok (.ldc index, 2)) (hw : Cond.constant mi.1.cls index v ∈ z_tb) (g : z_G ρ mi (pc + 2) L (vi v :: st) h o) : z_G ρ mi pc L st h o :=
  z_pure (fun w H0 p l e R s m args below meth c Q H locs ls cells slots hC hl k => lv_ldc hC.1 hC.2.1 hC.2.2.2.1 (hC.2.2.2.2.1 _ hw) d (k ls hl)) g
theorem z_ldc2 {α : Type} {ρ : α → z_R} {mi : z_MI} {pc : Nat} {L : List (Nat × z_V)} {st : List z_V} {h : z_Hp} {o : Option α} {index : Nat} {v : Int64} (d : decode mi.2.1 pc = .ok (.ldc2_w index, 3)) (hw : Cond.constantLong mi.1.cls index v ∈ z_tb) (g : z_G ρ mi (pc + 3) L (vl v :: st) h o) : z_G ρ mi pc L st h o :=
  z_pure (fun w H0 p l e R s m args below meth c Q H locs ls cells slots hC hl k => lv_ldc2 hC.1 hC.2.1 hC.2.2.2.1 (hC.2.2.2.2.1 _ hw) d (k ls hl)) g
theorem z_iload_n {α : Type} {ρ : α → z_R} {mi : z_MI} {pc : Nat} {L : List (Nat × z_V)} {st : List z_V} {h : z_Hp} {o : Option α} {n : Fin 4} {i : Nat} {x : Int32} (d : decode mi.2.1 pc = .ok (.iload_n n, 1)) (hi : (n : Nat) = i) (k0 : Nat) (hk : L[k0]? = some (i, vi x)) (g : z_G ρ mi (pc + 1) L (vi x :: st) h o) : z_G ρ mi pc L st h o :=
  z_pure (fun w H0 p l e R s m args below meth c Q H locs ls cells slots hC hl k => lv_iload_n hC.1 hC.2.1 d hi (z_lvat hl hk) (k ls hl)) g
theorem z_iload {α : Type} {ρ : α → z_R} {mi : z_MI} {pc : Nat} {L : List (Nat × z_V)} {st : List z_V} {h : z_Hp} {o : Option α} {i : Nat} {x : Int32} (d : decode mi.2.1 pc = .ok (.iload i, 2)) (k0 : Nat) (hk : L[k0]? = some (i, vi x)) (g : z_G ρ mi (pc + 2) L (vi x :: st) h o) : z_G ρ mi pc L st h o :=
  z_pure (fun w H0 p l e R s m args below meth c Q H locs ls cells slots hC hl k => lv_iload hC.1 hC.2.1 d (z_lvat hl hk) (k ls hl)) g
theorem z_lload_n {α : Type} {ρ : α → z_R} {mi : z_MI} {pc : Nat} {L : List (Nat × z_V)} {st : List z_V} {h : z_Hp} {o : Option α} {n : Fin 4} {i : Nat} {x : Int64} (d : decode mi.2.1 pc = .ok (.lload_n n, 1)) (hi : (n : Nat) = i) (k0 : Nat) (hk : L[k0]? = some (i, vl x)) (g : z_G ρ mi (pc + 1) L (vl x :: st) h o) : z_G ρ mi pc L st h o :=
  z_pure (fun w H0 p l e R s m args below meth c Q H locs ls cells slots hC hl k => lv_lload_n hC.1 hC.2.1 d hi (z_lvat hl hk) (k ls hl)) g
theorem z_lload {α : Type} {ρ : α → z_R} {mi : z_MI} {pc : Nat} {L : List (Nat × z_V)} {st : List z_V} {h : z_Hp} {o : Option α} {i : Nat} {x : Int64} (d : decode mi.2.1 pc = .ok (.lload i, 2)) (k0 : Nat) (hk : L[k0]? = some (i, vl x)) (g : z_G ρ mi (pc + 2) L (vl x :: st) h o) : z_G ρ mi pc L st h o :=
  z_pure (fun w H0 p l e R s m args below meth c Q H locs ls cells slots hC hl k => lv_lload hC.1 hC.2.1 d (z_lvat hl hk) (k ls hl)) g
theorem z_aload_n {α : Type} {ρ : α → z_R} {mi : z_MI} {pc : Nat} {L : List (Nat × z_V)} {st : List z_V} {h : z_Hp} {o : Option α} {n : Fin 4} {i : Nat} {x : Option Nat} (d : decode mi.2.1 pc = .ok (.aload_n n, 1)) (hi : (n : Nat) = i) (k0 : Nat) (hk : L[k0]? = some (i, vr x)) (g : z_G ρ mi (pc + 1) L (vr x :: st) h o) : z_G ρ mi pc L st h o := by
  cases x with
  | none => exact z_pure (fun w H0 p l e R s m args below meth c Q H locs ls cells slots hC hl k => lv_aload_nN hC.1 hC.2.1 d hi (z_lvat hl hk) (k ls hl)) g
  | some a => exact z_pure (fun w H0 p l e R s m args below meth c Q H locs ls cells slots hC hl k => lv_aload_n hC.1 hC.2.1 d hi (z_lvat hl hk) (k ls hl)) g
theorem z_aload {α : Type} {ρ : α → z_R} {mi : z_MI} {pc : Nat} {L : List (Nat × z_V)} {st : List z_V} {h : z_Hp} {o : Option α} {i : Nat} {x : Option Nat} (d : decode mi.2.1 pc = .ok (.aload i, 2)) (k0 : Nat) (hk : L[k0]? = some (i, vr x)) (g : z_G ρ mi (pc + 2) L (vr x :: st) h o) : z_G ρ mi pc L st h o := by
  cases x with
  | none => exact z_pure (fun w H0 p l e R s m args below meth c Q H locs ls cells slots hC hl k => lv_aloadN hC.1 hC.2.1 d (z_lvat hl hk) (k ls hl)) g
  | some a => exact z_pure (fun w H0 p l e R s m args below meth c Q H locs ls cells slots hC hl k => lv_aload hC.1 hC.2.1 d (z_lvat hl hk) (k ls hl)) g
theorem z_istore_n {α : Type} {ρ : α → z_R} {mi : z_MI} {pc : Nat} {L : List (Nat × z_V)} {st : List z_V} {h : z_Hp} {o : Option α} {L' : List (Nat × z_V)} {n : Fin 4} {i : Nat} {x : Int32} (d : decode mi.2.1 pc = .ok (.istore_n n, 1)) (hi : (n : Nat) = i) (hn : i < mi.2.2.1) (hL : z_set L i (vi x) = L') (g : z_G ρ mi (pc + 1) L' st h o) : z_G ρ mi pc L (vi x :: st) h o :=
  z_pure (fun w H0 p l e R s m args below meth c Q H locs ls cells slots hC hl k => lv_istore_n hC.1 hC.2.1 d hi hl hn rfl (fun ls' hl' => k ls' (hL ▸ z_stored (v := vi x) (by simpa [z_is2, z_cv] using hl')))) g
theorem z_istore {α : Type} {ρ : α → z_R} {mi : z_MI} {pc : Nat} {L : List (Nat × z_V)} {st : List z_V} {h : z_Hp} {o : Option α} {L' : List (Nat × z_V)} {i : Nat} {x : Int32} (d : decode mi.2.1 pc = .ok (.istore i, 2)) (hn : i < mi.2.2.1) (hL : z_set L i (vi x) = L') (g : z_G ρ mi (pc + 2) L' st h o) : z_G ρ mi pc L (vi x :: st) h o :=
  z_pure (fun w H0 p l e R s m args below meth c Q H locs ls cells slots hC hl k => lv_istore hC.1 hC.2.1 d hl hn rfl (fun ls' hl' => k ls' (hL ▸ z_stored (v := vi x) (by simpa [z_is2, z_cv] using hl')))) g
theorem z_lstore_n {α : Type} {ρ : α → z_R} {mi : z_MI} {pc : Nat} {L : List (Nat × z_V)} {st : List z_V} {h : z_Hp} {o : Option α} {L' : List (Nat × z_V)} {n : Fin 4} {i : Nat} {x : Int64} (d : decode mi.2.1 pc = .ok (.lstore_n n, 1)) (hi : (n : Nat) = i) (hn : i + 1 < mi.2.2.1) (hL : z_set L i (vl x) = L') (g : z_G ρ mi (pc + 1) L' st h o) : z_G ρ mi pc L (vl x :: st) h o :=
  z_pure (fun w H0 p l e R s m args below meth c Q H locs ls cells slots hC hl k => lv_lstore_n hC.1 hC.2.1 d hi hl hn rfl (fun ls' hl' => k ls' (hL ▸ z_stored (v := vl x) (by simpa [z_is2, z_cv] using hl')))) g
theorem z_lstore {α : Type} {ρ : α → z_R} {mi : z_MI} {pc : Nat} {L : List (Nat × z_V)} {st : List z_V} {h : z_Hp} {o : Option α} {L' : List (Nat × z_V)} {i : Nat} {x : Int64} (d : decode mi.2.1 pc = .ok (.lstore i, 2)) (hn : i + 1 < mi.2.2.1) (hL : z_set L i (vl x) = L') (g : z_G ρ mi (pc + 2) L' st h o) : z_G ρ mi pc L (vl x :: st) h o :=
  z_pure (fun w H0 p l e R s m args below meth c Q H locs ls cells slots hC hl k => lv_lstore hC.1 hC.2.1 d hl hn rfl (fun ls' hl' => k ls' (hL ▸ z_stored (v := vl x) (by simpa [z_is2, z_cv] using hl')))) g
theorem z_astore_n {α : Type} {ρ : α → z_R} {mi : z_MI} {pc : Nat} {L : List (Nat × z_V)} {st : List z_V} {h : z_Hp} {o : Option α} {L' : List (Nat × z_V)} {n : Fin 4} {i : Nat} {x : Option Nat} (d : decode mi.2.1 pc = .ok (.astore_n n, 1)) (hi : (n : Nat) = i) (hn : i < mi.2.2.1) (hL : z_set L i (vr x) = L') (g : z_G ρ mi (pc + 1) L' st h o) : z_G ρ mi pc L (vr x :: st) h o := by
  cases x with
  | none => exact z_pure (fun w H0 p l e R s m args below meth c Q H locs ls cells slots hC hl k => lv_astore_nN hC.1 hC.2.1 d hi hl hn rfl (fun ls' hl' => k ls' (hL ▸ z_stored (v := vr none) (by simpa [z_is2, z_cv, va_rf] using hl')))) g
  | some a => exact z_pure (fun w H0 p l e R s m args below meth c Q H locs ls cells slots hC hl k => lv_astore_n hC.1 hC.2.1 d hi hl hn rfl (fun ls' hl' => k ls' (hL ▸ z_stored (v := vr (some a)) (by simpa [z_is2, z_cv, va_rf] using hl')))) g
theorem z_astore {α : Type} {ρ : α → z_R} {mi : z_MI} {pc : Nat} {L : List (Nat × z_V)} {st : List z_V} {h : z_Hp} {o : Option α} {L' : List (Nat × z_V)} {i : Nat} {x : Option Nat} (d : decode mi.2.1 pc = .ok (.astore i, 2)) (hn : i < mi.2.2.1) (hL : z_set L i (vr x) = L') (g : z_G ρ mi (pc + 2) L' st h o) : z_G ρ mi pc L (vr x :: st) h o := by
  cases x with
  | none => exact z_pure (fun w H0 p l e R s m args below meth c Q H locs ls cells slots hC hl k => lv_astoreN hC.1 hC.2.1 d hl hn rfl (fun ls' hl' => k ls' (hL ▸ z_stored (v := vr none) (by simpa [z_is2, z_cv, va_rf] using hl')))) g
  | some a => exact z_pure (fun w H0 p l e R s m args below meth c Q H locs ls cells slots hC hl k => lv_astore hC.1 hC.2.1 d hl hn rfl (fun ls' hl' => k ls' (hL ▸ z_stored (v := vr (some a)) (by simpa [z_is2, z_cv, va_rf] using hl')))) g
theorem z_iinc {α : Type} {ρ : α → z_R} {mi : z_MI} {pc : Nat} {L : List (Nat × z_V)} {st : List z_V} {h : z_Hp} {o : Option α} {L' : List (Nat × z_V)} {i : Nat} {n : Int} {x v : Int32} (d : decode mi.2.1 pc = .ok (.iinc i n, 3)) (k0 : Nat) (hk : L[k0]? = some (i, vi x)) (hv : Int32.ofInt n = v) (hn : i < mi.2.2.1) (hL : z_set L i (vi (x + v)) = L') (g : z_G ρ mi (pc + 3) L' st h o) : z_G ρ mi pc L st h o := by
  subst hv
  exact z_pure (fun w H0 p l e R s m args below meth c Q H locs ls cells slots hC hl k => lv_iinc hC.1 hC.2.1 d hl (k := k0) (by rw [List.getElem?_map, hk]; rfl) rfl hn rfl (fun ls' hl' => k ls' (hL ▸ z_stored (v := vi (x + Int32.ofInt n)) (by simpa [z_is2, z_cv] using hl')))) g
theorem z_iadd {α : Type} {ρ : α → z_R} {mi : z_MI} {pc : Nat} {L : List (Nat × z_V)} {st : List z_V} {h : z_Hp} {o : Option α} {x y : Int32} (d : decode mi.2.1 pc = .ok (.iadd, 1))  (g : z_G ρ mi (pc + 1) L (vi (x + y) :: st) h o) : z_G ρ mi pc L (vi y :: vi x :: st) h o :=
  z_pure (fun w H0 p l e R s m args below meth c Q H locs ls cells slots hC hl k => lv_iadd hC.1 hC.2.1 d  (k ls hl)) g
theorem z_isub {α : Type} {ρ : α → z_R} {mi : z_MI} {pc : Nat} {L : List (Nat × z_V)} {st : List z_V} {h : z_Hp} {o : Option α} {x y : Int32} (d : decode mi.2.1 pc = .ok (.isub, 1))  (g : z_G ρ mi (pc + 1) L (vi (x - y) :: st) h o) : z_G ρ mi pc L (vi y :: vi x :: st) h o :=
  z_pure (fun w H0 p l e R s m args below meth c Q H locs ls cells slots hC hl k => lv_isub hC.1 hC.2.1 d  (k ls hl)) g
theorem z_imul {α : Type} {ρ : α → z_R} {mi : z_MI} {pc : Nat} {L : List (Nat × z_V)} {st : List z_V} {h : z_Hp} {o : Option α} {x y : Int32} (d : decode mi.2.1 pc = .ok (.imul, 1))  (g : z_G ρ mi (pc + 1) L (vi (x * y) :: st) h o) : z_G ρ mi pc L (vi y :: vi x :: st) h o :=
  z_pure (fun w H0 p l e R s m args below meth c Q H locs ls cells slots hC hl k => lv_imul hC.1 hC.2.1 d  (k ls hl)) g
theorem z_iand {α : Type} {ρ : α → z_R} {mi : z_MI} {pc : Nat} {L : List (Nat × z_V)} {st : List z_V} {h : z_Hp} {o : Option α} {x y : Int32} (d : decode mi.2.1 pc = .ok (.iand, 1))  (g : z_G ρ mi (pc + 1) L (vi (x &&& y) :: st) h o) : z_G ρ mi pc L (vi y :: vi x :: st) h o :=
  z_pure (fun w H0 p l e R s m args below meth c Q H locs ls cells slots hC hl k => lv_iand hC.1 hC.2.1 d  (k ls hl)) g
theorem z_ior {α : Type} {ρ : α → z_R} {mi : z_MI} {pc : Nat} {L : List (Nat × z_V)} {st : List z_V} {h : z_Hp} {o : Option α} {x y : Int32} (d : decode mi.2.1 pc = .ok (.ior, 1))  (g : z_G ρ mi (pc + 1) L (vi (x ||| y) :: st) h o) : z_G ρ mi pc L (vi y :: vi x :: st) h o :=
  z_pure (fun w H0 p l e R s m args below meth c Q H locs ls cells slots hC hl k => lv_ior hC.1 hC.2.1 d  (k ls hl)) g
theorem z_ixor {α : Type} {ρ : α → z_R} {mi : z_MI} {pc : Nat} {L : List (Nat × z_V)} {st : List z_V} {h : z_Hp} {o : Option α} {x y : Int32} (d : decode mi.2.1 pc = .ok (.ixor, 1))  (g : z_G ρ mi (pc + 1) L (vi (x ^^^ y) :: st) h o) : z_G ρ mi pc L (vi y :: vi x :: st) h o :=
  z_pure (fun w H0 p l e R s m args below meth c Q H locs ls cells slots hC hl k => lv_ixor hC.1 hC.2.1 d  (k ls hl)) g
theorem z_ishl {α : Type} {ρ : α → z_R} {mi : z_MI} {pc : Nat} {L : List (Nat × z_V)} {st : List z_V} {h : z_Hp} {o : Option α} {x y : Int32} (d : decode mi.2.1 pc = .ok (.ishl, 1))  (g : z_G ρ mi (pc + 1) L (vi (x <<< (y &&& 31)) :: st) h o) : z_G ρ mi pc L (vi y :: vi x :: st) h o :=
  z_pure (fun w H0 p l e R s m args below meth c Q H locs ls cells slots hC hl k => lv_ishl hC.1 hC.2.1 d  (k ls hl)) g
theorem z_ishr {α : Type} {ρ : α → z_R} {mi : z_MI} {pc : Nat} {L : List (Nat × z_V)} {st : List z_V} {h : z_Hp} {o : Option α} {x y : Int32} (d : decode mi.2.1 pc = .ok (.ishr, 1))  (g : z_G ρ mi (pc + 1) L (vi (x >>> (y &&& 31)) :: st) h o) : z_G ρ mi pc L (vi y :: vi x :: st) h o :=
  z_pure (fun w H0 p l e R s m args below meth c Q H locs ls cells slots hC hl k => lv_ishr hC.1 hC.2.1 d  (k ls hl)) g
theorem z_iushr {α : Type} {ρ : α → z_R} {mi : z_MI} {pc : Nat} {L : List (Nat × z_V)} {st : List z_V} {h : z_Hp} {o : Option α} {x y : Int32} (d : decode mi.2.1 pc = .ok (.iushr, 1))  (g : z_G ρ mi (pc + 1) L (vi ((x.toUInt32 >>> (y.toUInt32 &&& Int32.toUInt32 31)).toInt32) :: st) h o) : z_G ρ mi pc L (vi y :: vi x :: st) h o :=
  z_pure (fun w H0 p l e R s m args below meth c Q H locs ls cells slots hC hl k => lv_iushr hC.1 hC.2.1 d rfl (k ls hl)) g
theorem z_ineg {α : Type} {ρ : α → z_R} {mi : z_MI} {pc : Nat} {L : List (Nat × z_V)} {st : List z_V} {h : z_Hp} {o : Option α} {x : Int32} (d : decode mi.2.1 pc = .ok (.ineg, 1))  (g : z_G ρ mi (pc + 1) L (vi (-x) :: st) h o) : z_G ρ mi pc L (vi x :: st) h o :=
  z_pure (fun w H0 p l e R s m args below meth c Q H locs ls cells slots hC hl k => lv_ineg hC.1 hC.2.1 d  (k ls hl)) g
theorem z_ladd {α : Type} {ρ : α → z_R} {mi : z_MI} {pc : Nat} {L : List (Nat × z_V)} {st : List z_V} {h : z_Hp} {o : Option α} {x y : Int64} (d : decode mi.2.1 pc = .ok (.ladd, 1))  (g : z_G ρ mi (pc + 1) L (vl (x + y) :: st) h o) : z_G ρ mi pc L (vl y :: vl x :: st) h o :=
  z_pure (fun w H0 p l e R s m args below meth c Q H locs ls cells slots hC hl k => lv_ladd hC.1 hC.2.1 d  (k ls hl)) g
theorem z_lsub {α : Type} {ρ : α → z_R} {mi : z_MI} {pc : Nat} {L : List (Nat × z_V)} {st : List z_V} {h : z_Hp} {o : Option α} {x y : Int64} (d : decode mi.2.1 pc = .ok (.lsub, 1))  (g : z_G ρ mi (pc + 1) L (vl (x - y) :: st) h o) : z_G ρ mi pc L (vl y :: vl x :: st) h o :=
  z_pure (fun w H0 p l e R s m args below meth c Q H locs ls cells slots hC hl k => lv_lsub hC.1 hC.2.1 d  (k ls hl)) g
theorem z_lmul {α : Type} {ρ : α → z_R} {mi : z_MI} {pc : Nat} {L : List (Nat × z_V)} {st : List z_V} {h : z_Hp} {o : Option α} {x y : Int64} (d : decode mi.2.1 pc = .ok (.lmul, 1))  (g : z_G ρ mi (pc + 1) L (vl (x * y) :: st) h o) : z_G ρ mi pc L (vl y :: vl x :: st) h o :=
  z_pure (fun w H0 p l e R s m args below meth c Q H locs ls cells slots hC hl k => lv_lmul hC.1 hC.2.1 d  (k ls hl)) g
theorem z_lneg {α : Type} {ρ : α → z_R} {mi : z_MI} {pc : Nat} {L : List (Nat × z_V)} {st : List z_V} {h : z_Hp} {o : Option α} {x : Int64} (d : decode mi.2.1 pc = .ok (.lneg, 1))  (g : z_G ρ mi (pc + 1) L (vl (-x) :: st) h o) : z_G ρ mi pc L (vl x :: st) h o :=
  z_pure (fun w H0 p l e R s m args below meth c Q H locs ls cells slots hC hl k => lv_lneg hC.1 hC.2.1 d  (k ls hl)) g
theorem z_i2l {α : Type} {ρ : α → z_R} {mi : z_MI} {pc : Nat} {L : List (Nat × z_V)} {st : List z_V} {h : z_Hp} {o : Option α} {x : Int32} (d : decode mi.2.1 pc = .ok (.i2l, 1))  (g : z_G ρ mi (pc + 1) L (vl x.toInt64 :: st) h o) : z_G ρ mi pc L (vi x :: st) h o :=
  z_pure (fun w H0 p l e R s m args below meth c Q H locs ls cells slots hC hl k => lv_i2l hC.1 hC.2.1 d rfl (k ls hl)) g
theorem z_l2i {α : Type} {ρ : α → z_R} {mi : z_MI} {pc : Nat} {L : List (Nat × z_V)} {st : List z_V} {h : z_Hp} {o : Option α} {x : Int64} (d : decode mi.2.1 pc = .ok (.l2i, 1))  (g : z_G ρ mi (pc + 1) L (vi x.toInt32 :: st) h o) : z_G ρ mi pc L (vl x :: st) h o :=
  z_pure (fun w H0 p l e R s m args below meth c Q H locs ls cells slots hC hl k => lv_l2i hC.1 hC.2.1 d rfl (k ls hl)) g
theorem z_i2b {α : Type} {ρ : α → z_R} {mi : z_MI} {pc : Nat} {L : List (Nat × z_V)} {st : List z_V} {h : z_Hp} {o : Option α} {x : Int32} (d : decode mi.2.1 pc = .ok (.i2b, 1))  (g : z_G ρ mi (pc + 1) L (vi x.toInt8.toInt32 :: st) h o) : z_G ρ mi pc L (vi x :: st) h o :=
  z_pure (fun w H0 p l e R s m args below meth c Q H locs ls cells slots hC hl k => lv_i2b hC.1 hC.2.1 d rfl (k ls hl)) g
theorem z_lcmp {α : Type} {ρ : α → z_R} {mi : z_MI} {pc : Nat} {L : List (Nat × z_V)} {st : List z_V} {h : z_Hp} {o : Option α} {x y : Int64} (d : decode mi.2.1 pc = .ok (.lcmp, 1))  (g : z_G ρ mi (pc + 1) L (vi (lg_cmp x y) :: st) h o) : z_G ρ mi pc L (vl y :: vl x :: st) h o :=
  z_pure (fun w H0 p l e R s m args below meth c Q H locs ls cells slots hC hl k => W.lcmp hC.1 hC.2.1 d  (k ls hl)) g
theorem z_idiv {α : Type} {ρ : α → z_R} {mi : z_MI} {pc : Nat} {L : List (Nat × z_V)} {st : List z_V} {h : z_Hp} {o : Option α} {x y : Int32} (d : decode mi.2.1 pc = .ok (.idiv, 1)) (g : z_G ρ mi (pc + 1) L (vi (x / y) :: st) h o) : z_G ρ mi pc L (vi y :: vi x :: st) h (if y = 0 then none else o) :=
  z_ite (fun _ => z_none) (fun hy => z_pure (fun w H0 p l e R s m args below meth c Q H locs ls cells slots hC hl k => lv_idiv hC.1 hC.2.1 d hy (k ls hl)) g)
theorem z_irem {α : Type} {ρ : α → z_R} {mi : z_MI} {pc : Nat} {L : List (Nat × z_V)} {st : List z_V} {h : z_Hp} {o : Option α} {x y : Int32} (d : decode mi.2.1 pc = .ok (.irem, 1)) (g : z_G ρ mi (pc + 1) L (vi (x - x / y * y) :: st) h o) : z_G ρ mi pc L (vi y :: vi x :: st) h (if y = 0 then none else o) :=
  z_ite (fun _ => z_none) (fun hy => z_pure (fun w H0 p l e R s m args below meth c Q H locs ls cells slots hC hl k => lv_irem hC.1 hC.2.1 d hy (k ls hl)) g)
theorem z_ldiv {α : Type} {ρ : α → z_R} {mi : z_MI} {pc : Nat} {L : List (Nat × z_V)} {st : List z_V} {h : z_Hp} {o : Option α} {x y : Int64} (d : decode mi.2.1 pc = .ok (.ldiv, 1)) (g : z_G ρ mi (pc + 1) L (vl (x / y) :: st) h o) : z_G ρ mi pc L (vl y :: vl x :: st) h (if y = 0 then none else o) :=
  z_ite (fun _ => z_none) (fun hy => z_pure (fun w H0 p l e R s m args below meth c Q H locs ls cells slots hC hl k => lv_ldiv hC.1 hC.2.1 d hy (k ls hl)) g)
theorem z_lrem {α : Type} {ρ : α → z_R} {mi : z_MI} {pc : Nat} {L : List (Nat × z_V)} {st : List z_V} {h : z_Hp} {o : Option α} {x y : Int64} (d : decode mi.2.1 pc = .ok (.lrem, 1)) (g : z_G ρ mi (pc + 1) L (vl (x - x / y * y) :: st) h o) : z_G ρ mi pc L (vl y :: vl x :: st) h (if y = 0 then none else o) :=
  z_ite (fun _ => z_none) (fun hy => z_pure (fun w H0 p l e R s m args below meth c Q H locs ls cells slots hC hl k => lv_lrem hC.1 hC.2.1 d hy (k ls hl)) g)
theorem z_dup {α : Type} {ρ : α → z_R} {mi : z_MI} {pc : Nat} {L : List (Nat × z_V)} {st : List z_V} {h : z_Hp} {o : Option α} {v : z_V} (d : decode mi.2.1 pc = .ok (.dup, 1)) (hv : z_is2 v = false) (g : z_G ρ mi (pc + 1) L (v :: v :: st) h o) : z_G ρ mi pc L (v :: st) h o :=
  z_pure (fun w H0 p l e R s m args below meth c Q H locs ls cells slots hC hl k => lv_dup hC.1 hC.2.1 d (by rw [z_cat, hv]; rfl) (k ls hl)) g
theorem z_dup_x1 {α : Type} {ρ : α → z_R} {mi : z_MI} {pc : Nat} {L : List (Nat × z_V)} {st : List z_V} {h : z_Hp} {o : Option α} {u v : z_V} (d : decode mi.2.1 pc = .ok (.dup_x1, 1)) (hv : z_is2 v = false) (hu : z_is2 u = false) (g : z_G ρ mi (pc + 1) L (v :: u :: v :: st) h o) : z_G ρ mi pc L (v :: u :: st) h o :=
  z_pure (fun w H0 p l e R s m args below meth c Q H locs ls cells slots hC hl k => lv_dup_x1 hC.1 hC.2.1 d (by rw [z_cat, hv]; rfl) (by rw [z_cat, hu]; rfl) (k ls hl)) g
theorem z_dup2 {α : Type} {ρ : α → z_R} {mi : z_MI} {pc : Nat} {L : List (Nat × z_V)} {st : List z_V} {h : z_Hp} {o : Option α} {u v : z_V} (d : decode mi.2.1 pc = .ok (.dup2, 1)) (hv : z_is2 v = false) (hu : z_is2 u = false) (g : z_G ρ mi (pc + 1) L (v :: u :: v :: u :: st) h o) : z_G ρ mi pc L (v :: u :: st) h o :=
  z_pure (fun w H0 p l e R s m args below meth c Q H locs ls cells slots hC hl k => lv_dup2_11 hC.1 hC.2.1 d (by rw [z_cat, hv]; rfl) (by rw [z_cat, hu]; rfl) (k ls hl)) g
theorem z_dup2L {α : Type} {ρ : α → z_R} {mi : z_MI} {pc : Nat} {L : List (Nat × z_V)} {st : List z_V} {h : z_Hp} {o : Option α} {v : z_V} (d : decode mi.2.1 pc = .ok (.dup2, 1)) (hv : z_is2 v = true) (g : z_G ρ mi (pc + 1) L (v :: v :: st) h o) : z_G ρ mi pc L (v :: st) h o :=
  z_pure (fun w H0 p l e R s m args below meth c Q H locs ls cells slots hC hl k => lv_dup2_2 hC.1 hC.2.1 d (by rw [z_cat, hv]; rfl) (k ls hl)) g
theorem z_icmp_eq {α : Type} {ρ : α → z_R} {mi : z_MI} {pc : Nat} {L : List (Nat × z_V)} {st : List z_V} {h : z_Hp} {o1 o2 : Option α} {x y : Int32} {off : Int} {tgt : Nat} (d : decode mi.2.1 pc = .ok (.if_icmp .eq off, 3)) (ht : (pc : Int) + off = (tgt : Int)) (g1 : z_G ρ mi tgt L st h o1) (g2 : z_G ρ mi (pc + 3) L st h o2) : z_G ρ mi pc L (vi y :: vi x :: st) h (if x = y then o1 else o2) := by
  refine z_ite (fun hc => z_pure (fun w H0 p l e R s m args below meth c Q H locs ls cells slots hC hl k => lv_icmp_eq hC.1 hC.2.1 d ht (fun _ => k ls hl) (fun hq => absurd hc hq)) g1) (fun hc => z_pure (fun w H0 p l e R s m args below meth c Q H locs ls cells slots hC hl k => lv_icmp_eq hC.1 hC.2.1 d ht (fun hq => absurd hq hc) (fun _ => k ls hl)) g2)
theorem z_icmp_ne {α : Type} {ρ : α → z_R} {mi : z_MI} {pc : Nat} {L : List (Nat × z_V)} {st : List z_V} {h : z_Hp} {o1 o2 : Option α} {x y : Int32} {off : Int} {tgt : Nat} (d : decode mi.2.1 pc = .ok (.if_icmp .ne off, 3)) (ht : (pc : Int) + off = (tgt : Int)) (g1 : z_G ρ mi tgt L st h o1) (g2 : z_G ρ mi (pc + 3) L st h o2) : z_G ρ mi pc L (vi y :: vi x :: st) h (if x = y then o2 else o1) := by
  refine z_ite (fun hc => z_pure (fun w H0 p l e R s m args below meth c Q H locs ls cells slots hC hl k => lv_icmp_ne hC.1 hC.2.1 d ht (fun hq => absurd hc hq) (fun _ => k ls hl)) g2) (fun hc => z_pure (fun w H0 p l e R s m args below meth c Q H locs ls cells slots hC hl k => lv_icmp_ne hC.1 hC.2.1 d ht (fun _ => k ls hl) (fun hq => absurd hq hc)) g1)
theorem z_icmp_lt {α : Type} {ρ : α → z_R} {mi : z_MI} {pc : Nat} {L : List (Nat × z_V)} {st : List z_V} {h : z_Hp} {o1 o2 : Option α} {x y : Int32} {off : Int} {tgt : Nat} (d : decode mi.2.1 pc = .ok (.if_icmp .lt off, 3)) (ht : (pc : Int) + off = (tgt : Int)) (g1 : z_G ρ mi tgt L st h o1) (g2 : z_G ρ mi (pc + 3) L st h o2) : z_G ρ mi pc L (vi y :: vi x :: st) h (if x < y then o1 else o2) := by
  refine z_ite (fun hc => z_pure (fun w H0 p l e R s m args below meth c Q H locs ls cells slots hC hl k => lv_icmp_lt hC.1 hC.2.1 d ht (fun _ => k ls hl) (fun hq => absurd hc hq)) g1) (fun hc => z_pure (fun w H0 p l e R s m args below meth c Q H locs ls cells slots hC hl k => lv_icmp_lt hC.1 hC.2.1 d ht (fun hq => absurd hq hc) (fun _ => k ls hl)) g2)
theorem z_icmp_ge {α : Type} {ρ : α → z_R} {mi : z_MI} {pc : Nat} {L : List (Nat × z_V)} {st : List z_V} {h : z_Hp} {o1 o2 : Option α} {x y : Int32} {off : Int} {tgt : Nat} (d : decode mi.2.1 pc = .ok (.if_icmp .ge off, 3)) (ht : (pc : Int) + off = (tgt : Int)) (g1 : z_G ρ mi tgt L st h o1) (g2 : z_G ρ mi (pc + 3) L st h o2) : z_G ρ mi pc L (vi y :: vi x :: st) h (if y ≤ x then o1 else o2) := by
  refine z_ite (fun hc => z_pure (fun w H0 p l e R s m args below meth c Q H locs ls cells slots hC hl k => lv_icmp_ge hC.1 hC.2.1 d ht (fun _ => k ls hl) (fun hq => absurd hc hq)) g1) (fun hc => z_pure (fun w H0 p l e R s m args below meth c Q H locs ls cells slots hC hl k => lv_icmp_ge hC.1 hC.2.1 d ht (fun hq => absurd hq hc) (fun _ => k ls hl)) g2)
theorem z_icmp_gt {α : Type} {ρ : α → z_R} {mi : z_MI} {pc : Nat} {L : List (Nat × z_V)} {st : List z_V} {h : z_Hp} {o1 o2 : Option α} {x y : Int32} {off : Int} {tgt : Nat} (d : decode mi.2.1 pc = .ok (.if_icmp .gt off, 3)) (ht : (pc : Int) + off = (tgt : Int)) (g1 : z_G ρ mi tgt L st h o1) (g2 : z_G ρ mi (pc + 3) L st h o2) : z_G ρ mi pc L (vi y :: vi x :: st) h (if y < x then o1 else o2) := by
  refine z_ite (fun hc => z_pure (fun w H0 p l e R s m args below meth c Q H locs ls cells slots hC hl k => lv_icmp_gt hC.1 hC.2.1 d ht (fun _ => k ls hl) (fun hq => absurd hc hq)) g1) (fun hc => z_pure (fun w H0 p l e R s m args below meth c Q H locs ls cells slots hC hl k => lv_icmp_gt hC.1 hC.2.1 d ht (fun hq => absurd hq hc) (fun _ => k ls hl)) g2)
theorem z_icmp_le {α : Type} {ρ : α → z_R} {mi : z_MI} {pc : Nat} {L : List (Nat × z_V)} {st : List z_V} {h : z_Hp} {o1 o2 : Option α} {x y : Int32} {off : Int} {tgt : Nat} (d : decode mi.2.1 pc = .ok (.if_icmp .le off, 3)) (ht : (pc : Int) + off = (tgt : Int)) (g1 : z_G ρ mi tgt L st h o1) (g2 : z_G ρ mi (pc + 3) L st h o2) : z_G ρ mi pc L (vi y :: vi x :: st) h (if x ≤ y then o1 else o2) := by
  refine z_ite (fun hc => z_pure (fun w H0 p l e R s m args below meth c Q H locs ls cells slots hC hl k => lv_icmp_le hC.1 hC.2.1 d ht (fun _ => k ls hl) (fun hq => absurd hc hq)) g1) (fun hc => z_pure (fun w H0 p l e R s m args below meth c Q H locs ls cells slots hC hl k => lv_icmp_le hC.1 hC.2.1 d ht (fun hq => absurd hq hc) (fun _ => k ls hl)) g2)
theorem z_if_eq {α : Type} {ρ : α → z_R} {mi : z_MI} {pc : Nat} {L : List (Nat × z_V)} {st : List z_V} {h : z_Hp} {o1 o2 : Option α} {x : Int32} {off : Int} {tgt : Nat} (d : decode mi.2.1 pc = .ok (.ifCond .eq off, 3)) (ht : (pc : Int) + off = (tgt : Int)) (g1 : z_G ρ mi tgt L st h o1) (g2 : z_G ρ mi (pc + 3) L st h o2) : z_G ρ mi pc L (vi x :: st) h (if x = 0 then o1 else o2) := by
  refine z_ite (fun hc => z_pure (fun w H0 p l e R s m args below meth c Q H locs ls cells slots hC hl k => lv_if_eq hC.1 hC.2.1 d ht (fun _ => k ls hl) (fun hq => absurd hc hq)) g1) (fun hc => z_pure (fun w H0 p l e R s m args below meth c Q H locs ls cells slots hC hl k => lv_if_eq hC.1 hC.2.1 d ht (fun hq => absurd hq hc) (fun _ => k ls hl)) g2)
theorem z_if_ne {α : Type} {ρ : α → z_R} {mi : z_MI} {pc : Nat} {L : List (Nat × z_V)} {st : List z_V} {h : z_Hp} {o1 o2 : Option α} {x : Int32} {off : Int} {tgt : Nat} (d : decode mi.2.1 pc = .ok (.ifCond .ne off, 3)) (ht : (pc : Int) + off = (tgt : Int)) (g1 : z_G ρ mi tgt L st h o1) (g2 : z_G ρ mi (pc + 3) L st h o2) : z_G ρ mi pc L (vi x :: st) h (if x = 0 then o2 else o1) := by
  refine z_ite (fun hc => z_pure (fun w H0 p l e R s m args below meth c Q H locs ls cells slots hC hl k => lv_if_ne hC.1 hC.2.1 d ht (fun hq => absurd hc hq) (fun _ => k ls hl)) g2) (fun hc => z_pure (fun w H0 p l e R s m args below meth c Q H locs ls cells slots hC hl k => lv_if_ne hC.1 hC.2.1 d ht (fun _ => k ls hl) (fun hq => absurd hq hc)) g1)
theorem z_if_lt {α : Type} {ρ : α → z_R} {mi : z_MI} {pc : Nat} {L : List (Nat × z_V)} {st : List z_V} {h : z_Hp} {o1 o2 : Option α} {x : Int32} {off : Int} {tgt : Nat} (d : decode mi.2.1 pc = .ok (.ifCond .lt off, 3)) (ht : (pc : Int) + off = (tgt : Int)) (g1 : z_G ρ mi tgt L st h o1) (g2 : z_G ρ mi (pc + 3) L st h o2) : z_G ρ mi pc L (vi x :: st) h (if x < 0 then o1 else o2) := by
  refine z_ite (fun hc => z_pure (fun w H0 p l e R s m args below meth c Q H locs ls cells slots hC hl k => lv_if_lt hC.1 hC.2.1 d ht (fun _ => k ls hl) (fun hq => absurd hc hq)) g1) (fun hc => z_pure (fun w H0 p l e R s m args below meth c Q H locs ls cells slots hC hl k => lv_if_lt hC.1 hC.2.1 d ht (fun hq => absurd hq hc) (fun _ => k ls hl)) g2)
theorem z_if_ge {α : Type} {ρ : α → z_R} {mi : z_MI} {pc : Nat} {L : List (Nat × z_V)} {st : List z_V} {h : z_Hp} {o1 o2 : Option α} {x : Int32} {off : Int} {tgt : Nat} (d : decode mi.2.1 pc = .ok (.ifCond .ge off, 3)) (ht : (pc : Int) + off = (tgt : Int)) (g1 : z_G ρ mi tgt L st h o1) (g2 : z_G ρ mi (pc + 3) L st h o2) : z_G ρ mi pc L (vi x :: st) h (if 0 ≤ x then o1 else o2) := by
  refine z_ite (fun hc => z_pure (fun w H0 p l e R s m args below meth c Q H locs ls cells slots hC hl k => lv_if_ge hC.1 hC.2.1 d ht (fun _ => k ls hl) (fun hq => absurd hc hq)) g1) (fun hc => z_pure (fun w H0 p l e R s m args below meth c Q H locs ls cells slots hC hl k => lv_if_ge hC.1 hC.2.1 d ht (fun hq => absurd hq hc) (fun _ => k ls hl)) g2)
theorem z_if_gt {α : Type} {ρ : α → z_R} {mi : z_MI} {pc : Nat} {L : List (Nat × z_V)} {st : List z_V} {h : z_Hp} {o1 o2 : Option α} {x : Int32} {off : Int} {tgt : Nat} (d : decode mi.2.1 pc = .ok (.ifCond .gt off, 3)) (ht : (pc : Int) + off = (tgt : Int)) (g1 : z_G ρ mi tgt L st h o1) (g2 : z_G ρ mi (pc + 3) L st h o2) : z_G ρ mi pc L (vi x :: st) h (if 0 < x then o1 else o2) := by
  refine z_ite (fun hc => z_pure (fun w H0 p l e R s m args below meth c Q H locs ls cells slots hC hl k => lv_if_gt hC.1 hC.2.1 d ht (fun _ => k ls hl) (fun hq => absurd hc hq)) g1) (fun hc => z_pure (fun w H0 p l e R s m args below meth c Q H locs ls cells slots hC hl k => lv_if_gt hC.1 hC.2.1 d ht (fun hq => absurd hq hc) (fun _ => k ls hl)) g2)
theorem z_if_le {α : Type} {ρ : α → z_R} {mi : z_MI} {pc : Nat} {L : List (Nat × z_V)} {st : List z_V} {h : z_Hp} {o1 o2 : Option α} {x : Int32} {off : Int} {tgt : Nat} (d : decode mi.2.1 pc = .ok (.ifCond .le off, 3)) (ht : (pc : Int) + off = (tgt : Int)) (g1 : z_G ρ mi tgt L st h o1) (g2 : z_G ρ mi (pc + 3) L st h o2) : z_G ρ mi pc L (vi x :: st) h (if x ≤ 0 then o1 else o2) := by
  refine z_ite (fun hc => z_pure (fun w H0 p l e R s m args below meth c Q H locs ls cells slots hC hl k => lv_if_le hC.1 hC.2.1 d ht (fun _ => k ls hl) (fun hq => absurd hc hq)) g1) (fun hc => z_pure (fun w H0 p l e R s m args below meth c Q H locs ls cells slots hC hl k => lv_if_le hC.1 hC.2.1 d ht (fun hq => absurd hq hc) (fun _ => k ls hl)) g2)
theorem z_goto {α : Type} {ρ : α → z_R} {mi : z_MI} {pc : Nat} {L : List (Nat × z_V)} {st : List z_V} {h : z_Hp} {o : Option α} {off : Int} {tgt : Nat} (d : decode mi.2.1 pc = .ok (.goto off, 3)) (ht : (pc : Int) + off = (tgt : Int)) (g : z_G ρ mi tgt L st h o) : z_G ρ mi pc L st h o :=
  z_pure (fun w H0 p l e R s m args below meth c Q H locs ls cells slots hC hl k => lv_goto hC.1 hC.2.1 d ht (k ls hl)) g
theorem z_ifnull {α : Type} {ρ : α → z_R} {mi : z_MI} {pc : Nat} {L : List (Nat × z_V)} {st : List z_V} {h : z_Hp} {o1 : Option α} {x : Option Nat} {off : Int} {tgt : Nat} {k2 : Nat → Option α} (d : decode mi.2.1 pc = .ok (.ifnull off, 3)) (ht : (pc : Int) + off = (tgt : Int)) (g1 : x = none → z_G ρ mi tgt L st h o1) (g2 : ∀ a, x = some a → z_G ρ mi (pc + 3) L st h (k2 a)) : z_G ρ mi pc L (vr x :: st) h (nl x o1 k2) := by
  cases x with
  | none => exact z_pure (fun w H0 p l e R s m args below meth c Q H locs ls cells slots hC hl k => lv_ifnullN hC.1 hC.2.1 d ht (k ls hl)) (g1 rfl)
  | some a => exact z_pure (fun w H0 p l e R s m args below meth c Q H locs ls cells slots hC hl k => lv_ifnull hC.1 hC.2.1 d (k ls hl)) (g2 a rfl)
theorem z_ifnonnull {α : Type} {ρ : α → z_R} {mi : z_MI} {pc : Nat} {L : List (Nat × z_V)} {st : List z_V} {h : z_Hp} {o1 : Option α} {x : Option Nat} {off : Int} {tgt : Nat} {k2 : Nat → Option α} (d : decode mi.2.1 pc = .ok (.ifnonnull off, 3)) (ht : (pc : Int) + off = (tgt : Int)) (g1 : x = none → z_G ρ mi (pc + 3) L st h o1) (g2 : ∀ a, x = some a → z_G ρ mi tgt L st h (k2 a)) : z_G ρ mi pc L (vr x :: st) h (nl x o1 k2) := by
  cases x with
  | none => exact z_pure (fun w H0 p l e R s m args below meth c Q H locs ls cells slots hC hl k => lv_ifnonnullN hC.1 hC.2.1 d (k ls hl)) (g1 rfl)
  | some a => exact z_pure (fun w H0 p l e R s m args below meth c Q H locs ls cells slots hC hl k => lv_ifnonnull hC.1 hC.2.1 d ht (k ls hl)) (g2 a rfl)
theorem z_nn {α : Type} {ρ : α → z_R} {mi : z_MI} {pc : Nat} {L : List (Nat × z_V)} {st : List z_V} {h : z_Hp} {x : Option Nat} {k2 : Nat → Option α} (g2 : ∀ a, x = some a → z_G ρ mi pc L st h (k2 a)) : z_G ρ mi pc L st h (nn x k2) := by
  cases x with
  | none => exact z_none
  | some a => exact g2 a rfl
theorem z_tblIn {α : Type} {ρ : α → z_R} {mi : z_MI} {pc : Nat} {L : List (Nat × z_V)} {st : List z_V} {h : z_Hp} {o : Option α} {x : Int32} {dflt lo hi : Int} {offs : Array Int} {len : Nat} {off : Int} {tgt : Nat} (d : decode mi.2.1 pc = .ok (.tableswitch dflt lo hi offs, len)) (h1 : ¬ x.toInt < lo) (h2 : ¬ hi < x.toInt) (ho : offs[(x.toInt - lo).toNat]? = some off) (ht : (pc : Int) + off = (tgt : Int)) (g : z_G ρ mi tgt L st h o) : z_G ρ mi pc L (vi x :: st) h o :=
  z_pure (fun w H0 p l e R s m args below meth c Q H locs ls cells slots hC hl k => lv_tableIn hC.1 hC.2.1 d h1 h2 ho ht (k ls hl)) g
theorem z_tblOut {α : Type} {ρ : α → z_R} {mi : z_MI} {pc : Nat} {L : List (Nat × z_V)} {st : List z_V} {h : z_Hp} {o : Option α} {x : Int32} {dflt lo hi : Int} {offs : Array Int} {len : Nat} {tgt : Nat} (d : decode mi.2.1 pc = .ok (.tableswitch dflt lo hi offs, len)) (h1 : x.toInt < lo ∨ hi < x.toInt) (ht : (pc : Int) + dflt = (tgt : Int)) (g : z_G ρ mi tgt L st h o) : z_G ρ mi pc L (vi x :: st) h o :=
  z_pure (fun w H0 p l e R s m args below meth c Q H locs ls cells slots hC hl k => lv_tableOut hC.1 hC.2.1 d h1 ht (k ls hl)) g
theorem z_lookup {α : Type} {ρ : α → z_R} {mi : z_MI} {pc : Nat} {L : List (Nat × z_V)} {st : List z_V} {h : z_Hp} {o : Option α} {x : Int32} {dflt : Int} {ps : Array (Int × Int)} {len : Nat} {off : Int} {tgt : Nat} (d : decode mi.2.1 pc = .ok (.lookupswitch dflt ps, len)) (hp : (ps.toList.zip (ps.toList.drop 1)).all (fun (a, next) => a.1 < next.1) = true) (ho : Op.lookupswitch.offset ps.toList dflt x.toInt = off) (ht : (pc : Int) + off = (tgt : Int)) (g : z_G ρ mi tgt L st h o) : z_G ρ mi pc L (vi x :: st) h o :=
  z_pure (fun w H0 p l e R s m args below meth c Q H locs ls cells slots hC hl k => lv_lookup hC.1 hC.2.1 d hp ho ht (k ls hl)) g
theorem z_iret {mi : z_MI} {pc : Nat} {L : List (Nat × z_V)} {h : z_Hp} {x : Int32} {ty : FieldType} (d : decode mi.2.1 pc = .ok (.ireturn, 1)) (hr : mi.2.2.2.1 = some ty) (hn : narrow ty (.int x) = .int x) : z_G zi mi pc L [vi x] h (some (x, h)) := by
  intro r hf ho
  cases ho
  exact ⟨⟨Nat.le_refl _, Nat.le_refl _, z_Fr.refl _⟩, fun w H0 p l e R s m args below meth c Q c0 s0 hC h1 h2 hr' H locs ls cells slots hRel hlo hl e1 e2 => hr' pc ls H locs cells slots d ⟨ty, hr, hn⟩ hRel hlo e1 e2⟩
theorem z_lret {mi : z_MI} {pc : Nat} {L : List (Nat × z_V)} {h : z_Hp} {x : Int64} (d : decode mi.2.1 pc = .ok (.lreturn, 1)) (hr : mi.2.2.2.1 = some .long) : z_G zl mi pc L [vl x] h (some (x, h)) := by
  intro r hf ho
  cases ho
  exact ⟨⟨Nat.le_refl _, Nat.le_refl _, z_Fr.refl _⟩, fun w H0 p l e R s m args below meth c Q c0 s0 hC h1 h2 hr' H locs ls cells slots hRel hlo hl e1 e2 => hr' pc ls H locs cells slots d hr hRel hlo e1 e2⟩
theorem z_aret {mi : z_MI} {pc : Nat} {L : List (Nat × z_V)} {h : z_Hp} {x : Option Nat} {t : FieldType} (d : decode mi.2.1 pc = .ok (.areturn, 1)) (hr : mi.2.2.2.1 = some (.array t)) : z_G zr mi pc L [vr x] h (some (x, h)) := by
  intro r hf ho
  cases ho
  exact ⟨⟨Nat.le_refl _, Nat.le_refl _, z_Fr.refl _⟩, fun w H0 p l e R s m args below meth c Q c0 s0 hC h1 h2 hr' H locs ls cells slots hRel hlo hl e1 e2 => hr' pc ls H locs cells slots d ⟨t, hr⟩ hRel hlo e1 e2⟩
theorem z_vret {mi : z_MI} {pc : Nat} {L : List (Nat × z_V)} {h : z_Hp} (d : decode mi.2.1 pc = .ok (.return_, 1)) (hr : mi.2.2.2.1 = none) : z_G zv mi pc L [] h (some h) := by
  intro r hf ho
  cases ho
  exact ⟨⟨Nat.le_refl _, Nat.le_refl _, z_Fr.refl _⟩, fun w H0 p l e R s m args below meth c Q c0 s0 hC h1 h2 hr' H locs ls cells slots hRel hlo hl e1 e2 => hr' pc ls H locs cells slots d hr hRel hlo e1 e2⟩
