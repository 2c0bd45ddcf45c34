/-! ===== contracts out of walks; calls ===== -/
theorem z_AOA {t : FieldType} {u U : State} (hvm : u.vm.Alike U.vm) (h : (Cond.arrayOver (.array t)).before #[] u = true) : (Cond.arrayOver (.array t)).before #[] U = true := by
  obtain ⟨comp, c, k, h1, h2, h3, h4, h5⟩ := arrayOverA_spec h
  obtain ⟨k', hk', he⟩ := hvm.2.2 _ _ h3
  have hi : (U.vm.classes.findIdx? fun (x : Class) => match x.kind with | .array component _ => component == comp | _ => false) = some c := by
    rw [hvm.findIdx?_eq _ (fun _ => rfl)]; exact h2
  have hkind : k'.kind = .array comp (.array t) := by rw [he]; exact h4
  have f1 : U.vm.findClass (FieldType.array t).toString = some comp := by rw [hvm.findClass]; exact h1
  have f2 : U.vm.findClass ("[" ++ (FieldType.array t).toString) = some c := by rw [hvm.findClass]; exact h5
  unfold Cond.before Cond.holds
  simp only [Cond.value]
  rw [f1, Option.bind_some]
  refine (congrArg (fun o : Option Nat => (o.bind (fun c => (U.vm.classes[c]?).map fun (k : Class) => match k.kind with | .array _ ty => decide (ty = FieldType.array t) && decide (U.vm.findClass ("[" ++ (FieldType.array t).toString) = some c) | _ => false) == some true)) hi).trans ?_
  simp [hk', hkind, f2]
theorem z_K_core {w : z_M} {H0 : Heap} {u U : State} (hK : z_K w H0 u) (hvm : u.vm.Alike U.vm) (h5 : ∀ x ∈ z_nm, va_Nw (.methodLinkNest x.1 x.2.1 x.2.2.1 x.2.2.2) U) (h6 : ∀ x ∈ z_nf, va_Nw (.fieldLinkNest x.1 x.2.1 x.2.2.1 x.2.2.2.1 x.2.2.2.2.1 x.2.2.2.2.2) U) (h8 : va_Nw (.castable "[I" "java/lang/Cloneable") U) (h9 : va_Nw (.castable "[B" "java/lang/Cloneable") U) : z_K w H0 U := by
  obtain ⟨k1, k2, k3, k4, -, -, k7, -, -⟩ := hK
  refine ⟨fun c q hq => u_Kn_moved hvm (k1 c q hq), fun t a b => ?_, fun a ha => (k3 a ha).moved hvm, fun k hk => (k4 k hk).moved hvm, h5, h6, fun t a b => ?_, h8, h9⟩
  · obtain ⟨kA, comp, e1, e2, e3, e4⟩ := k2 t a b
    obtain ⟨k', hk', he⟩ := hvm.2.2 _ _ e1
    refine ⟨k', comp, hk', by rw [he]; exact e2, by rw [hvm.findClass]; exact e3, fun h => ?_⟩
    obtain ⟨e5, kc, e6⟩ := e4 h
    obtain ⟨kc', hkc', -⟩ := hvm.2.2 _ _ e6
    exact ⟨e5, kc', hkc'⟩
  · have h := k7 t a b
    rcases (show t = 23 ∨ t = 24 ∨ t = 25 ∨ t = 26 by omega) with rfl | rfl | rfl | rfl
    · exact z_AOA hvm h
    · exact z_AOA hvm h
    · exact va_AO.moved hvm h
    · exact va_AO.moved hvm h
theorem z_K_warm {w : z_M} {H0 : Heap} {s U : State} (hW : s.WarmedH U.vm) (hK : z_K w H0 s) : z_K w H0 U :=
  z_K_core hK hW.alike (fun x hx => va_Nw.warmM hW (hK.2.2.2.2.1 x hx)) (fun x hx => va_Nw.warmF hW (hK.2.2.2.2.2.1 x hx)) (va_Nw.warmC hW hK.2.2.2.2.2.2.2.1) (va_Nw.warmC hW hK.2.2.2.2.2.2.2.2)
theorem z_K_same {w : z_M} {H0 : Heap} {u U : State} (e : u.vm = U.vm) (hK : z_K w H0 u) : z_K w H0 U :=
  z_K_core hK (by rw [e]; exact Vm.Alike.refl _) (fun x hx => va_Nw.same rfl e (hK.2.2.2.2.1 x hx)) (fun x hx => va_Nw.same rfl e (hK.2.2.2.2.2.1 x hx)) (va_Nw.same rfl e hK.2.2.2.2.2.2.2.1) (va_Nw.same rfl e hK.2.2.2.2.2.2.2.2)
def z_ws (mi : z_MI) : List Cond := .code mi.1 mi.2.1 mi.2.2.1 mi.2.2.2.1 :: z_tb
def z_rm (mi : z_MI) (mc ms : Nat) : Room := { frames := mi.2.2.2.2.1, cells := mc, slots := ms, locals := mi.2.2.2.2.2 }
def z_Pc (w : z_M) (H0 : Heap) (avs : List z_V) (h : z_Hp) : Array Value → State → Prop := fun a U => a = (avs.map (z_cv w H0)).toArray ∧ z_Rel w H0 h U.heap ∧ z_K w H0 U
def z_Qc (w : z_M) (H0 : Heap) (r : Option z_V) (hf : z_Hp) : Array Value → State → Outcome → State → Prop := fun _ _ oc t => oc = .returned (r.map (z_cv w H0)) ∧ z_Rel w H0 hf t.heap
def z_Ct {α : Type} (ρ : α → z_R) (mi : z_MI) (avs : List z_V) (h : z_Hp) (o : Option α) : Prop :=
  ∀ (r : Option z_V) (hf : z_Hp), o.map ρ = some (r, hf) → (hZ h ≤ hZ hf ∧ hS h ≤ hS hf ∧ z_Fr h hf) ∧
    ∀ (l : Launch) (w : z_M) (H0 : Heap), Met l mi.1 (z_ws mi) (z_rm mi (hZ hf - hZ h) (hS hf - hS h)) (z_Pc w H0 avs h) (z_Qc w H0 r hf) (hZ hf - hZ h) (hS hf - hS h) (fun q => H0.size ≤ q)
def z_la : Nat → List z_V → List (Nat × z_V)
  | _, [] => []
  | i, v :: vs => (i, v) :: z_la (if z_is2 v then i + 2 else i + 1) vs
def z_ln : List z_V → Nat
  | [] => 0
  | v :: vs => (if z_is2 v then 2 else 1) + z_ln vs
theorem z_la_eq (w : z_M) (H0 : Heap) : ∀ (vs : List z_V) (i : Nat), lv_args i (vs.map (z_cv w H0)) = (z_la i vs).map fun q => (q.1, z_cv w H0 q.2)
  | [], _ => rfl
  | v :: vs, i => by
    show (i, z_cv w H0 v) :: lv_args (if (z_cv w H0 v).category = 2 then i + 2 else i + 1) (vs.map (z_cv w H0)) = (i, z_cv w H0 v) :: _
    rw [z_cat, z_la_eq w H0 vs]
    cases z_is2 v <;> rfl
theorem z_ln_eq (w : z_M) (H0 : Heap) : ∀ (vs : List z_V), (lg_sl (vs.map (z_cv w H0))).length = z_ln vs
  | [] => rfl
  | v :: vs => by
    have h := z_ln_eq w H0 vs
    show ((if (z_cv w H0 v).category = 2 then [Slot.val (z_cv w H0 v), .second] else [.val (z_cv w H0 v)]) ++ lg_sl (vs.map (z_cv w H0))).length = _
    rw [List.length_append, h, z_cat]
    cases hz : z_is2 v <;> simp [z_ln, hz]
theorem z_entry {α : Type} {ρ : α → z_R} {mi : z_MI} {avs : List z_V} {h : z_Hp} {o : Option α} (hp : plainName mi.1.cls = true) (hn : z_ln avs ≤ mi.2.2.1) (L : List (Nat × z_V)) (hL : z_la 0 avs = L) (g : z_G ρ mi 0 L [] h o) : z_Ct ρ mi avs h o := by
  intro r hf ho
  obtain ⟨g1, g2⟩ := g r hf ho
  refine ⟨g1, fun l w H0 => ?_⟩
  refine Met.ofW (cc := mi.2.1) (maxL := mi.2.2.1) (ret := mi.2.2.2.1) hp rfl ?_
  intro p e s m args below meth c s₁ B hml hv
  obtain ⟨rfl, hRel, hK⟩ := hv
  have hts := atoms_spec (ws := z_ws mi) B.pre
  have hl := lv_entry (avs.map (z_cv w H0)) (n := mi.2.2.1) (by rw [z_ln_eq]; exact hn)
  rw [lg_entry_eq]
  rw [z_la_eq, hL] at hl
  refine g2 w H0 p l e (z_rm mi (hZ hf - hZ h) (hS hf - hS h)) s m _ below meth c _ (hZ h) (hS h) ⟨B.exec, B.bytes, hml, findClass_of_methodNamed B.named, fun u hu => hts u (List.mem_cons_of_mem _ hu), hK, (name_of_methodNamed B.named B.method).1, Nat.le_refl _, Nat.le_refl _⟩ (by show hZ hf ≤ hZ h + (hZ hf - hZ h); omega) (by show hS hf ≤ hS h + (hS hf - hS h); omega) ?_ s.heap [] _ 0 0 hRel (fun q hq => by cases hq) hl rfl rfl
  intro pc ls H locs cells slots hd hk hR2 hlo e1 e2
  have hc : hZ hf - hZ h = cells := by omega
  have hs : hS hf - hS h = slots := by omega
  rw [hc, hs]
  have hret := B.returns
  have hlocks := B.notSynchronized
  rcases r with _ | x | x | x
  · exact W.vret B.exec B.bytes (hret.trans hk) (fun t ht hW => ⟨rfl, by rw [ht]; exact hR2⟩) hlo hd
  · obtain ⟨ty, k1, k2⟩ := hk
    exact W.zret B.exec B.bytes (hret.trans k1) k2 (fun t ht hW => ⟨rfl, by rw [ht]; exact hR2⟩) hlo hd
  · exact W.lret B.exec B.bytes (hret.trans hk) (fun t ht hW => ⟨rfl, by rw [ht]; exact hR2⟩) hlo hd
  · obtain ⟨t, k1⟩ := hk
    exact W.aret B.exec B.bytes (hret.trans k1) (Or.inr ⟨t, rfl⟩) (va_rf_or _) (fun t ht hW => ⟨rfl, by rw [ht]; exact hR2⟩) hlo hd
theorem z_blind {w : z_M} {H0 : Heap} {avs : List z_V} {h : z_Hp} : FrameBlind (z_Pc w H0 avs h) := by
  intro a U g mk q
  exact ⟨q.1, q.2.1, z_K_same (u := U) (U := U.calling g mk a) rfl q.2.2⟩
theorem z_run {p : Program} {l : Launch} {e : Env} {R : Room} {s : State} {m : MethodId} {args : Array Value} {below : List Frame} {meth : Method} {c : Code} {H : Heap} {locs : List Loc} {cells slots mc ms : Nat} {g : JFrame} {rest : List Value} {w : z_M} {H0 : Heap} {r : Option z_V} {hf : z_Hp} {As : Array Value} {Q : State → Prop}
    (hr : va_Run p l e R s m args below meth c H locs cells slots mc ms g rest (z_Qc w H0 r hf As) (fun q => H0.size ≤ q)) (hlo : ∀ q ∈ locs, H0.size ≤ q.base)
    (kk : ∀ (H1 : Heap) (locs1 : List Loc), z_Rel w H0 hf H1 → (∀ q ∈ locs1, H0.size ≤ q.base) → W p l e R s m args below meth c H1 locs1 (cells + mc) (slots + ms) Q { g with pc := g.pc + 3, stack := (r.map (z_cv w H0)).toList ++ rest }) : W p l e R s m args below meth c H locs cells slots Q g := by
  intro T hT X
  obtain ⟨v, st₀, t, T', L, h0, X', hL, e1, e2, ⟨hv, hq⟩, st⟩ := hr T hT X
  cases hv
  obtain ⟨t2, a1, b1⟩ := kk T'.heap (locs ++ L) (by rw [e1]; exact hq) (fun q hq => by
    rcases List.mem_append.mp hq with h | h
    · exact hlo q h
    · exact hL q h) T' rfl X'
  exact ⟨t2, st t2 a1, b1⟩
def z_ky (mi : z_MI) (n : Nat) : Prop := Cond.initialized mi.1.cls ∈ z_tb ∧ Cond.code mi.1 mi.2.1 mi.2.2.1 mi.2.2.2.1 ∈ z_tb ∧ mi.1.cls ≠ "java/lang/invoke/MethodHandle" ∧ mi.1.cls ≠ "java/lang/invoke/VarHandle" ∧ (parseMethodDescriptor mi.1.desc).map (fun d => d.parameters.length) = some n
theorem z_goodws {mi : z_MI} {n : Nat} (hk : z_ky mi n) : GoodIn z_tb (z_ws mi) := by
  intro u hu
  rcases List.mem_cons.mp hu with rfl | hu
  · exact z_good _ hk.2.1
  · exact z_good _ hu
def z_w8 (st : List z_V) : Prop := (st.map fun v => if z_is2 v then 2 else 1).sum ≤ 8
theorem z_w8_eq (w : z_M) (H0 : Heap) (st : List z_V) : ((st.map (z_cv w H0)).map fun v => v.category).sum = (st.map fun v => if z_is2 v then 2 else 1).sum := by
  rw [List.map_map]
  congr 1
  apply List.map_congr_left
  intro v _
  exact z_cat w H0 v
theorem z_stk (w : z_M) (H0 : Heap) (r : Option z_V) (st : List z_V) : (r.map (z_cv w H0)).toList ++ st.map (z_cv w H0) = (r.toList ++ st).map (z_cv w H0) := by
  cases r <;> rfl
/-- a call, whatever its kind -/
theorem z_call {α β : Type} {ρ : α → z_R} {σ : β → z_R} {mi mi' : z_MI} {pc : Nat} {L : List (Nat × z_V)} {S st avs : List z_V} {h : z_Hp} {oc : Option β} {k : β → Option α} (hct : z_Ct σ mi' avs h oc)
    (hrun : ∀ (w : z_M) (H0 : Heap) (p : Program) (l : Launch) (e : Env) (R : Room) (s : State) (m : MethodId) (args : Array Value) (below : List Frame) (meth : Method) (c : Code) (H : Heap) (locs : List Loc) (ls : Array Slot) (cells slots mc ms : Nat) (r : Option z_V) (hf : z_Hp), z_C mi w H0 p R s m args meth c → z_Rel w H0 h H → ls.size = mi.2.2.1 → cells + mc ≤ R.cells → slots + ms ≤ R.slots →
      Met l mi'.1 (z_ws mi') (z_rm mi' mc ms) (z_Pc w H0 avs h) (z_Qc w H0 r hf) mc ms (fun q => H0.size ≤ q) →
      va_Run p l e R s m args below meth c H locs cells slots mc ms (F0 m pc ls (S.map (z_cv w H0))) (st.map (z_cv w H0)) (z_Qc w H0 r hf (avs.map (z_cv w H0)).toArray) (fun q => H0.size ≤ q))
    (g : ∀ b : β, z_G ρ mi (pc + 3) L ((σ b).1.toList ++ st) (σ b).2 (k b)) : z_G ρ mi pc L S h (oc.bind k) := by
  intro r hf ho
  cases hoc : oc with
  | none => rw [hoc] at ho; simp at ho
  | some b =>
    rw [hoc] at ho
    have ho : (k b).map ρ = some (r, hf) := ho
    obtain ⟨g1, g2⟩ := g b r hf ho
    obtain ⟨c1, c2⟩ := hct (σ b).1 (σ b).2 (by rw [hoc]; rfl)
    refine ⟨⟨Nat.le_trans c1.1 g1.1, Nat.le_trans c1.2.1 g1.2.1, c1.2.2.trans g1.2.2⟩, ?_⟩
    intro w H0 p l e R s m args below meth c Q c0 s0 hC h1 h2 hr H locs ls cells slots hRel hlo hl e1 e2
    refine z_run (hrun w H0 p l e R s m args below meth c H locs ls cells slots (hZ (σ b).2 - hZ h) (hS (σ b).2 - hS h) (σ b).1 (σ b).2 hC hRel hl.1 (by omega) (by omega) (c2 l w H0)) hlo (fun H1 locs1 k1 k2 => ?_)
    have := g2 w H0 p l e R s m args below meth c Q c0 s0 hC h1 h2 hr H1 locs1 ls (cells + (hZ (σ b).2 - hZ h)) (slots + (hS (σ b).2 - hS h)) k1 k2 hl (by omega) (by omega)
    rw [← z_stk] at this
    exact this
theorem z_pre {w : z_M} {H0 H : Heap} {s : State} {avs : List z_V} {h : z_Hp} (hRel : z_Rel w H0 h H) (hK : z_K w H0 s) : PreS s H (z_Pc w H0 avs h) (avs.map (z_cv w H0)) :=
  ⟨z_blind, fun U hU hW => ⟨rfl, by rw [hU]; exact hRel, z_K_warm hW hK⟩⟩
theorem z_rev (w : z_M) (H0 : Heap) (avs st : List z_V) : (avs.reverse ++ st).map (z_cv w H0) = (avs.map (z_cv w H0)).reverse ++ st.map (z_cv w H0) := by simp
def z_rmok (mi mi' : z_MI) : Prop := mi'.2.2.2.2.1 + 1 ≤ mi.2.2.2.2.1 ∧ 8 + (mi'.2.2.1 + 11) + mi'.2.2.2.2.2 ≤ mi.2.2.2.2.2
theorem z_callS {α β : Type} {ρ : α → z_R} {σ : β → z_R} {mi mi' : z_MI} {pc idx : Nat} {L : List (Nat × z_V)} {S st avs : List z_V} {h : z_Hp} {oc : Option β} {k : β → Option α} (hS : avs.reverse ++ st = S) (hct : z_Ct σ mi' avs h oc) (hk : z_ky mi' avs.length) (hst : Cond.static mi'.1 ∈ z_tb) (hln : Cond.methodLink mi.1.cls idx mi'.1 ∈ z_tb) (hrm : z_rmok mi mi') (hw : z_w8 st) (d : decode mi.2.1 pc = .ok (.invokestatic idx, 3))
    (g : ∀ b : β, z_G ρ mi (pc + 3) L ((σ b).1.toList ++ st) (σ b).2 (k b)) : z_G ρ mi pc L S h (oc.bind k) := by
  subst hS
  refine z_call hct (fun w H0 p l e R s m args below meth c H locs ls cells slots mc ms r hf hC hRel hls hc1 hc2 hM => ?_) g
  obtain ⟨hx, hb, hml, hown, hts, hK, hnm, hf1, hf2⟩ := hC
  exact va_runS (As := avs.map (z_cv w H0)) (n := avs.length) ⟨hx, hb, hml, hown, hts⟩ hM ⟨callB_of avs.length hts (z_goodws hk) rfl rfl rfl (hts _ hk.1) (hts _ hln) hk.2.2 ⟨Nat.le_trans hrm.1 hf1, Nat.le_trans hrm.2 hf2⟩, hts _ hst⟩ (z_pre hRel hK) rfl (by rw [List.length_map]) hls (z_rev w H0 avs st) (lv_room (by rw [z_w8_eq]; exact hw)) d ⟨hc1, hc2⟩
theorem z_callSN {α β : Type} {ρ : α → z_R} {σ : β → z_R} {mi mi' : z_MI} {pc idx : Nat} {host : String} {L : List (Nat × z_V)} {S st avs : List z_V} {h : z_Hp} {oc : Option β} {k : β → Option α} (hS : avs.reverse ++ st = S) (hct : z_Ct σ mi' avs h oc) (hk : z_ky mi' avs.length) (hst : Cond.static mi'.1 ∈ z_tb) (hln : (mi.1.cls, idx, mi'.1, host) ∈ z_nm) (hrm : z_rmok mi mi') (hw : z_w8 st) (d : decode mi.2.1 pc = .ok (.invokestatic idx, 3))
    (g : ∀ b : β, z_G ρ mi (pc + 3) L ((σ b).1.toList ++ st) (σ b).2 (k b)) : z_G ρ mi pc L S h (oc.bind k) := by
  subst hS
  refine z_call hct (fun w H0 p l e R s m args below meth c H locs ls cells slots mc ms r hf hC hRel hls hc1 hc2 hM => ?_) g
  obtain ⟨hx, hb, hml, hown, hts, hK, hnm, hf1, hf2⟩ := hC
  exact va_runSN (As := avs.map (z_cv w H0)) (n := avs.length) ⟨hx, hb, hml, hown, hts⟩ hM ⟨va_cnB avs.length hts (z_goodws hk) rfl rfl rfl (hK.2.2.2.2.1 _ hln) (hts _ hk.1) hk.2.2 ⟨Nat.le_trans hrm.1 hf1, Nat.le_trans hrm.2 hf2⟩, hts _ hst, trivial⟩ (z_pre hRel hK) rfl (by rw [List.length_map]) hls (z_rev w H0 avs st) (lv_room (by rw [z_w8_eq]; exact hw)) d ⟨hc1, hc2⟩
theorem z_callI {α β : Type} {ρ : α → z_R} {σ : β → z_R} {mi mi' : z_MI} {pc idx a : Nat} {L : List (Nat × z_V)} {S st avs : List z_V} {h : z_Hp} {oc : Option β} {k : β → Option α} (hS : avs.reverse ++ (vr (some a) :: st) = S) (hct : z_Ct σ mi' (vr (some a) :: avs) h oc) (hk : z_ky mi' avs.length) (hnone : mi'.2.2.2.1 = none) (hini : mi'.1.name = "<init>") (hst : Cond.instanceMethod mi'.1 ∈ z_tb) (hln : Cond.methodLink mi.1.cls idx mi'.1 ∈ z_tb) (hrm : z_rmok mi mi') (hw : z_w8 st) (d : decode mi.2.1 pc = .ok (.invokespecial idx, 3))
    (g : ∀ b : β, z_G ρ mi (pc + 3) L ((σ b).1.toList ++ st) (σ b).2 (k b)) : z_G ρ mi pc L S h (oc.bind k) := by
  subst hS
  refine z_call hct (fun w H0 p l e R s m args below meth c H locs ls cells slots mc ms r hf hC hRel hls hc1 hc2 hM => ?_) g
  obtain ⟨hx, hb, hml, hown, hts, hK, hnm, hf1, hf2⟩ := hC
  exact va_runI (b := z_ad w H0 a) (As := avs.map (z_cv w H0)) (n := avs.length) (bytes := mi'.2.1) (maxL := mi'.2.2.1) ⟨hx, hb, hml, hown, hts⟩ hM ⟨callB_of avs.length hts (z_goodws hk) (by rw [← hnone]; rfl) rfl rfl (hts _ hk.1) (hts _ hln) hk.2.2 ⟨Nat.le_trans hrm.1 hf1, Nat.le_trans hrm.2 hf2⟩, hini, hts _ hst⟩ (z_pre (avs := vr (some a) :: avs) hRel hK) rfl (by rw [List.length_map]) hls (z_rev w H0 avs (vr (some a) :: st)) (lv_room (by rw [z_w8_eq]; exact hw)) d ⟨hc1, hc2⟩
theorem z_callIN {α β : Type} {ρ : α → z_R} {σ : β → z_R} {mi mi' : z_MI} {pc idx a : Nat} {host : String} {L : List (Nat × z_V)} {S st avs : List z_V} {h : z_Hp} {oc : Option β} {k : β → Option α} (hS : avs.reverse ++ (vr (some a) :: st) = S) (hct : z_Ct σ mi' (vr (some a) :: avs) h oc) (hk : z_ky mi' avs.length) (hnone : mi'.2.2.2.1 = none) (hini : mi'.1.name = "<init>") (hst : Cond.instanceMethod mi'.1 ∈ z_tb) (hln : (mi.1.cls, idx, mi'.1, host) ∈ z_nm) (hrm : z_rmok mi mi') (hw : z_w8 st) (d : decode mi.2.1 pc = .ok (.invokespecial idx, 3))
    (g : ∀ b : β, z_G ρ mi (pc + 3) L ((σ b).1.toList ++ st) (σ b).2 (k b)) : z_G ρ mi pc L S h (oc.bind k) := by
  subst hS
  refine z_call hct (fun w H0 p l e R s m args below meth c H locs ls cells slots mc ms r hf hC hRel hls hc1 hc2 hM => ?_) g
  obtain ⟨hx, hb, hml, hown, hts, hK, hnm, hf1, hf2⟩ := hC
  exact va_runIN (b := z_ad w H0 a) (As := avs.map (z_cv w H0)) (n := avs.length) (bytes := mi'.2.1) (maxL := mi'.2.2.1) ⟨hx, hb, hml, hown, hts⟩ hM ⟨va_cnB avs.length hts (z_goodws hk) (by rw [← hnone]; rfl) rfl rfl (hK.2.2.2.2.1 _ hln) (hts _ hk.1) hk.2.2 ⟨Nat.le_trans hrm.1 hf1, Nat.le_trans hrm.2 hf2⟩, hini, hts _ hst⟩ (z_pre (avs := vr (some a) :: avs) hRel hK) rfl (by rw [List.length_map]) hls (z_rev w H0 avs (vr (some a) :: st)) (lv_room (by rw [z_w8_eq]; exact hw)) d ⟨hc1, hc2⟩
theorem z_callV {α β : Type} {ρ : α → z_R} {σ : β → z_R} {mi mi' : z_MI} {pc idx a t : Nat} {q : vw_C} {L : List (Nat × z_V)} {S st avs : List z_V} {h : z_Hp} {oc : Option β} {k : β → Option α} (hS : avs.reverse ++ (vr (some a) :: st) = S) (hq : vwCl[t]? = some q) (hqc : mi'.1.cls = q.1) (hct : z_Ct σ mi' (vr (some a) :: avs) h oc) (hk : z_ky mi' avs.length) (hst : Cond.instanceMethod mi'.1 ∈ z_tb) (hsel : Cond.selects mi'.1.cls mi'.1 mi'.1 ∈ z_tb) (hln : Cond.methodLink mi.1.cls idx mi'.1 ∈ z_tb) (hrm : z_rmok mi mi') (hw : z_w8 st) (d : decode mi.2.1 pc = .ok (.invokevirtual idx, 3))
    (g : ∀ b : β, z_G ρ mi (pc + 3) L ((σ b).1.toList ++ st) (σ b).2 (k b)) : z_G ρ mi pc L S h (if hT h a = t then oc.bind k else none) := by
  refine z_ite (fun ht => ?_) (fun _ => z_none)
  subst hS
  refine z_call hct (fun w H0 p l e R s m args below meth c H locs ls cells slots mc ms r hf hC hRel hls hc1 hc2 hM => ?_) g
  obtain ⟨hx, hb, hml, hown, hts, hK, hnm, hf1, hf2⟩ := hC
  obtain ⟨-, -, -, cell, q1, q2, q3, -⟩ := z_obj hRel ht hq
  have hpre := z_pre (avs := vr (some a) :: avs) hRel hK
  exact va_runV (C := mi'.1.cls) (b := z_ad w H0 a) (As := avs.map (z_cv w H0)) (n := avs.length) ⟨hx, hb, hml, hown, hts⟩ hM ⟨callB_of avs.length hts (z_goodws hk) rfl rfl rfl (hts _ hk.1) (hts _ hln) hk.2.2 ⟨Nat.le_trans hrm.1 hf1, Nat.le_trans hrm.2 hf2⟩, hts _ hst, hts _ hsel⟩ ⟨hpre.1, ⟨cell, q1, by rw [q3]; rfl, by rw [q2, hqc]; exact (hK.1 t q hq).2.1⟩, hpre.2⟩ rfl (by rw [List.length_map]) hls (z_rev w H0 avs (vr (some a) :: st)) (lv_room (by rw [z_w8_eq]; exact hw)) d ⟨hc1, hc2⟩
/-! results by their kinds -/
def bI {α : Type} (o : Option (Int32 × z_Hp)) (k : Int32 → z_Hp → Option α) : Option α := o.bind fun q => k q.1 q.2
def bL {α : Type} (o : Option (Int64 × z_Hp)) (k : Int64 → z_Hp → Option α) : Option α := o.bind fun q => k q.1 q.2
def bR {α : Type} (o : Option (Option Nat × z_Hp)) (k : Option Nat → z_Hp → Option α) : Option α := o.bind fun q => k q.1 q.2
def bV {α : Type} (o : Option z_Hp) (k : z_Hp → Option α) : Option α := o.bind k
theorem bI_some {α : Type} (x : Int32) (h : z_Hp) (k : Int32 → z_Hp → Option α) : bI (some (x, h)) k = k x h := rfl
theorem bL_some {α : Type} (x : Int64) (h : z_Hp) (k : Int64 → z_Hp → Option α) : bL (some (x, h)) k = k x h := rfl
theorem bR_some {α : Type} (x : Option Nat) (h : z_Hp) (k : Option Nat → z_Hp → Option α) : bR (some (x, h)) k = k x h := rfl
theorem bV_some {α : Type} (h : z_Hp) (k : z_Hp → Option α) : bV (some h) k = k h := rfl
/-! ===== Object's constructor, copies, clones ===== -/
theorem z_objinit {α : Type} {ρ : α → z_R} {mi : z_MI} {pc idx : Nat} {L : List (Nat × z_V)} {st : List z_V} {h : z_Hp} {o : Option α} {a : Nat} (hln : Cond.methodLink mi.1.cls idx Lib.objectInit ∈ z_tb) (hin : Cond.instanceMethod Lib.objectInit ∈ z_tb) (hcd : Cond.code Lib.objectInit ⟨#[0xb1]⟩ 1 none ∈ z_tb) (hf : 1 ≤ mi.2.2.2.2.1) (hl2 : 20 ≤ mi.2.2.2.2.2) (hw : z_w8 st) (d : decode mi.2.1 pc = .ok (.invokespecial idx, 3))
    (g : z_G ρ mi (pc + 3) L st h o) : z_G ρ mi pc L (vr (some a) :: st) h o := by
  refine z_pure (fun w H0 p l e R s m args below meth c Q H locs ls cells slots hC hl k => ?_) g
  obtain ⟨hx, hb, hml, hown, hts, hK, hnm, hf1, hf2⟩ := hC
  refine W.objInit hx hb hown (hts _ hln) (hts _ hin) (hts _ hcd) rfl (hl.1.trans hml.symm) (a := z_ad w H0 a) rfl d (Nat.le_trans hf hf1) ?_ (k ls hl)
  have h1 := lv_room (m := m) (pc := pc) (ls := ls) (rest := (vr (some a) :: st).map (z_cv w H0)) (st := st.map (z_cv w H0)) (by rw [z_w8_eq]; exact hw)
  exact Nat.le_trans (Nat.add_le_add_right h1 12) (Nat.le_trans hl2 hf2)
theorem z_arraycopy {α : Type} {ρ : α → z_R} {mi : z_MI} {pc idx : Nat} {L : List (Nat × z_V)} {st : List z_V} {h : z_Hp} {o : Option α} {a b : Nat} {sp dp n : Int32} (hln : Cond.methodLink mi.1.cls idx arraycopyName ∈ z_tb) (hna : Cond.native arraycopyName ∈ z_tb) (hsta : Cond.static arraycopyName ∈ z_tb) (hini : Cond.initialized "java/lang/System" ∈ z_tb) (hf : 1 ≤ mi.2.2.2.2.1) (hl2 : 30 ≤ mi.2.2.2.2.2) (hw : z_w8 st) (d : decode mi.2.1 pc = .ok (.invokestatic idx, 3))
    (g : z_G ρ mi (pc + 3) L st (cpI h a (ix sp) b (ix dp) (ix n)) o) : z_G ρ mi pc L (vi n :: vi dp :: vr (some b) :: vi sp :: vr (some a) :: st) h (if hT h a = 20 ∧ hT h b = 20 ∧ ¬ sp < 0 ∧ ¬ dp < 0 ∧ ¬ n < 0 ∧ ix sp + ix n ≤ hN h a ∧ ix dp + ix n ≤ hN h b then o else none) := by
  refine z_ite (fun hc => ?_) (fun _ => z_none)
  obtain ⟨h1, h2, c1, c2, c3, c4, c5⟩ := hc
  have c4' : sp.toNatClampNeg + n.toNatClampNeg ≤ hN h a := c4
  have c5' : dp.toNatClampNeg + n.toNatClampNeg ≤ hN h b := c5
  refine z_write (h' := cpI h a (ix sp) b (ix dp) (ix n)) rfl rfl (z_Fr.gC (by omega)) (fun w H0 p l e R s m args below meth c Q H locs ls cells slots hC hRel hls hlo kk => ?_) g
  obtain ⟨hx, hb, hml, hown, hts, hK, hnm, hf1, hf2⟩ := hC
  obtain ⟨a5, a6, ca, -⟩ := z_arr (t := 20) hRel h1 (by omega) (by omega)
  obtain ⟨b5, b6, cb, -⟩ := z_arr (t := 20) hRel h2 (by omega) (by omega)
  have hbase : H0.size ≤ z_ad w H0 b := by rw [z_ad5 b5]; omega
  have nn : ∀ z : Int32, ¬ z < 0 → z.toInt = (z.toNatClampNeg : Int) := by
    intro z hz
    have hz0 : (0 : Int) ≤ z.toInt := by
      have := Int32.not_lt.mp hz
      simpa using Int32.le_iff_toInt_le.mp this
    show z.toInt = ((z.toInt.toNat : Nat) : Int)
    omega
  obtain ⟨kA, comp, k1, k2, -⟩ := hK.2.1 20 (by omega) (by omega)
  intro T hT X
  obtain ⟨vm', X', step⟩ := X.arraycopy hx hown (hts _ hln) (hts _ hna) (hts _ hsta) (hts _ hini) (src := z_ad w H0 a) (dst := z_ad w H0 b) (cs := arrV (w.2.2.1 20) (hN h a) (fun j => .int (hI h a j))) (cd := arrV (w.2.2.1 20) (hN h b) (fun j => .int (hI h b j))) (srcPos := sp) (destPos := dp) (n := n) (by rw [hT]; exact ca) (by rw [hT]; exact cb)
    (fun _ h => by cases h) (fun _ h => by cases h) (fun h => by cases h) (fun h => by cases h) k1 k1 k2 k2 (by simp [z_el, refKind]) c1 c2 c3
    (by rw [nn sp c1, nn n c3, arrV_size]; omega)
    (by rw [nn dp c2, nn n c3, arrV_size]; omega)
    (fun vm₁ _ i hi => by
      have e : (arrV (w.2.2.1 20) (hN h a) (fun j => Value.int (hI h a j))).slots.getD (sp.toNatClampNeg + i) .null = .int (hI h a (sp.toNatClampNeg + i)) := by
        have hlt : sp.toNatClampNeg + i < hN h a := Nat.lt_of_lt_of_le (Nat.add_lt_add_left hi _) c4
        rw [Array.getD_eq_getD_getElem?, arrV_read _ _ hlt]
        rfl
      refine ⟨?_, ?_⟩
      · rw [e]
        rfl
      · rw [e]
        exact trivial)
    (g := F0 m pc ls ((vi n :: vi dp :: vr (some b) :: vi sp :: vr (some a) :: st).map (z_cv w H0))) rfl (by show ls.size = c.maxLocals; rw [hls, hml]) (rest := st.map (z_cv w H0)) rfl (by rw [hb]; exact d) (Nat.le_trans hf hf1) (by
      have h3 : ((st.map (z_cv w H0)).map fun v => v.category).sum ≤ 8 := by rw [z_w8_eq]; exact hw
      have h4 : nativeFrameWords "java/lang/System" "arraycopy" 5 = 7 := by decide +kernel
      have h5 := Nat.le_trans hl2 hf2
      show 2 * 0 + _ + _ ≤ _
      omega)
  have e1 : copied (arrV (w.2.2.1 20) (hN h a) (fun j => Value.int (hI h a j))) (arrV (w.2.2.1 20) (hN h b) (fun j => Value.int (hI h b j))) sp dp n = arrV (w.2.2.1 20) (hN h b) (fun j => .int (va_cpy (hI h a) (hI h b) (ix sp) (ix dp) (ix n) j)) := va_copied (fun z => .int z) _ _ (hI h a) (hI h b) c4
  rw [e1] at X' step
  have hl : z_ad w H0 b < H.size := (Array.getElem?_eq_some_iff.mp cb).1
  have hheap : ((T.setVm vm').setCell (z_ad w H0 b) (arrV (w.2.2.1 20) (hN h b) (fun j => .int (va_cpy (hI h a) (hI h b) (ix sp) (ix dp) (ix n) j)))).heap = H.setIfInBounds (z_ad w H0 b) (arrV (w.2.2.1 20) (hN h b) (fun j => .int (va_cpy (hI h a) (hI h b) (ix sp) (ix dp) (ix n) j))) := by rw [← hT]; rfl
  have oq : ∀ q : Nat, q ≠ z_ad w H0 b → (H.setIfInBounds (z_ad w H0 b) (arrV (w.2.2.1 20) (hN h b) (fun j => Value.int (va_cpy (hI h a) (hI h b) (ix sp) (ix dp) (ix n) j))))[q]? = H[q]? := fun q hq => by simp [Array.getElem?_setIfInBounds, Ne.symm hq]
  have hr : z_Rel w H0 (cpI h a (ix sp) b (ix dp) (ix n)) (H.setIfInBounds (z_ad w H0 b) (arrV (w.2.2.1 20) (hN h b) (fun j => .int (va_cpy (hI h a) (hI h b) (ix sp) (ix dp) (ix n) j)))) := by
    refine z_upd hRel b5 rfl (fun x => ⟨rfl, rfl⟩) (fun x hx j => ⟨by rw [hI_cp, if_neg hx], rfl, rfl⟩) (by simp) oq (Or.inr ⟨by rw [hT_cp, h2]; omega, by rw [hT_cp, h2]; omega, ?_, fun hb => by rw [hT_cp, h2] at hb; omega⟩)
    rw [hT_cp, hN_cp, h2]
    have e2 : (z_sv w H0 (z_el 20) (cpI h a (ix sp) b (ix dp) (ix n)) b) = fun j => Value.int (va_cpy (hI h a) (hI h b) (ix sp) (ix dp) (ix n) j) := by
      funext j
      show Value.int (hI (cpI h a (ix sp) b (ix dp) (ix n)) b j) = _
      rw [hI_cp, if_pos rfl]
    rw [e2]
    simp [Array.getElem?_setIfInBounds, hl]
  obtain ⟨t, a1, b1⟩ := kk _ _ hr (fun q hq => by
      rcases List.mem_append.mp hq with h | h
      · exact hlo q h
      · obtain ⟨z, -, hz⟩ := List.mem_map.mp h
        rw [← hz]
        exact hbase) _ hheap X'
  exact ⟨t, step t a1, b1⟩
def z_cn2 (t : Nat) : String := if t = 20 then "[I" else "[B"
/-- a cell like another one -/
def cl_ (h : z_Hp) (a : Nat) : z_Hp := (fun b j => if b = hZ h then h.1 a j else h.1 b j, fun b j => if b = hZ h then 0 else h.2.1 b j, fun b j => if b = hZ h then none else h.2.2.1 b j, fun b => if b = hZ h then h.2.2.2.1 a else h.2.2.2.1 b, hZ h + 1, hS h + hN h a)
section ClRows
variable (h : z_Hp) (a b j : Nat)
theorem hI_cl : hI (cl_ h a) b j = if b = hZ h then hI h a j else hI h b j := rfl
theorem hJ_cl : hJ (cl_ h a) b j = if b = hZ h then 0 else hJ h b j := rfl
theorem hR_cl : hR (cl_ h a) b j = if b = hZ h then none else hR h b j := rfl
theorem hT_cl : hT (cl_ h a) b = if b = hZ h then hT h a else hT h b := by
  show (if b = hZ h then h.2.2.2.1 a else h.2.2.2.1 b).1 = _
  split <;> rfl
theorem hN_cl : hN (cl_ h a) b = if b = hZ h then hN h a else hN h b := by
  show (if b = hZ h then h.2.2.2.1 a else h.2.2.2.1 b).2 = _
  split <;> rfl
theorem hZ_cl : hZ (cl_ h a) = hZ h + 1 := rfl
theorem hS_cl : hS (cl_ h a) = hS h + hN h a := rfl
end ClRows
theorem z_pushcl {w : z_M} {H0 H H1 : Heap} {h : z_Hp} {a : Nat} (hRl : z_Rel w H0 h H) (hs : H1.size = H.size + 1) (ho : ∀ q, q < H.size → H1[q]? = H[q]?) (ht : hT h a ≠ 99) (hc : z_cell w H0 (cl_ h a) (hZ h) H1) : z_Rel w H0 (cl_ h a) H1 := by
  obtain ⟨r1, r2, r3, r4, r5, r6⟩ := hRl
  refine ⟨by rw [hZ_cl]; omega, by rw [hZ_cl, hs]; omega, fun q hq => ?_, fun b hb => ?_, fun b hb => ?_, fun b h5 h6 => ?_⟩
  · rw [ho q (by omega)]
    exact r3 q hq
  · rw [hT_cl, hN_cl, if_neg (by omega), if_neg (by omega)]
    refine ⟨(r4 b hb).1, (r4 b hb).2.1, fun j => ?_⟩
    rw [hI_cl, if_neg (by omega)]
    exact (r4 b hb).2.2 j
  · rw [hZ_cl] at hb
    rw [hT_cl, if_neg (by omega)]
    exact r5 b (by omega)
  · rw [hZ_cl] at h6
    by_cases hb : b = hZ h
    · rw [hb]; exact hc
    · have h7 : b < hZ h := by omega
      exact z_cell_congr (r6 b h5 h7) (by rw [hT_cl, if_neg hb]) (by rw [hN_cl, if_neg hb]) (fun j => ⟨by rw [hI_cl, if_neg hb], by rw [hJ_cl, if_neg hb], by rw [hR_cl, if_neg hb]⟩) (ho _ (by rw [z_ad5 h5]; omega))
theorem z_clone {α : Type} {ρ : α → z_R} {mi : z_MI} {pc idx : Nat} {L : List (Nat × z_V)} {st : List z_V} {h : z_Hp} {o : Option α} {a : Nat} (t : Nat) (ht : t = 20 ∨ t = 21)
    (hln : Cond.methodLink mi.1.cls idx ⟨z_cn2 t, "clone", "()Ljava/lang/Object;"⟩ ∈ z_tb) (hsa : Cond.sameMethod (z_cn2 t) "java/lang/Object" "clone" "()Ljava/lang/Object;" ∈ z_tb) (hna : Cond.native ⟨"java/lang/Object", "clone", "()Ljava/lang/Object;"⟩ ∈ z_tb) (hin : Cond.instanceMethod ⟨"java/lang/Object", "clone", "()Ljava/lang/Object;"⟩ ∈ z_tb)
    (hse : Cond.selects (z_cn2 t) ⟨z_cn2 t, "clone", "()Ljava/lang/Object;"⟩ ⟨"java/lang/Object", "clone", "()Ljava/lang/Object;"⟩ ∈ z_tb) (hf : 1 ≤ mi.2.2.2.2.1) (hl2 : 22 ≤ mi.2.2.2.2.2) (hw : z_w8 st) (d : decode mi.2.1 pc = .ok (.invokevirtual idx, 3))
    (g : z_G ρ mi (pc + 3) L (vr (some (hZ h)) :: st) (cl_ h a) o) : z_G ρ mi pc L (vr (some a) :: st) h (if hT h a = t then o else none) := by
  refine z_ite (fun h1 => ?_) (fun _ => z_none)
  refine z_make (h' := cl_ h a) (n := hN h a) rfl rfl (z_Fr.mk rfl (fun b hb => ⟨by rw [hT_cl, if_neg hb], by rw [hN_cl, if_neg hb], fun j => by rw [hI_cl, if_neg hb]⟩)) (fun w H0 p l e R s m args below meth c Q H locs ls cells slots hC hRel hls hcc hss kk => ?_) g
  obtain ⟨hx, hb, hml, hown, hts, hK, hnm, hf1, hf2⟩ := hC
  obtain ⟨a5, a6, ca, hfit⟩ := z_arr hRel h1 (by omega) (by omega)
  obtain ⟨kA, comp, k1, k2, k3, -⟩ := hK.2.1 t (by omega) (by omega)
  have hnm2 : s.vm.findClass (z_cn2 t) = some (w.2.2.1 t) := by
    have e : "[" ++ (z_el t).toString = z_cn2 t := by rcases ht with rfl | rfl <;> decide +kernel
    rw [← e]; exact k3
  have hcl : va_Nw (.castable (z_cn2 t) "java/lang/Cloneable") s := by
    rcases ht with rfl | rfl
    · exact hK.2.2.2.2.2.2.2.1
    · exact hK.2.2.2.2.2.2.2.2
  obtain ⟨c0, t0', f1, f2, f3⟩ := Cond.castable_spec (va_Nw.use (A := args) rfl hcl)
  cases hnm2.symm.trans f1
  intro T hTh X
  have hcellT : T.heap[z_ad w H0 a]? = some (arrV (w.2.2.1 t) (hN h a) (z_sv w H0 (z_el t) h a)) := by rw [hTh]; exact ca
  obtain ⟨kS, hkS, heS⟩ := X.warmed.alike.2.2 _ _ k1
  obtain ⟨vm', X', st'⟩ := X.cloneArray hx hown (hts _ hln) (hts _ hsa) (hts _ hna) (hts _ hin) (hts _ hse) (a := z_ad w H0 a) (cell := arrV (w.2.2.1 t) (hN h a) (z_sv w H0 (z_el t) h a)) hcellT (fun k h => by cases h) (fun h => by cases h) hnm2 f2 f3
    (fun i v hv => by
      have hk' : T.vm.classes[w.2.2.1 t]? = some kS := hkS
      have hki : kS.kind = .array comp (z_el t) := by rw [heS]; exact k2
      have hv2 : fits (z_el t) v = true := by
        refine va_fit (fun j hj => ?_) i v hv
        rcases ht with rfl | rfl
        · rfl
        · exact hfit rfl j
      have hce : (arrV (w.2.2.1 t) (hN h a) (z_sv w H0 (z_el t) h a)).cls = w.2.2.1 t := rfl
      simpa [State.fitsSlot, State.slotType?, hce, hk', hki] using hv2)
    (g := F0 m pc ls ((vr (some a) :: st).map (z_cv w H0))) rfl (by show ls.size = c.maxLocals; rw [hls, hml]) rfl (by rw [hb]; exact d) (Nat.le_trans hf hf1) (by
      have h3 : ((st.map (z_cv w H0)).map fun v => v.category).sum ≤ 8 := by rw [z_w8_eq]; exact hw
      have h5 := Nat.le_trans hl2 hf2
      show 2 * 0 + _ + 14 ≤ _
      omega) hcc (by rw [arrV_size]; exact hss) (hloader := Vm.clonesLoader_of_array k1 k2)
  have hcellE : ({ cls := (arrV (w.2.2.1 t) (hN h a) (z_sv w H0 (z_el t) h a)).cls, slots := (arrV (w.2.2.1 t) (hN h a) (z_sv w H0 (z_el t) h a)).slots } : Cell) = arrV (w.2.2.1 t) (hN h a) (z_sv w H0 (z_el t) h a) := rfl
  rw [hcellE, arrV_size] at X'
  have hz : z_ad w H0 (hZ h) = H.size := by
    have := hRel.2.1
    have h5 := hRel.1
    rw [z_ad5 hRel.1]; omega
  have hr : z_Rel w H0 (cl_ h a) (H.push (arrV (w.2.2.1 t) (hN h a) (z_sv w H0 (z_el t) h a))) := by
    refine z_pushcl hRel (by rw [Array.size_push]) (fun q hq => by rw [Array.getElem?_push, if_neg (Nat.ne_of_lt hq)]) (by omega) (Or.inr ⟨by rw [hT_cl, if_pos rfl]; omega, by rw [hT_cl, if_pos rfl]; omega, ?_, fun hb j => ?_⟩)
    · rw [hT_cl, if_pos rfl, hN_cl, if_pos rfl, hz, Array.getElem?_push_size, h1]
      congr 2
      funext j
      rcases ht with rfl | rfl
      · show _ = Value.int (hI (cl_ h a) (hZ h) j)
        rw [hI_cl, if_pos rfl]; rfl
      · show _ = Value.int (hI (cl_ h a) (hZ h) j)
        rw [hI_cl, if_pos rfl]; rfl
    · rw [hI_cl, if_pos rfl]
      rw [hT_cl, if_pos rfl] at hb
      exact hfit (by omega) j
  obtain ⟨t2, b1, b2⟩ := kk _ hr ((T.setVm vm').pushCell (arrV (w.2.2.1 t) (hN h a) (z_sv w H0 (z_el t) h a))) (by rw [← hTh]; rfl) X'
  refine ⟨t2, st' t2 ?_, b2⟩
  rw [hcellE, hTh]
  rw [List.map_cons, show z_cv w H0 (vr (some (hZ h))) = .ref H.size from congrArg Value.ref hz] at b1
  exact b1
theorem z_acmpne {α : Type} {ρ : α → z_R} {mi : z_MI} {pc : Nat} {L : List (Nat × z_V)} {st : List z_V} {h : z_Hp} {o1 o2 : Option α} {x y : Option Nat} {off : Int} {tgt : Nat} (d : decode mi.2.1 pc = .ok (.if_acmp .ne off, 3)) (ht : (pc : Int) + off = (tgt : Int)) (hx : ∀ a, x = some a → 5 ≤ a) (hy : ∀ a, y = some a → 5 ≤ a) (g1 : z_G ρ mi tgt L st h o1) (g2 : z_G ρ mi (pc + 3) L st h o2) : z_G ρ mi pc L (vr y :: vr x :: st) h (if x = y then o2 else o1) := by
  have hinj : ∀ (w : z_M) (H0 : Heap), x.map (z_ad w H0) = y.map (z_ad w H0) ↔ x = y := by
    intro w H0
    refine ⟨fun h => ?_, fun h => by rw [h]⟩
    cases x with
    | none => cases y with
      | none => rfl
      | some b => cases h
    | some a => cases y with
      | none => cases h
      | some b =>
        have h := Option.some.inj h
        have h1 := hx a rfl
        have h2 := hy b rfl
        rw [z_ad5 h1, z_ad5 h2] at h
        rw [show a = b by omega]
  refine z_ite (fun hc => z_pure (fun w H0 p l e R s m args below meth c Q H locs ls cells slots hC hl k => lv_acmp_ne hC.1 hC.2.1 d ht (fun hq => absurd ((hinj w H0).mpr hc) hq) (fun _ => k ls hl)) g2) (fun hc => z_pure (fun w H0 p l e R s m args below meth c Q H locs ls cells slots hC hl k => lv_acmp_ne hC.1 hC.2.1 d ht (fun _ => k ls hl) (fun hq => absurd ((hinj w H0).mp hq) hc)) g1)
theorem z_castA {α : Type} {ρ : α → z_R} {mi : z_MI} {pc idx : Nat} {L : List (Nat × z_V)} {st : List z_V} {h : z_Hp} {o : Option α} {a : Nat} (t : Nat) (ht : t = 20 ∨ t = 21) (hln : Cond.classLink mi.1.cls idx (z_cn2 t) ∈ z_tb) (d : decode mi.2.1 pc = .ok (.checkcast idx, 3))
    (g : z_G ρ mi (pc + 3) L (vr (some a) :: st) h o) : z_G ρ mi pc L (vr (some a) :: st) h (if hT h a = t then o else none) := by
  refine z_ite (fun h1 => ?_) (fun _ => z_none)
  refine z_look (fun w H0 p l e R s m args below meth c Q H locs ls cells slots hC hRel kk => ?_) g
  obtain ⟨hx, hb, hml, hown, hts, hK, hnm, hf1, hf2⟩ := hC
  obtain ⟨a5, a6, ca, -⟩ := z_arr hRel h1 (by omega) (by omega)
  obtain ⟨kA, comp, k1, k2, k3, -⟩ := hK.2.1 t (by omega) (by omega)
  have hnm2 : s.vm.findClass (z_cn2 t) = some (w.2.2.1 t) := by
    have e : "[" ++ (z_el t).toString = z_cn2 t := by rcases ht with rfl | rfl <;> decide +kernel
    rw [← e]; exact k3
  intro T hT X
  obtain ⟨vm', X', st'⟩ := X.checkcastYes hx hown (hts _ hln) (by rw [hT]; exact ca) rfl hnm2 (va_asg _ _) (g := F0 m pc ls ((vr (some a) :: st).map (z_cv w H0))) rfl rfl (by rw [hb]; exact d)
  obtain ⟨t2, a1, b1⟩ := kk (T.setVm vm') hT X'
  exact ⟨t2, st' t2 a1, b1⟩
