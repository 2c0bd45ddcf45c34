theorem z_ofWF {l : Launch} {y : MethodName} {ws ws' : List Cond} {rm : Room} {Pc : Array Value → State → Prop} {Qc : Array Value → State → Outcome → State → Prop} {mc ms : Nat} {free : Addr → Prop} {cc : ByteArray} {maxL : Nat} {ret : Option FieldType}
    (hy : plainFor y = true) (hw : ws = Cond.code y cc maxL ret :: ws')
    (body : ∀ p e s m args below meth c s₁, BodyLoose p l y (headSpec ws rm) cc maxL ret e s m args below meth c s₁ → c.maxLocals = maxL → Pc args s →
      W p l e (headSpec ws rm).room s m args below meth c s.heap [] 0 0 (MQ below Qc args s mc ms free) (entryFrame m args maxL)) : Met l y ws rm Pc Qc mc ms free := by
  refine MetFree.of_bodySF (code := cc) (maxLocals := maxL) (ret := ret) hy ?_ ?_
  · intro args s m h hn
    obtain ⟨meth, c, h1, h2, h3, h4, h5, h6, -, -⟩ := Cond.code_spec hn (atoms_spec (ws := ws) h _ (by rw [hw]; exact List.mem_cons_self))
    exact ⟨meth, c, h1, h2, h3, h4, h5, h6⟩
  · intro p e s m args below meth c s₁ B hml hP _
    have hh0 : s₁.heap = s.heap := by rw [B.state]; rfl
    obtain ⟨t, a1, o, b1, b2, b3⟩ := body p e s m args below meth c s₁ B hml hP s₁ hh0 (Stand.of_body B)
    exact ⟨t, o, a1, b1, b2, ⟨b3.1, b3.2⟩⟩
theorem z_entryF {α : Type} {ρ : α → z_R} {mi : z_MI} {avs : List z_V} {h : z_Hp} {o : Option α} (hp : plainFor mi.1 = true) (hn : z_ln avs ≤ mi.2.2.1) (L : List (Nat × z_V)) (hL : z_la 0 avs = L) (g : z_G ρ mi 0 L [] h o) : z_Ct ρ mi avs h o := by
  intro r hf ho
  obtain ⟨g1, g2⟩ := g r hf ho
  refine ⟨g1, fun l w H0 => ?_⟩
  refine z_ofWF (cc := mi.2.1) (maxL := mi.2.2.1) (ret := mi.2.2.2.1) hp rfl ?_
  intro p e s m args below meth c s₁ B hml hv
  obtain ⟨rfl, hRel, hK⟩ := hv
  have hts := atoms_spec (ws := z_ws mi) B.pre
  have hl := lv_entry (avs.map (z_cv w H0)) (n := mi.2.2.1) (by rw [z_ln_eq]; exact hn)
  rw [lg_entry_eq]
  rw [z_la_eq, hL] at hl
  refine g2 w H0 p l e (z_rm mi (hZ hf - hZ h) (hS hf - hS h)) s m _ below meth c _ (hZ h) (hS h) ⟨B.exec, B.bytes, hml, findClass_of_methodNamed B.named, fun u hu => hts u (List.mem_cons_of_mem _ hu), hK, (name_of_methodNamed B.named B.method).1, Nat.le_refl _, Nat.le_refl _⟩ (by show hZ hf ≤ hZ h + (hZ hf - hZ h); omega) (by show hS hf ≤ hS h + (hS hf - hS h); omega) ?_ s.heap [] _ 0 0 hRel (fun q hq => by cases hq) hl rfl rfl
  intro pc ls H locs cells slots hd hk hR2 hlo e1 e2
  have hc : hZ hf - hZ h = cells := by omega
  have hs : hS hf - hS h = slots := by omega
  rw [hc, hs]
  have hret := B.returns
  have hlocks := B.notSynchronized
  rcases r with _ | x | x | x
  · exact W.vret B.exec B.bytes (hret.trans hk) (fun t ht hW => ⟨rfl, by rw [ht]; exact hR2⟩) hlo hd
  · obtain ⟨ty, k1, k2⟩ := hk
    exact W.zret B.exec B.bytes (hret.trans k1) k2 (fun t ht hW => ⟨rfl, by rw [ht]; exact hR2⟩) hlo hd
  · exact W.lret B.exec B.bytes (hret.trans hk) (fun t ht hW => ⟨rfl, by rw [ht]; exact hR2⟩) hlo hd
  · obtain ⟨t, k1⟩ := hk
    exact W.aret B.exec B.bytes (hret.trans k1) (Or.inr ⟨t, rfl⟩) (va_rf_or _) (fun t ht hW => ⟨rfl, by rw [ht]; exact hR2⟩) hlo hd
theorem pf_min : plainFor yJ9_min_7cf53 = true := by decide +kernel
theorem pf_max : plainFor yJ9_max_7cf53 = true := by decide +kernel
theorem pf_maxl : plainFor yJ9_max_f86c9 = true := by decide +kernel
