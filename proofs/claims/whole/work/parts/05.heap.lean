/-! ===== rows that read, write and make cells ===== -/
def inb (i : Int32) (n : Nat) : Bool := decide (¬ (i < 0 ∨ n ≤ i.toNatClampNeg))
def okA (h : z_Hp) (a t : Nat) (i : Int32) : Bool := hT h a == t && inb i (hN h a)
def okL (h : z_Hp) (a : Nat) : Bool := decide (19 ≤ hT h a ∧ hT h a ≤ 26)
def z_ct (t : Nat) : Nat := match t with
  | 23 => 20
  | 24 => 21
  | 25 => 7
  | _ => 5
def okS (h : z_Hp) (t : Nat) (o : Option Nat) : Bool := match o with
  | none => true
  | some b => hT h b == z_ct t
theorem okA_iff {h : z_Hp} {a t : Nat} {i : Int32} : okA h a t i = true ↔ hT h a = t ∧ vp_in i (hN h a) := by
  simp [okA, inb, vp_in]
def z_oty (ty : FieldType) : Bool := match ty with
  | .int => true
  | .byte => true
  | .long => true
  | .object _ => true
  | .array _ => true
  | _ => false
theorem z_cls {P : Nat → vw_C → Prop} (h0 : P 0 (RX0, TX0, 7)) (h1 : P 1 (RX1, TX1, 4)) (h2 : P 2 (RX2, TX2, 5)) (h3 : P 3 (RX3, TX3, 4)) (h4 : P 4 (RX4, TX4, 6)) (h5 : P 5 (RX5, TX5, 11)) (h6 : P 6 (RX6, TX6, 2)) (h7 : P 7 (RX7, TX7, 5)) (h8 : P 8 (RX8, TX8, 7)) (h9 : P 9 (RX9, TX9, 18)) (h10 : P 10 (RX10, TX10, 62)) : ∀ (t : Nat) (q : vw_C), vwCl[t]? = some q → P t q := by
  intro t q hq
  match t, hq with
  | 0, hq => cases hq; exact h0
  | 1, hq => cases hq; exact h1
  | 2, hq => cases hq; exact h2
  | 3, hq => cases hq; exact h3
  | 4, hq => cases hq; exact h4
  | 5, hq => cases hq; exact h5
  | 6, hq => cases hq; exact h6
  | 7, hq => cases hq; exact h7
  | 8, hq => cases hq; exact h8
  | 9, hq => cases hq; exact h9
  | 10, hq => cases hq; exact h10
  | k + 11, hq => simp [vwCl] at hq
set_option maxRecDepth 20000 in
theorem z_inX0 : ∀ u ∈ u_ws RX0 TX0 7, u ∈ z_tb := by
  have h : u_ws RX0 TX0 7 = [214, 216, 218, 220, 222, 224, 226].filterMap (fun i => lw_tbl[i]?) := by decide +kernel
  have g : (u_ws RX0 TX0 7).all goodWord = true := by decide +kernel
  intro u hu
  refine List.mem_filter.mpr ⟨?_, List.all_eq_true.mp g u hu⟩
  rw [h] at hu
  obtain ⟨i, -, hi⟩ := List.mem_filterMap.mp hu
  exact List.mem_of_getElem? hi
set_option maxRecDepth 20000 in
theorem z_inX1 : ∀ u ∈ u_ws RX1 TX1 4, u ∈ z_tb := by
  have h : u_ws RX1 TX1 4 = [160, 162, 164, 166].filterMap (fun i => lw_tbl[i]?) := by decide +kernel
  have g : (u_ws RX1 TX1 4).all goodWord = true := by decide +kernel
  intro u hu
  refine List.mem_filter.mpr ⟨?_, List.all_eq_true.mp g u hu⟩
  rw [h] at hu
  obtain ⟨i, -, hi⟩ := List.mem_filterMap.mp hu
  exact List.mem_of_getElem? hi
set_option maxRecDepth 20000 in
theorem z_inX2 : ∀ u ∈ u_ws RX2 TX2 5, u ∈ z_tb := by
  have h : u_ws RX2 TX2 5 = [241, 243, 245, 247, 249].filterMap (fun i => lw_tbl[i]?) := by decide +kernel
  have g : (u_ws RX2 TX2 5).all goodWord = true := by decide +kernel
  intro u hu
  refine List.mem_filter.mpr ⟨?_, List.all_eq_true.mp g u hu⟩
  rw [h] at hu
  obtain ⟨i, -, hi⟩ := List.mem_filterMap.mp hu
  exact List.mem_of_getElem? hi
set_option maxRecDepth 20000 in
theorem z_inX3 : ∀ u ∈ u_ws RX3 TX3 4, u ∈ z_tb := by
  have h : u_ws RX3 TX3 4 = [116, 118, 120, 122].filterMap (fun i => lw_tbl[i]?) := by decide +kernel
  have g : (u_ws RX3 TX3 4).all goodWord = true := by decide +kernel
  intro u hu
  refine List.mem_filter.mpr ⟨?_, List.all_eq_true.mp g u hu⟩
  rw [h] at hu
  obtain ⟨i, -, hi⟩ := List.mem_filterMap.mp hu
  exact List.mem_of_getElem? hi
set_option maxRecDepth 20000 in
theorem z_inX4 : ∀ u ∈ u_ws RX4 TX4 6, u ∈ z_tb := by
  have h : u_ws RX4 TX4 6 = [267, 269, 271, 273, 275, 277].filterMap (fun i => lw_tbl[i]?) := by decide +kernel
  have g : (u_ws RX4 TX4 6).all goodWord = true := by decide +kernel
  intro u hu
  refine List.mem_filter.mpr ⟨?_, List.all_eq_true.mp g u hu⟩
  rw [h] at hu
  obtain ⟨i, -, hi⟩ := List.mem_filterMap.mp hu
  exact List.mem_of_getElem? hi
set_option maxRecDepth 20000 in
theorem z_inX5 : ∀ u ∈ u_ws RX5 TX5 11, u ∈ z_tb := by
  have h : u_ws RX5 TX5 11 = [626, 628, 630, 632, 634, 636, 638, 640, 642, 644, 646].filterMap (fun i => lw_tbl[i]?) := by decide +kernel
  have g : (u_ws RX5 TX5 11).all goodWord = true := by decide +kernel
  intro u hu
  refine List.mem_filter.mpr ⟨?_, List.all_eq_true.mp g u hu⟩
  rw [h] at hu
  obtain ⟨i, -, hi⟩ := List.mem_filterMap.mp hu
  exact List.mem_of_getElem? hi
set_option maxRecDepth 20000 in
theorem z_inX6 : ∀ u ∈ u_ws RX6 TX6 2, u ∈ z_tb := by
  have h : u_ws RX6 TX6 2 = [144, 146].filterMap (fun i => lw_tbl[i]?) := by decide +kernel
  have g : (u_ws RX6 TX6 2).all goodWord = true := by decide +kernel
  intro u hu
  refine List.mem_filter.mpr ⟨?_, List.all_eq_true.mp g u hu⟩
  rw [h] at hu
  obtain ⟨i, -, hi⟩ := List.mem_filterMap.mp hu
  exact List.mem_of_getElem? hi
set_option maxRecDepth 20000 in
theorem z_inX7 : ∀ u ∈ u_ws RX7 TX7 5, u ∈ z_tb := by
  have h : u_ws RX7 TX7 5 = [424, 426, 428, 430, 432].filterMap (fun i => lw_tbl[i]?) := by decide +kernel
  have g : (u_ws RX7 TX7 5).all goodWord = true := by decide +kernel
  intro u hu
  refine List.mem_filter.mpr ⟨?_, List.all_eq_true.mp g u hu⟩
  rw [h] at hu
  obtain ⟨i, -, hi⟩ := List.mem_filterMap.mp hu
  exact List.mem_of_getElem? hi
set_option maxRecDepth 20000 in
theorem z_inX8 : ∀ u ∈ u_ws RX8 TX8 7, u ∈ z_tb := by
  have h : u_ws RX8 TX8 7 = [184, 186, 188, 190, 192, 194, 196].filterMap (fun i => lw_tbl[i]?) := by decide +kernel
  have g : (u_ws RX8 TX8 7).all goodWord = true := by decide +kernel
  intro u hu
  refine List.mem_filter.mpr ⟨?_, List.all_eq_true.mp g u hu⟩
  rw [h] at hu
  obtain ⟨i, -, hi⟩ := List.mem_filterMap.mp hu
  exact List.mem_of_getElem? hi
set_option maxRecDepth 20000 in
theorem z_inX9 : ∀ u ∈ u_ws RX9 TX9 18, u ∈ z_tb := by
  have h : u_ws RX9 TX9 18 = [298, 300, 302, 304, 306, 308, 310, 312, 314, 316, 318, 320, 322, 324, 326, 328, 330, 332].filterMap (fun i => lw_tbl[i]?) := by decide +kernel
  have g : (u_ws RX9 TX9 18).all goodWord = true := by decide +kernel
  intro u hu
  refine List.mem_filter.mpr ⟨?_, List.all_eq_true.mp g u hu⟩
  rw [h] at hu
  obtain ⟨i, -, hi⟩ := List.mem_filterMap.mp hu
  exact List.mem_of_getElem? hi
set_option maxRecDepth 20000 in
theorem z_inX10 : ∀ u ∈ u_ws RX10 TX10 62, u ∈ z_tb := by
  have h : u_ws RX10 TX10 62 = [1182, 1184, 1186, 1188, 1190, 1192, 1194, 1196, 1198, 1200, 1202, 1204, 1206, 1208, 1210, 1212, 1214, 1216, 1218, 1220, 1222, 1224, 1226, 1228, 1230, 1232, 1234, 1236, 1238, 1240, 1242, 1244, 1246, 1248, 1250, 1252, 1254, 1256, 1258, 1260, 1262, 1264, 1266, 1268, 1270, 1272, 1274, 1276, 1278, 1280, 1282, 1284, 1286, 1288, 1290, 1292, 1294, 1296, 1298, 1300, 1302, 1304].filterMap (fun i => lw_tbl[i]?) := by decide +kernel
  have g : (u_ws RX10 TX10 62).all goodWord = true := by decide +kernel
  intro u hu
  refine List.mem_filter.mpr ⟨?_, List.all_eq_true.mp g u hu⟩
  rw [h] at hu
  obtain ⟨i, -, hi⟩ := List.mem_filterMap.mp hu
  exact List.mem_of_getElem? hi
theorem z_lays : ∀ (t : Nat) (q : vw_C), vwCl[t]? = some q → ∀ u ∈ u_ws q.1 q.2.1 q.2.2, u ∈ z_tb := z_cls (z_inX0) (z_inX1) (z_inX2) (z_inX3) (z_inX4) (z_inX5) (z_inX6) (z_inX7) (z_inX8) (z_inX9) (z_inX10)
theorem z_fty : ∀ (t : Nat) (q : vw_C), vwCl[t]? = some q → ∀ k, k < q.2.2 → parseFieldDescriptor (q.2.1 k).2.2.1 = some (z_ft t k) := z_cls tyX0_ok tyX1_ok tyX2_ok tyX3_ok tyX4_ok tyX5_ok tyX6_ok tyX7_ok tyX8_ok tyX9_ok tyX10_ok
theorem z_fnm : ∀ (t : Nat) (q : vw_C), vwCl[t]? = some q → ∀ a, a < q.2.2 → ∀ b, b < q.2.2 → a ≠ b → (q.2.1 a).2.1 ≠ (q.2.1 b).2.1 := z_cls nmX0 nmX1 nmX2 nmX3 nmX4 nmX5 nmX6 nmX7 nmX8 nmX9 nmX10
theorem z_fto : ∀ (t : Nat) (q : vw_C), vwCl[t]? = some q → ∀ k, k < q.2.2 → z_oty (z_ft t k) = true := z_cls (by decide +kernel) (by decide +kernel) (by decide +kernel) (by decide +kernel) (by decide +kernel) (by decide +kernel) (by decide +kernel) (by decide +kernel) (by decide +kernel) (by decide +kernel) (by decide +kernel)
theorem z_lt11 {t : Nat} {q : vw_C} (h : vwCl[t]? = some q) : t < 11 := (List.getElem?_eq_some_iff.mp h).1
theorem z_ad5 {w : z_M} {H0 : Heap} {a : Nat} (h : 5 ≤ a) : z_ad w H0 a = H0.size + (a - 5) := if_neg (by omega)
theorem z_cell_at {w : z_M} {H0 H : Heap} {h : z_Hp} {a : Nat} (hRl : z_Rel w H0 h H) (h1 : hT h a ≠ 19) (h2 : hT h a ≠ 99) : 5 ≤ a ∧ a < hZ h ∧ z_cell w H0 h a H := by
  have h5 : 5 ≤ a := by
    rcases Nat.lt_or_ge a 5 with q | q
    · exact absurd (hRl.2.2.2.1 a q).1 h1
    · exact q
  have h6 : a < hZ h := by
    rcases Nat.lt_or_ge a (hZ h) with q | q
    · exact q
    · exact absurd (hRl.2.2.2.2.1 a q) h2
  exact ⟨h5, h6, hRl.2.2.2.2.2 a h5 h6⟩
theorem z_obj {w : z_M} {H0 H : Heap} {h : z_Hp} {a t : Nat} {q : vw_C} (hRl : z_Rel w H0 h H) (ht : hT h a = t) (hq : vwCl[t]? = some q) :
    5 ≤ a ∧ a < hZ h ∧ hN h a = q.2.2 ∧ t_OB (z_ad w H0 a) (w.1 t) q.2.2 (w.2.1 t) H (fun k => z_sv w H0 (z_ft t k) h a k) := by
  have hl := z_lt11 hq
  obtain ⟨h5, h6, hc⟩ := z_cell_at (a := a) hRl (by omega) (by omega)
  rcases hc with ⟨q', hq', hn, hob⟩ | ⟨hc, -⟩
  · rw [ht] at hq' hob
    cases hq.symm.trans hq'
    exact ⟨h5, h6, hn, hob⟩
  · omega
theorem z_arr {w : z_M} {H0 H : Heap} {h : z_Hp} {a t : Nat} (hRl : z_Rel w H0 h H) (ht : hT h a = t) (h20 : 20 ≤ t) (h26 : t ≤ 26) :
    5 ≤ a ∧ a < hZ h ∧ H[z_ad w H0 a]? = some (arrV (w.2.2.1 t) (hN h a) (z_sv w H0 (z_el t) h a)) ∧ (t = 21 → ∀ j, fits .byte (.int (hI h a j)) = true) := by
  obtain ⟨h5, h6, hc⟩ := z_cell_at (a := a) hRl (by omega) (by omega)
  rcases hc with ⟨q', hq', -, -⟩ | ⟨-, -, hc, hf⟩
  · have := z_lt11 hq'
    omega
  · rw [ht] at hc hf
    exact ⟨h5, h6, hc, hf⟩
theorem z_sv_congr {w : z_M} {H0 : Heap} {h h' : z_Hp} {b j : Nat} (ty : FieldType) (e1 : hI h' b j = hI h b j) (e2 : hJ h' b j = hJ h b j) (e3 : hR h' b j = hR h b j) : z_sv w H0 ty h' b j = z_sv w H0 ty h b j := by
  cases ty <;> simp [z_sv, e1, e2, e3]
theorem z_cell_congr {w : z_M} {H0 H H1 : Heap} {h h' : z_Hp} {b : Nat} (hc : z_cell w H0 h b H) (e0 : hT h' b = hT h b) (e1 : hN h' b = hN h b) (ev : ∀ j, hI h' b j = hI h b j ∧ hJ h' b j = hJ h b j ∧ hR h' b j = hR h b j) (eH : H1[z_ad w H0 b]? = H[z_ad w H0 b]?) : z_cell w H0 h' b H1 := by
  have es : ∀ ty j, z_sv w H0 ty h' b j = z_sv w H0 ty h b j := fun ty j => z_sv_congr ty (ev j).1 (ev j).2.1 (ev j).2.2
  rcases hc with ⟨q, hq, hn, hob⟩ | ⟨h20, h26, hc, hf⟩
  · refine Or.inl ⟨q, by rw [e0]; exact hq, by rw [e1]; exact hn, ?_⟩
    rw [e0]
    exact (hob.kept eH).to (fun k _ => (es _ k).symm)
  · refine Or.inr ⟨by rw [e0]; exact h20, by rw [e0]; exact h26, ?_, fun hb j => by rw [(ev j).1]; exact hf (by rw [← e0]; exact hb) j⟩
    rw [eH, hc, e0, e1]
    congr 2
    funext j
    exact (es _ j).symm
theorem z_upd {w : z_M} {H0 H H1 : Heap} {h h' : z_Hp} {a : Nat} (hRl : z_Rel w H0 h H) (ha : 5 ≤ a) (hz : hZ h' = hZ h) (hl : ∀ b, hT h' b = hT h b ∧ hN h' b = hN h b)
    (hv : ∀ b, b ≠ a → ∀ j, hI h' b j = hI h b j ∧ hJ h' b j = hJ h b j ∧ hR h' b j = hR h b j) (hs : H1.size = H.size) (ho : ∀ q, q ≠ z_ad w H0 a → H1[q]? = H[q]?) (hc : z_cell w H0 h' a H1) : z_Rel w H0 h' H1 := by
  refine ⟨by rw [hz]; exact hRl.1, by rw [hz, hs]; exact hRl.2.1, fun q hq => ?_, fun b hb => ?_, fun b hb => by rw [(hl b).1]; exact hRl.2.2.2.2.1 b (by rw [← hz]; exact hb), fun b h5 h6 => ?_⟩
  · rw [ho q (by rw [z_ad5 ha]; omega)]
    exact hRl.2.2.1 q hq
  · rw [(hl b).1, (hl b).2]
    refine ⟨(hRl.2.2.2.1 b hb).1, (hRl.2.2.2.1 b hb).2.1, fun j => ?_⟩
    rw [(hv b (by omega) j).1]
    exact (hRl.2.2.2.1 b hb).2.2 j
  · rw [hz] at h6
    by_cases hb : b = a
    · rw [hb]; exact hc
    · exact z_cell_congr (hRl.2.2.2.2.2 b h5 h6) (hl b).1 (hl b).2 (hv b hb) (ho _ (by rw [z_ad5 ha, z_ad5 h5]; omega))
theorem z_push {w : z_M} {H0 H H1 : Heap} {h : z_Hp} {t n : Nat} (hRl : z_Rel w H0 h H) (hs : H1.size = H.size + 1) (ho : ∀ q, q < H.size → H1[q]? = H[q]?) (ht : t ≠ 99) (hc : z_cell w H0 (nw h t n) (hZ h) H1) : z_Rel w H0 (nw h t n) H1 := by
  obtain ⟨r1, r2, r3, r4, r5, r6⟩ := hRl
  refine ⟨by rw [hZ_nw]; omega, by rw [hZ_nw, hs]; omega, fun q hq => ?_, fun b hb => ?_, fun b hb => ?_, fun b h5 h6 => ?_⟩
  · rw [ho q (by omega)]
    exact r3 q hq
  · rw [hT_nw, hN_nw, if_neg (by omega), if_neg (by omega)]
    refine ⟨(r4 b hb).1, (r4 b hb).2.1, fun j => ?_⟩
    rw [hI_nw, if_neg (by omega)]
    exact (r4 b hb).2.2 j
  · rw [hZ_nw] at hb
    rw [hT_nw, if_neg (by omega)]
    exact r5 b (by omega)
  · rw [hZ_nw] at h6
    by_cases hb : b = hZ h
    · rw [hb]; exact hc
    · have h7 : b < hZ h := by omega
      exact z_cell_congr (r6 b h5 h7) (by rw [hT_nw, if_neg hb]) (by rw [hN_nw, if_neg hb]) (fun j => ⟨by rw [hI_nw, if_neg hb], by rw [hJ_nw, if_neg hb], by rw [hR_nw, if_neg hb]⟩) (ho _ (by rw [z_ad5 h5]; omega))
/-- a row that looks at the heap and leaves it -/
theorem z_look {α : Type} {ρ : α → z_R} {mi : z_MI} {pc pc' : Nat} {L : List (Nat × z_V)} {st st' : List z_V} {h : z_Hp} {o : Option α}
    (hs : ∀ (w : z_M) (H0 : Heap) (p : Program) (l : Launch) (e : Env) (R : Room) (s : State) (m : MethodId) (args : Array Value) (below : List Frame) (meth : Method) (c : Code) (Q : State → Prop) (H : Heap) (locs : List Loc) (ls : Array Slot) (cells slots : Nat), z_C mi w H0 p R s m args meth c → z_Rel w H0 h H →
      W p l e R s m args below meth c H locs cells slots Q (F0 m pc' ls (st'.map (z_cv w H0))) → W p l e R s m args below meth c H locs cells slots Q (F0 m pc ls (st.map (z_cv w H0))))
    (g : z_G ρ mi pc' L st' h o) : z_G ρ mi pc L st h o := by
  intro r hf ho
  obtain ⟨g1, g2⟩ := g r hf ho
  refine ⟨g1, ?_⟩
  intro w H0 p l e R s m args below meth c Q c0 s0 hC h1 h2 hr H locs ls cells slots hRel hlo hl e1 e2
  exact hs w H0 p l e R s m args below meth c Q H locs ls cells slots hC hRel (g2 w H0 p l e R s m args below meth c Q c0 s0 hC h1 h2 hr H locs ls cells slots hRel hlo hl e1 e2)
/-- a row that writes -/
theorem z_write {α : Type} {ρ : α → z_R} {mi : z_MI} {pc pc' : Nat} {L : List (Nat × z_V)} {st st' : List z_V} {h h' : z_Hp} {o : Option α} (hz : hZ h' = hZ h) (hz2 : hS h' = hS h) (hfr : z_Fr h h')
    (hs : ∀ (w : z_M) (H0 : Heap) (p : Program) (l : Launch) (e : Env) (R : Room) (s : State) (m : MethodId) (args : Array Value) (below : List Frame) (meth : Method) (c : Code) (Q : State → Prop) (H : Heap) (locs : List Loc) (ls : Array Slot) (cells slots : Nat), z_C mi w H0 p R s m args meth c → z_Rel w H0 h H → ls.size = mi.2.2.1 → (∀ q ∈ locs, H0.size ≤ q.base) →
      (∀ (H1 : Heap) (locs1 : List Loc), z_Rel w H0 h' H1 → (∀ q ∈ locs1, H0.size ≤ q.base) → W p l e R s m args below meth c H1 locs1 cells slots Q (F0 m pc' ls (st'.map (z_cv w H0)))) → W p l e R s m args below meth c H locs cells slots Q (F0 m pc ls (st.map (z_cv w H0))))
    (g : z_G ρ mi pc' L st' h' o) : z_G ρ mi pc L st h o := by
  intro r hf ho
  obtain ⟨g1, g2⟩ := g r hf ho
  rw [hz, hz2] at g1
  refine ⟨⟨g1.1, g1.2.1, hfr.trans g1.2.2⟩, ?_⟩
  intro w H0 p l e R s m args below meth c Q c0 s0 hC h1 h2 hr H locs ls cells slots hRel hlo hl e1 e2
  exact hs w H0 p l e R s m args below meth c Q H locs ls cells slots hC hRel hl.1 hlo (fun H1 locs1 k1 k2 => g2 w H0 p l e R s m args below meth c Q c0 s0 hC h1 h2 hr H1 locs1 ls cells slots k1 k2 hl (by rw [hz]; exact e1) (by rw [hz2]; exact e2))
/-- a row that makes a cell -/
theorem z_make {α : Type} {ρ : α → z_R} {mi : z_MI} {pc pc' : Nat} {L : List (Nat × z_V)} {st st' : List z_V} {h h' : z_Hp} {n : Nat} {o : Option α} (hz : hZ h' = hZ h + 1) (hz2 : hS h' = hS h + n) (hfr : z_Fr h h')
    (hs : ∀ (w : z_M) (H0 : Heap) (p : Program) (l : Launch) (e : Env) (R : Room) (s : State) (m : MethodId) (args : Array Value) (below : List Frame) (meth : Method) (c : Code) (Q : State → Prop) (H : Heap) (locs : List Loc) (ls : Array Slot) (cells slots : Nat), z_C mi w H0 p R s m args meth c → z_Rel w H0 h H → ls.size = mi.2.2.1 → cells + 1 ≤ R.cells → slots + n ≤ R.slots →
      (∀ (H1 : Heap), z_Rel w H0 h' H1 → W p l e R s m args below meth c H1 locs (cells + 1) (slots + n) Q (F0 m pc' ls (st'.map (z_cv w H0)))) → W p l e R s m args below meth c H locs cells slots Q (F0 m pc ls (st.map (z_cv w H0))))
    (g : z_G ρ mi pc' L st' h' o) : z_G ρ mi pc L st h o := by
  intro r hf ho
  obtain ⟨g1, g2⟩ := g r hf ho
  rw [hz, hz2] at g1
  refine ⟨⟨by omega, by omega, hfr.trans g1.2.2⟩, ?_⟩
  intro w H0 p l e R s m args below meth c Q c0 s0 hC h1 h2 hr H locs ls cells slots hRel hlo hl e1 e2
  exact hs w H0 p l e R s m args below meth c Q H locs ls cells slots hC hRel hl.1 (by omega) (by omega) (fun H1 k1 => g2 w H0 p l e R s m args below meth c Q c0 s0 hC h1 h2 hr H1 locs ls (cells + 1) (slots + n) k1 hlo hl (by rw [hz]; omega) (by rw [hz2]; omega))
/-! ===== fields ===== -/
def z_fl (own : String) (idx t k : Nat) : Prop := ∃ q : vw_C, vwCl[t]? = some q ∧ k < q.2.2 ∧ Cond.fieldLink own idx (q.2.1 k).1 (q.2.1 k).2.1 (q.2.1 k).2.2.1 ∈ z_tb
theorem z_getf {α : Type} {ρ : α → z_R} {mi : z_MI} {pc : Nat} {L : List (Nat × z_V)} {st : List z_V} {h : z_Hp} {o : Option α} {a t k idx : Nat} {v : z_V} (hf : z_fl mi.1.cls idx t k) (hv : ∀ w H0, z_sv w H0 (z_ft t k) h a k = z_cv w H0 v) (d : decode mi.2.1 pc = .ok (.getfield idx, 3))
    (g : z_G ρ mi (pc + 3) L (v :: st) h o) : z_G ρ mi pc L (vr (some a) :: st) h (if hT h a = t then o else none) := by
  refine z_ite (fun ht => ?_) (fun _ => z_none)
  refine z_look (fun w H0 p l e R s m args below meth c Q H locs ls cells slots hC hRel kk => ?_) g
  obtain ⟨q, hq, hk, hmem⟩ := hf
  obtain ⟨-, -, -, cell, q1, q2, q3, q4⟩ := z_obj hRel ht hq
  obtain ⟨hx, hb, hml, hown, hts, hK, -⟩ := hC
  obtain ⟨hS, hfc, kC, hkC, hkind⟩ := hK.1 t q hq
  obtain ⟨cf, kf, fi, f, hi, hsl⟩ := hS k hk
  refine W.getf hx hb hown (hts _ hmem) hi (u_facts hfc hkC (u_lays hts (z_lays t q hq) hk) hi).1 q1 (by rw [q3]; exact fun h => by cases h) (v := z_cv w H0 v) ?_ rfl rfl d kk
  rw [hsl, q4 k hk]
  exact congrArg some (hv w H0)
theorem z_getI {α : Type} {ρ : α → z_R} {mi : z_MI} {pc : Nat} {L : List (Nat × z_V)} {st : List z_V} {h : z_Hp} {o : Option α} {a t k idx : Nat} (hf : z_fl mi.1.cls idx t k) (hty : z_ft t k = .int) (d : decode mi.2.1 pc = .ok (.getfield idx, 3))
    (g : z_G ρ mi (pc + 3) L (vi (hI h a k) :: st) h o) : z_G ρ mi pc L (vr (some a) :: st) h (if hT h a = t then o else none) := z_getf hf (fun w H0 => by rw [hty]; rfl) d g
theorem z_getJ {α : Type} {ρ : α → z_R} {mi : z_MI} {pc : Nat} {L : List (Nat × z_V)} {st : List z_V} {h : z_Hp} {o : Option α} {a t k idx : Nat} (hf : z_fl mi.1.cls idx t k) (hty : z_ft t k = .long) (d : decode mi.2.1 pc = .ok (.getfield idx, 3))
    (g : z_G ρ mi (pc + 3) L (vl (hJ h a k) :: st) h o) : z_G ρ mi pc L (vr (some a) :: st) h (if hT h a = t then o else none) := z_getf hf (fun w H0 => by rw [hty]; rfl) d g
def z_rty (ty : FieldType) : Bool := match ty with
  | .object _ => true
  | .array _ => true
  | _ => false
theorem z_sv_ref {w : z_M} {H0 : Heap} {ty : FieldType} {h : z_Hp} {a k : Nat} (hty : z_rty ty = true) : z_sv w H0 ty h a k = va_rf ((hR h a k).map (z_ad w H0)) := by
  cases ty <;> first | rfl | (simp [z_rty] at hty)
theorem z_getR {α : Type} {ρ : α → z_R} {mi : z_MI} {pc : Nat} {L : List (Nat × z_V)} {st : List z_V} {h : z_Hp} {o : Option α} {a t k idx : Nat} (hf : z_fl mi.1.cls idx t k) (hty : z_rty (z_ft t k) = true) (d : decode mi.2.1 pc = .ok (.getfield idx, 3))
    (g : z_G ρ mi (pc + 3) L (vr (hR h a k) :: st) h o) : z_G ρ mi pc L (vr (some a) :: st) h (if hT h a = t then o else none) := z_getf hf (fun w H0 => z_sv_ref hty) d g
/-- writing field k of an object -/
theorem z_putf {α : Type} {ρ : α → z_R} {mi : z_MI} {pc : Nat} {L : List (Nat × z_V)} {st : List z_V} {h h' : z_Hp} {o : Option α} {a t k idx : Nat} {v : z_V} (hf : z_fl mi.1.cls idx t k) (hfin : ∀ q, vwCl[t]? = some q → (q.2.1 k).2.2.2 = false ∨ ((q.2.1 k).2.2.2 = true ∧ mi.1.name = "<init>" ∧ (q.2.1 k).1 = mi.1.cls))
    (hz : hZ h' = hZ h) (hz2 : hS h' = hS h) (hl : ∀ b, hT h' b = hT h b ∧ hN h' b = hN h b) (hoth : ∀ b, b ≠ a → ∀ j, hI h' b j = hI h b j ∧ hJ h' b j = hJ h b j ∧ hR h' b j = hR h b j) (hself : ∀ j, j ≠ k → hI h' a j = hI h a j ∧ hJ h' a j = hJ h a j ∧ hR h' a j = hR h a j)
    (hv : ∀ w H0, z_sv w H0 (z_ft t k) h' a k = z_cv w H0 v ∧ narrow (z_ft t k) (z_cv w H0 v) = z_cv w H0 v ∧ fits (z_ft t k) (z_cv w H0 v) = true) (d : decode mi.2.1 pc = .ok (.putfield idx, 3))
    (g : z_G ρ mi (pc + 3) L st h' o) : z_G ρ mi pc L (v :: vr (some a) :: st) h (if hT h a = t then o else none) := by
  refine z_ite (fun ht => ?_) (fun _ => z_none)
  have t19 : hT h a ≠ 19 := fun e9 => by
    obtain ⟨q, hq, -⟩ := hf
    have e10 : t = 19 := ht.symm.trans e9
    rw [e10] at hq
    have e11 : vwCl[19]? = none := rfl
    rw [e11] at hq
    cases hq
  refine z_write hz hz2 (z_Fr.wr hz hl (fun b hb j => (hoth b (fun q => t19 (by rw [← q]; exact hb)) j).1)) (fun w H0 p l e R s m args below meth c Q H locs ls cells slots hC hRel _ hlo kk => ?_) g
  obtain ⟨q, hq, hk, hmem⟩ := hf
  obtain ⟨h5, h6, hn, cell, q1, q2, q3, q4⟩ := z_obj hRel ht hq
  obtain ⟨hx, hb, hml, hown, hts, hK, hnm, -⟩ := hC
  obtain ⟨hv1, hv2, hv3⟩ := hv w H0
  have hap : ∀ x y, x < q.2.2 → y < q.2.2 → x ≠ y → (w.2.1 t) x ≠ (w.2.1 t) y := by
    intro x y hx hy hne
    obtain ⟨hS, -⟩ := hK.1 t q hq
    obtain ⟨_, _, _, fa, hia, ea⟩ := hS x hx
    obtain ⟨_, _, _, fb, hib, eb⟩ := hS y hy
    rw [← ea, ← eb]
    refine u_apart (u_lays hts (z_lays t q hq) hx) (u_lays hts (z_lays t q hq) hy) hia hib ?_
    rw [(State.fieldFound?_type hia (z_fty t q hq x hx)).1, (State.fieldFound?_type hib (z_fty t q hq y hy)).1]
    exact z_fnm t q hq x hx y hy hne
  obtain ⟨hS, hfc, kC, hkC, hkind⟩ := hK.1 t q hq
  obtain ⟨cf, kf, fi, f, hi, hsl⟩ := hS k hk
  have hlay := hts _ (z_lays t q hq _ (u_in_lay hk))
  have hst := (u_facts hfc hkC (u_lays hts (z_lays t q hq) hk) hi).1
  have hend : ∀ H1 : Heap, H1[z_ad w H0 a]? = some (cell.setSlot f.slot (z_cv w H0 v)) → H1.size = H.size → (∀ x, x ≠ z_ad w H0 a → H1[x]? = H[x]?) → z_Rel w H0 h' H1 := by
    intro H1 e1 e2 e3
    refine z_upd hRel h5 hz hl hoth e2 e3 (Or.inl ⟨q, by rw [(hl a).1, ht]; exact hq, by rw [(hl a).2]; exact hn, ?_⟩)
    rw [(hl a).1, ht]
    rw [hsl] at e1
    refine t_OB.to (V := updV (fun k => z_sv w H0 (z_ft t k) h a k) k (z_cv w H0 v)) ⟨_, e1, q2, q3, t_set q4 hap hk _⟩ (fun j hj => ?_)
    by_cases hjk : j = k
    · subst hjk
      simp only [updV, if_true]
      exact hv1.symm
    · simp only [updV, if_neg hjk]
      exact (z_sv_congr _ (hself j hjk).1 (hself j hjk).2.1 (hself j hjk).2.2).symm
  have hlo2 : ∀ x ∈ locs ++ [(⟨z_ad w H0 a, f.slot⟩ : Loc)], H0.size ≤ x.base := by
    intro x hx
    rcases List.mem_append.mp hx with hx | hx
    · exact hlo x hx
    · rw [List.mem_singleton.mp hx]
      show H0.size ≤ z_ad w H0 a
      rw [z_ad5 h5]
      omega
  unfold u_lay at hlay
  rcases hfin q hq with hF | ⟨hF, hin2, hdecl⟩
  · rw [if_neg (by rw [hF]; decide)] at hlay
    have h6' := u_store hfc hkC hkind hlay hi (z_fty t q hq k hk) hv2 hv3
    exact W.putK hx hb (f := f) ⟨hown, hts _ hmem, ⟨_, _, _, hi⟩, hst⟩ (by rw [q2]; exact h6') q1 q3 (by rw [hsl]; exact k2_hasslot (q4 k hk)) rfl rfl d fun H' e1 e2 e3 => kk H' _ (hend H' e1 e2 e3) hlo2
  · rw [if_pos hF] at hlay
    have hcf : m.cls = cf := by
      obtain ⟨_, _, c', _, _, _, -, -, hf', -, -, -, hown2, -⟩ := Cond.laysFinal_spec hlay
      have e1 : c' = cf := by have := hi.symm.trans hf'; simp at this; exact this.1.symm
      rw [hdecl] at hown2
      rw [← e1]; exact Option.some.inj (hown.symm.trans hown2)
    have h6' := u_fits hfc hkC hkind (Or.inr hlay) hi (z_fty t q hq k hk) hv2 hv3
    exact W.putFinK hx hb hown (hts _ hmem) hi hst hcf (by rw [hnm]; exact hin2) (by rw [q2]; exact h6') q1 q3 (by rw [hsl]; exact k2_hasslot (q4 k hk)) rfl rfl d fun H' e1 e2 e3 => kk H' _ (hend H' e1 e2 e3) hlo2
def z_fin (mi : z_MI) (t k : Nat) : Prop := ∀ q, vwCl[t]? = some q → (q.2.1 k).2.2.2 = false ∨ ((q.2.1 k).2.2.2 = true ∧ mi.1.name = "<init>" ∧ (q.2.1 k).1 = mi.1.cls)
theorem z_putI {α : Type} {ρ : α → z_R} {mi : z_MI} {pc : Nat} {L : List (Nat × z_V)} {st : List z_V} {h : z_Hp} {o : Option α} {a t k idx : Nat} {x : Int32} (hf : z_fl mi.1.cls idx t k) (hfin : z_fin mi t k) (hty : z_ft t k = .int) (d : decode mi.2.1 pc = .ok (.putfield idx, 3))
    (g : z_G ρ mi (pc + 3) L st (sI h a k x) o) : z_G ρ mi pc L (vi x :: vr (some a) :: st) h (if hT h a = t then o else none) :=
  z_putf (h' := sI h a k x) hf hfin rfl rfl (fun b => ⟨rfl, rfl⟩) (fun b hb j => ⟨by rw [hI_sI, if_neg (fun q => hb q.1)], rfl, rfl⟩) (fun j hj => ⟨by rw [hI_sI, if_neg (fun q => hj q.2)], rfl, rfl⟩) (fun w H0 => by rw [hty]; exact ⟨by simp [z_sv, hI_sI, z_cv], rfl, rfl⟩) d g
theorem z_putJ {α : Type} {ρ : α → z_R} {mi : z_MI} {pc : Nat} {L : List (Nat × z_V)} {st : List z_V} {h : z_Hp} {o : Option α} {a t k idx : Nat} {x : Int64} (hf : z_fl mi.1.cls idx t k) (hfin : z_fin mi t k) (hty : z_ft t k = .long) (d : decode mi.2.1 pc = .ok (.putfield idx, 3))
    (g : z_G ρ mi (pc + 3) L st (sJ h a k x) o) : z_G ρ mi pc L (vl x :: vr (some a) :: st) h (if hT h a = t then o else none) :=
  z_putf (h' := sJ h a k x) hf hfin rfl rfl (fun b => ⟨rfl, rfl⟩) (fun b hb j => ⟨rfl, by rw [hJ_sJ, if_neg (fun q => hb q.1)], rfl⟩) (fun j hj => ⟨rfl, by rw [hJ_sJ, if_neg (fun q => hj q.2)], rfl⟩) (fun w H0 => by rw [hty]; exact ⟨by simp [z_sv, hJ_sJ, z_cv], rfl, rfl⟩) d g
theorem z_ref_ok {ty : FieldType} (hty : z_rty ty = true) (r : Option Nat) : narrow ty (va_rf r) = va_rf r ∧ fits ty (va_rf r) = true := by
  cases ty <;> cases r <;> first | exact ⟨rfl, rfl⟩ | (simp [z_rty] at hty)
theorem z_putR {α : Type} {ρ : α → z_R} {mi : z_MI} {pc : Nat} {L : List (Nat × z_V)} {st : List z_V} {h : z_Hp} {o : Option α} {a t k idx : Nat} {x : Option Nat} (hf : z_fl mi.1.cls idx t k) (hfin : z_fin mi t k) (hty : z_rty (z_ft t k) = true) (d : decode mi.2.1 pc = .ok (.putfield idx, 3))
    (g : z_G ρ mi (pc + 3) L st (sR h a k x) o) : z_G ρ mi pc L (vr x :: vr (some a) :: st) h (if hT h a = t then o else none) :=
  z_putf (h' := sR h a k x) hf hfin rfl rfl (fun b => ⟨rfl, rfl⟩) (fun b hb j => ⟨rfl, rfl, by rw [hR_sR, if_neg (fun q => hb q.1)]⟩) (fun j hj => ⟨rfl, rfl, by rw [hR_sR, if_neg (fun q => hj q.2)]⟩) (fun w H0 => ⟨by rw [z_sv_ref hty, hR_sR, if_pos ⟨rfl, rfl⟩]; rfl, z_ref_ok hty _⟩) d g
