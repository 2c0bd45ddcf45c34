section LawLoop
theorem fr_I {mi : z_MI} {avs : List z_V} {h : z_Hp} {o : Option (Int32 × z_Hp)} (c : z_Ct zi mi avs h o) {r : Int32} {h1 : z_Hp} (e : o = some (r, h1)) : z_Fr h h1 := (c (some (vi r)) h1 (by rw [e]; rfl)).1.2.2
theorem fr_L {mi : z_MI} {avs : List z_V} {h : z_Hp} {o : Option (Int64 × z_Hp)} (c : z_Ct zl mi avs h o) {r : Int64} {h1 : z_Hp} (e : o = some (r, h1)) : z_Fr h h1 := (c (some (vl r)) h1 (by rw [e]; rfl)).1.2.2
theorem Inv.fx {h : z_Hp} (J : Inv h) : Ifx h := by
  obtain ⟨ow, J⟩ := J
  exact J.2.1
theorem Inv.t4 {h : z_Hp} (J : Inv h) : hT h 4 = 19 := by
  obtain ⟨ow, -, -, -, -, -, -, -, -, -, -, -, -, -, -, -, -, -, -, r⟩ := J
  exact r.1 4 (by decide)
/-- what lasts over a call -/
theorem lw_keep {h h1 : z_Hp} (I : Ifx h) (t4 : hT h 4 = 19) (f : z_Fr h h1) : hT h1 46 = 10 ∧ hN h1 4 = hN h 4 ∧ (∀ j, hI h1 4 j = hI h 4 j) ∧ (∀ a, hZ h1 ≤ a → hT h1 a = 99) ∧ hT h1 4 = 19 ∧ 94 ≤ hZ h1 := by
  obtain ⟨f1, f2, f3⟩ := f I.2.2.2
  have z := I.2.2.1
  obtain ⟨a1, a2, a3⟩ := f3 4 (by omega)
  obtain ⟨b1, -, -⟩ := f3 46 (by omega)
  exact ⟨b1.trans (fT46 I), a2, a3 t4, f1, a1.trans t4, by omega⟩
theorem lw_getI {h : z_Hp} {ox : Option (Int32 × z_Hp)} {om : z_Hp → Option (Int32 × z_Hp)} (J : Inv h) (ok : OkI h ox om) (f1 : ∀ r h1, ox = some (r, h1) → z_Fr h h1) (f2 : ∀ h1 r h2, om h1 = some (r, h2) → z_Fr h1 h2) :
    ∃ r h1 h2, ox = some (r, h1) ∧ om h1 = some (r, h2) ∧ hT h1 46 = 10 ∧ hN h1 4 = hN h 4 ∧ (∀ j, hI h1 4 j = hI h 4 j) ∧ Inv h2 ∧ hZ h2 ≤ hZ h + 5 ∧ hS h2 ≤ hS h + 5000 ∧ hN h2 4 = hN h 4 := by
  obtain ⟨r, h1, h2, e1, e2, J2, z2, s2⟩ := ok
  obtain ⟨a1, a2, a3, a4, a5, a6⟩ := lw_keep J.fx J.t4 (f1 r h1 e1)
  obtain ⟨-, -, b3⟩ := f2 h1 r h2 e2 a4
  exact ⟨r, h1, h2, e1, e2, a1, a2, a3, J2, z2, s2, (b3 4 (by omega)).2.1.trans a2⟩
theorem lw_getL {h : z_Hp} {ox : Option (Int64 × z_Hp)} {om : z_Hp → Option (Int64 × z_Hp)} (J : Inv h) (ok : OkL h ox om) (f1 : ∀ r h1, ox = some (r, h1) → z_Fr h h1) (f2 : ∀ h1 r h2, om h1 = some (r, h2) → z_Fr h1 h2) :
    ∃ r h1 h2, ox = some (r, h1) ∧ om h1 = some (r, h2) ∧ hT h1 46 = 10 ∧ hN h1 4 = hN h 4 ∧ (∀ j, hI h1 4 j = hI h 4 j) ∧ Inv h2 ∧ hZ h2 ≤ hZ h + 5 ∧ hS h2 ≤ hS h + 5000 ∧ hN h2 4 = hN h 4 := by
  obtain ⟨r, h1, h2, e1, e2, J2, z2, s2⟩ := ok
  obtain ⟨a1, a2, a3, a4, a5, a6⟩ := lw_keep J.fx J.t4 (f1 r h1 e1)
  obtain ⟨-, -, b3⟩ := f2 h1 r h2 e2 a4
  exact ⟨r, h1, h2, e1, e2, a1, a2, a3, J2, z2, s2, (b3 4 (by omega)).2.1.trans a2⟩
/-- the way on behind a turn -/
def Nxt (h : z_Hp) (K : z_Hp → Option (Int32 × z_Hp)) (P : Int32 × z_Hp → Prop) : Prop := ∀ h2, Inv h2 → hZ h2 ≤ hZ h + 5 → hS h2 ≤ hS h + 5000 → hN h2 4 = hN h 4 → Wp (K h2) P
variable {h : z_Hp} {P : Int32 × z_Hp → Prop} {K : z_Hp → Option (Int32 × z_Hp)}
theorem lw_a0 {C D : z_Hp → Option (Int32 × z_Hp)}  (J : Inv h) (k : Nxt h K P)  (ok : OkI h (C h) (D)) (f1 : ∀ r h1, C h = some (r, h1) → z_Fr h h1) (f2 : ∀ h1 r h2, D h1 = some (r, h2) → z_Fr h1 h2) :
    Wp (if hT h 5 = 9 then (bI (C h) (fun x15 h14 => (if hT h14 46 = 10 then (bI (D  h14) (fun x17 h16 => (if x15 = x17 then (K h16) else (some (0, h16))))) else none))) else none) P := by
  obtain ⟨r, h1, h2, e1, e2, e3, e4, e5, e6, e7, e8, e9⟩ := lw_getI J ok f1 f2
  exact Wp.ifT (fT5 J.fx) (Wp.cIe e1 (Wp.ifT e3 (Wp.cIe (x := r) (h := h2) (by exact e2) (Wp.ifT rfl (k h2 e6 e7 e8 e9)))))
theorem lw_a1 {C D : Int32 → z_Hp → Option (Int32 × z_Hp)} {i1 : Int32} (J : Inv h) (k : Nxt h K P) (b1 : inb i1 (hN h 4) = true) (ok : OkI h (C (hI h 4 (ix i1)) h) (D (hI h 4 (ix i1)))) (f1 : ∀ r h1, C (hI h 4 (ix i1)) h = some (r, h1) → z_Fr h h1) (f2 : ∀ h1 r h2, D (hI h 4 (ix i1)) h1 = some (r, h2) → z_Fr h1 h2) :
    Wp (if inb i1 (hN h 4) = true then (if hT h 5 = 9 then (bI (C (hI h 4 (ix i1)) h) (fun x15 h14 => (if inb i1 (hN h14 4) = true then (if hT h14 46 = 10 then (bI (D (hI h14 4 (ix i1)) h14) (fun x17 h16 => (if x15 = x17 then (K h16) else (some (0, h16))))) else none) else none))) else none) else none) P := by
  obtain ⟨r, h1, h2, e1, e2, e3, e4, e5, e6, e7, e8, e9⟩ := lw_getI J ok f1 f2
  exact Wp.ifT b1 (Wp.ifT (fT5 J.fx) (Wp.cIe e1 (Wp.ifT (by rw [e4]; exact b1) (Wp.ifT e3 (Wp.cIe (x := r) (h := h2) (by simp only [e5]; exact e2) (Wp.ifT rfl (k h2 e6 e7 e8 e9)))))))
theorem lw_a2 {C D : Int32 → Int32 → z_Hp → Option (Int32 × z_Hp)} {i1 i2 : Int32} (J : Inv h) (k : Nxt h K P) (b1 : inb i1 (hN h 4) = true) (b2 : inb i2 (hN h 4) = true) (ok : OkI h (C (hI h 4 (ix i1)) (hI h 4 (ix i2)) h) (D (hI h 4 (ix i1)) (hI h 4 (ix i2)))) (f1 : ∀ r h1, C (hI h 4 (ix i1)) (hI h 4 (ix i2)) h = some (r, h1) → z_Fr h h1) (f2 : ∀ h1 r h2, D (hI h 4 (ix i1)) (hI h 4 (ix i2)) h1 = some (r, h2) → z_Fr h1 h2) :
    Wp (if inb i1 (hN h 4) = true then (if inb i2 (hN h 4) = true then (if hT h 5 = 9 then (bI (C (hI h 4 (ix i1)) (hI h 4 (ix i2)) h) (fun x15 h14 => (if inb i1 (hN h14 4) = true then (if inb i2 (hN h14 4) = true then (if hT h14 46 = 10 then (bI (D (hI h14 4 (ix i1)) (hI h14 4 (ix i2)) h14) (fun x17 h16 => (if x15 = x17 then (K h16) else (some (0, h16))))) else none) else none) else none))) else none) else none) else none) P := by
  obtain ⟨r, h1, h2, e1, e2, e3, e4, e5, e6, e7, e8, e9⟩ := lw_getI J ok f1 f2
  exact Wp.ifT b1 (Wp.ifT b2 (Wp.ifT (fT5 J.fx) (Wp.cIe e1 (Wp.ifT (by rw [e4]; exact b1) (Wp.ifT (by rw [e4]; exact b2) (Wp.ifT e3 (Wp.cIe (x := r) (h := h2) (by simp only [e5]; exact e2) (Wp.ifT rfl (k h2 e6 e7 e8 e9)))))))))
theorem lw_a3 {C D : Int32 → Int32 → Int32 → z_Hp → Option (Int32 × z_Hp)} {i1 i2 i3 : Int32} (J : Inv h) (k : Nxt h K P) (b1 : inb i1 (hN h 4) = true) (b2 : inb i2 (hN h 4) = true) (b3 : inb i3 (hN h 4) = true) (ok : OkI h (C (hI h 4 (ix i1)) (hI h 4 (ix i2)) (hI h 4 (ix i3)) h) (D (hI h 4 (ix i1)) (hI h 4 (ix i2)) (hI h 4 (ix i3)))) (f1 : ∀ r h1, C (hI h 4 (ix i1)) (hI h 4 (ix i2)) (hI h 4 (ix i3)) h = some (r, h1) → z_Fr h h1) (f2 : ∀ h1 r h2, D (hI h 4 (ix i1)) (hI h 4 (ix i2)) (hI h 4 (ix i3)) h1 = some (r, h2) → z_Fr h1 h2) :
    Wp (if inb i1 (hN h 4) = true then (if inb i2 (hN h 4) = true then (if inb i3 (hN h 4) = true then (if hT h 5 = 9 then (bI (C (hI h 4 (ix i1)) (hI h 4 (ix i2)) (hI h 4 (ix i3)) h) (fun x15 h14 => (if inb i1 (hN h14 4) = true then (if inb i2 (hN h14 4) = true then (if inb i3 (hN h14 4) = true then (if hT h14 46 = 10 then (bI (D (hI h14 4 (ix i1)) (hI h14 4 (ix i2)) (hI h14 4 (ix i3)) h14) (fun x17 h16 => (if x15 = x17 then (K h16) else (some (0, h16))))) else none) else none) else none) else none))) else none) else none) else none) else none) P := by
  obtain ⟨r, h1, h2, e1, e2, e3, e4, e5, e6, e7, e8, e9⟩ := lw_getI J ok f1 f2
  exact Wp.ifT b1 (Wp.ifT b2 (Wp.ifT b3 (Wp.ifT (fT5 J.fx) (Wp.cIe e1 (Wp.ifT (by rw [e4]; exact b1) (Wp.ifT (by rw [e4]; exact b2) (Wp.ifT (by rw [e4]; exact b3) (Wp.ifT e3 (Wp.cIe (x := r) (h := h2) (by simp only [e5]; exact e2) (Wp.ifT rfl (k h2 e6 e7 e8 e9)))))))))))
theorem lw_a4 {C D : Int32 → Int32 → Int32 → Int32 → z_Hp → Option (Int32 × z_Hp)} {i1 i2 i3 i4 : Int32} (J : Inv h) (k : Nxt h K P) (b1 : inb i1 (hN h 4) = true) (b2 : inb i2 (hN h 4) = true) (b3 : inb i3 (hN h 4) = true) (b4 : inb i4 (hN h 4) = true) (ok : OkI h (C (hI h 4 (ix i1)) (hI h 4 (ix i2)) (hI h 4 (ix i3)) (hI h 4 (ix i4)) h) (D (hI h 4 (ix i1)) (hI h 4 (ix i2)) (hI h 4 (ix i3)) (hI h 4 (ix i4)))) (f1 : ∀ r h1, C (hI h 4 (ix i1)) (hI h 4 (ix i2)) (hI h 4 (ix i3)) (hI h 4 (ix i4)) h = some (r, h1) → z_Fr h h1) (f2 : ∀ h1 r h2, D (hI h 4 (ix i1)) (hI h 4 (ix i2)) (hI h 4 (ix i3)) (hI h 4 (ix i4)) h1 = some (r, h2) → z_Fr h1 h2) :
    Wp (if inb i1 (hN h 4) = true then (if inb i2 (hN h 4) = true then (if inb i3 (hN h 4) = true then (if inb i4 (hN h 4) = true then (if hT h 5 = 9 then (bI (C (hI h 4 (ix i1)) (hI h 4 (ix i2)) (hI h 4 (ix i3)) (hI h 4 (ix i4)) h) (fun x15 h14 => (if inb i1 (hN h14 4) = true then (if inb i2 (hN h14 4) = true then (if inb i3 (hN h14 4) = true then (if inb i4 (hN h14 4) = true then (if hT h14 46 = 10 then (bI (D (hI h14 4 (ix i1)) (hI h14 4 (ix i2)) (hI h14 4 (ix i3)) (hI h14 4 (ix i4)) h14) (fun x17 h16 => (if x15 = x17 then (K h16) else (some (0, h16))))) else none) else none) else none) else none) else none))) else none) else none) else none) else none) else none) P := by
  obtain ⟨r, h1, h2, e1, e2, e3, e4, e5, e6, e7, e8, e9⟩ := lw_getI J ok f1 f2
  exact Wp.ifT b1 (Wp.ifT b2 (Wp.ifT b3 (Wp.ifT b4 (Wp.ifT (fT5 J.fx) (Wp.cIe e1 (Wp.ifT (by rw [e4]; exact b1) (Wp.ifT (by rw [e4]; exact b2) (Wp.ifT (by rw [e4]; exact b3) (Wp.ifT (by rw [e4]; exact b4) (Wp.ifT e3 (Wp.cIe (x := r) (h := h2) (by simp only [e5]; exact e2) (Wp.ifT rfl (k h2 e6 e7 e8 e9)))))))))))))
theorem lw_a5 {C D : Int32 → Int32 → Int32 → Int32 → Int32 → z_Hp → Option (Int32 × z_Hp)} {i1 i2 i3 i4 i5 : Int32} (J : Inv h) (k : Nxt h K P) (b1 : inb i1 (hN h 4) = true) (b2 : inb i2 (hN h 4) = true) (b3 : inb i3 (hN h 4) = true) (b4 : inb i4 (hN h 4) = true) (b5 : inb i5 (hN h 4) = true) (ok : OkI h (C (hI h 4 (ix i1)) (hI h 4 (ix i2)) (hI h 4 (ix i3)) (hI h 4 (ix i4)) (hI h 4 (ix i5)) h) (D (hI h 4 (ix i1)) (hI h 4 (ix i2)) (hI h 4 (ix i3)) (hI h 4 (ix i4)) (hI h 4 (ix i5)))) (f1 : ∀ r h1, C (hI h 4 (ix i1)) (hI h 4 (ix i2)) (hI h 4 (ix i3)) (hI h 4 (ix i4)) (hI h 4 (ix i5)) h = some (r, h1) → z_Fr h h1) (f2 : ∀ h1 r h2, D (hI h 4 (ix i1)) (hI h 4 (ix i2)) (hI h 4 (ix i3)) (hI h 4 (ix i4)) (hI h 4 (ix i5)) h1 = some (r, h2) → z_Fr h1 h2) :
    Wp (if inb i1 (hN h 4) = true then (if inb i2 (hN h 4) = true then (if inb i3 (hN h 4) = true then (if inb i4 (hN h 4) = true then (if inb i5 (hN h 4) = true then (if hT h 5 = 9 then (bI (C (hI h 4 (ix i1)) (hI h 4 (ix i2)) (hI h 4 (ix i3)) (hI h 4 (ix i4)) (hI h 4 (ix i5)) h) (fun x15 h14 => (if inb i1 (hN h14 4) = true then (if inb i2 (hN h14 4) = true then (if inb i3 (hN h14 4) = true then (if inb i4 (hN h14 4) = true then (if inb i5 (hN h14 4) = true then (if hT h14 46 = 10 then (bI (D (hI h14 4 (ix i1)) (hI h14 4 (ix i2)) (hI h14 4 (ix i3)) (hI h14 4 (ix i4)) (hI h14 4 (ix i5)) h14) (fun x17 h16 => (if x15 = x17 then (K h16) else (some (0, h16))))) else none) else none) else none) else none) else none) else none))) else none) else none) else none) else none) else none) else none) P := by
  obtain ⟨r, h1, h2, e1, e2, e3, e4, e5, e6, e7, e8, e9⟩ := lw_getI J ok f1 f2
  exact Wp.ifT b1 (Wp.ifT b2 (Wp.ifT b3 (Wp.ifT b4 (Wp.ifT b5 (Wp.ifT (fT5 J.fx) (Wp.cIe e1 (Wp.ifT (by rw [e4]; exact b1) (Wp.ifT (by rw [e4]; exact b2) (Wp.ifT (by rw [e4]; exact b3) (Wp.ifT (by rw [e4]; exact b4) (Wp.ifT (by rw [e4]; exact b5) (Wp.ifT e3 (Wp.cIe (x := r) (h := h2) (by simp only [e5]; exact e2) (Wp.ifT rfl (k h2 e6 e7 e8 e9)))))))))))))))
theorem lg_self (r : Int64) : lg_cmp r r = 0 := (lg_cmp_eq r r).mpr rfl
theorem lw_l0 {C D : z_Hp → Option (Int64 × z_Hp)} (J : Inv h) (k : Nxt h K P) (ok : OkL h (C h) D) (f1 : ∀ r h1, C h = some (r, h1) → z_Fr h h1) (f2 : ∀ h1 r h2, D h1 = some (r, h2) → z_Fr h1 h2) :
    Wp (if hT h 5 = 9 then (bL (C h) (fun x15 h14 => (if hT h14 46 = 10 then (bL (D h14) (fun x17 h16 => (if (lg_cmp x15 x17) = 0 then (K h16) else (some (0, h16))))) else none))) else none) P := by
  obtain ⟨r, h1, h2, e1, e2, e3, e4, e5, e6, e7, e8, e9⟩ := lw_getL J ok f1 f2
  exact Wp.ifT (fT5 J.fx) (Wp.cLe e1 (Wp.ifT e3 (Wp.cLe e2 (Wp.ifT (lg_self r) (k h2 e6 e7 e8 e9)))))
theorem lw_yr {C D : Int32 → Int32 → z_Hp → Option (Int32 × z_Hp)} {i1 i2 : Int32} (J : Inv h) (k : Nxt h K P) (b1 : inb i1 (hN h 4) = true) (b2 : inb i2 (hN h 4) = true) (ok : ∀ v, OkI h (C (hI h 4 (ix i1)) v h) (D (hI h 4 (ix i1)) v)) (f1 : ∀ v r h1, C (hI h 4 (ix i1)) v h = some (r, h1) → z_Fr h h1) (f2 : ∀ v h1 r h2, D (hI h 4 (ix i1)) v h1 = some (r, h2) → z_Fr h1 h2) :
    Wp (if inb i1 (hN h 4) = true then (if inb i2 (hN h 4) = true then (lt_ (fun (x139 : Int32) (h140 : z_Hp) => (if hT h140 5 = 9 then (bI (C (hI h 4 (ix i1)) x139 h140) (fun x142 h141 => (if inb i1 (hN h141 4) = true then (if inb i2 (hN h141 4) = true then (lt_ (fun (x144 : Int32) (h145 : z_Hp) => (if hT h145 46 = 10 then (bI (D (hI h141 4 (ix i1)) x144 h145) (fun x147 h146 => (if x142 = x147 then (K h146) else (some (0, h146))))) else none)) (fun (j1384_143 : Int32 → z_Hp → Option (Int32 × z_Hp)) => (if (hI h141 4 (ix i2)) = 0 then (j1384_143 0 h141) else (j1384_143 1 h141)))) else none) else none))) else none)) (fun (j1362_138 : Int32 → z_Hp → Option (Int32 × z_Hp)) => (if (hI h 4 (ix i2)) = 0 then (j1362_138 0 h) else (j1362_138 1 h)))) else none) else none) P := by
  refine Wp.ifT b1 (Wp.ifT b2 (Wp.lj (fun j hj => ?_)))
  by_cases c : hI h 4 (ix i2) = 0
  · refine Wp.ifT c ?_
    subst hj
    obtain ⟨r, h1, h2, e1, e2, e3, e4, e5, e6, e7, e8, e9⟩ := lw_getI J (ok 0) (f1 0) (f2 0)
    refine Wp.ifT (fT5 J.fx) (Wp.cIe e1 (Wp.ifT (by rw [e4]; exact b1) (Wp.ifT (by rw [e4]; exact b2) (Wp.lj (fun j2 hj2 => ?_)))))
    refine Wp.ifT (by rw [e5]; exact c) ?_
    subst hj2
    exact Wp.ifT e3 (Wp.cIe (x := r) (h := h2) (by rw [e5]; exact e2) (Wp.ifT rfl (k h2 e6 e7 e8 e9)))
  · refine Wp.ifF c ?_
    subst hj
    obtain ⟨r, h1, h2, e1, e2, e3, e4, e5, e6, e7, e8, e9⟩ := lw_getI J (ok 1) (f1 1) (f2 1)
    refine Wp.ifT (fT5 J.fx) (Wp.cIe e1 (Wp.ifT (by rw [e4]; exact b1) (Wp.ifT (by rw [e4]; exact b2) (Wp.lj (fun j2 hj2 => ?_)))))
    refine Wp.ifF (by rw [e5]; exact c) ?_
    subst hj2
    exact Wp.ifT e3 (Wp.cIe (x := r) (h := h2) (by rw [e5]; exact e2) (Wp.ifT rfl (k h2 e6 e7 e8 e9)))
end LawLoop
