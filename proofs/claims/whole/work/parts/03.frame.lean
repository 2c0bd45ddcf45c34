/-! ===== the heap as a value: ints, longs, references by address and place; kind and size of each cell; how many cells and slots ===== -/
abbrev z_Hp : Type := (Nat → Nat → Int32) × (Nat → Nat → Int64) × (Nat → Nat → Option Nat) × (Nat → Nat × Nat) × Nat × Nat
def hI (h : z_Hp) (a i : Nat) : Int32 := h.1 a i
def hJ (h : z_Hp) (a i : Nat) : Int64 := h.2.1 a i
def hR (h : z_Hp) (a i : Nat) : Option Nat := h.2.2.1 a i
def hT (h : z_Hp) (a : Nat) : Nat := (h.2.2.2.1 a).1
def hN (h : z_Hp) (a : Nat) : Nat := (h.2.2.2.1 a).2
def hZ (h : z_Hp) : Nat := h.2.2.2.2.1
def hS (h : z_Hp) : Nat := h.2.2.2.2.2
def sI (h : z_Hp) (a i : Nat) (x : Int32) : z_Hp := (fun b j => if b = a ∧ j = i then x else h.1 b j, h.2)
def sJ (h : z_Hp) (a i : Nat) (x : Int64) : z_Hp := (h.1, fun b j => if b = a ∧ j = i then x else h.2.1 b j, h.2.2)
def sR (h : z_Hp) (a i : Nat) (x : Option Nat) : z_Hp := (h.1, h.2.1, fun b j => if b = a ∧ j = i then x else h.2.2.1 b j, h.2.2.2)
def nw (h : z_Hp) (t n : Nat) : z_Hp := (fun b j => if b = hZ h then 0 else h.1 b j, fun b j => if b = hZ h then 0 else h.2.1 b j, fun b j => if b = hZ h then none else h.2.2.1 b j, fun b => if b = hZ h then (t, n) else h.2.2.2.1 b, hZ h + 1, hS h + n)
/-- n ints from place sp of a to place dp of b, as if taken ahead -/
def cpI (h : z_Hp) (a sp b dp n : Nat) : z_Hp := (fun x j => if x = b then va_cpy (h.1 a) (h.1 b) sp dp n j else h.1 x j, h.2)
section HpRows
variable (h : z_Hp) (a b i j t n : Nat) (x : Int32) (y : Int64) (r : Option Nat)
theorem hI_sI : hI (sI h a i x) b j = if b = a ∧ j = i then x else hI h b j := rfl
theorem hJ_sI : hJ (sI h a i x) b j = hJ h b j := rfl
theorem hR_sI : hR (sI h a i x) b j = hR h b j := rfl
theorem hT_sI : hT (sI h a i x) b = hT h b := rfl
theorem hN_sI : hN (sI h a i x) b = hN h b := rfl
theorem hZ_sI : hZ (sI h a i x) = hZ h := rfl
theorem hS_sI : hS (sI h a i x) = hS h := rfl
theorem hI_sJ : hI (sJ h a i y) b j = hI h b j := rfl
theorem hJ_sJ : hJ (sJ h a i y) b j = if b = a ∧ j = i then y else hJ h b j := rfl
theorem hR_sJ : hR (sJ h a i y) b j = hR h b j := rfl
theorem hT_sJ : hT (sJ h a i y) b = hT h b := rfl
theorem hN_sJ : hN (sJ h a i y) b = hN h b := rfl
theorem hZ_sJ : hZ (sJ h a i y) = hZ h := rfl
theorem hS_sJ : hS (sJ h a i y) = hS h := rfl
theorem hI_sR : hI (sR h a i r) b j = hI h b j := rfl
theorem hJ_sR : hJ (sR h a i r) b j = hJ h b j := rfl
theorem hR_sR : hR (sR h a i r) b j = if b = a ∧ j = i then r else hR h b j := rfl
theorem hT_sR : hT (sR h a i r) b = hT h b := rfl
theorem hN_sR : hN (sR h a i r) b = hN h b := rfl
theorem hZ_sR : hZ (sR h a i r) = hZ h := rfl
theorem hS_sR : hS (sR h a i r) = hS h := rfl
theorem hI_nw : hI (nw h t n) b j = if b = hZ h then 0 else hI h b j := rfl
theorem hJ_nw : hJ (nw h t n) b j = if b = hZ h then 0 else hJ h b j := rfl
theorem hR_nw : hR (nw h t n) b j = if b = hZ h then none else hR h b j := rfl
theorem hT_nw : hT (nw h t n) b = if b = hZ h then t else hT h b := by
  show (if b = hZ h then (t, n) else h.2.2.2.1 b).1 = _
  split <;> rfl
theorem hN_nw : hN (nw h t n) b = if b = hZ h then n else hN h b := by
  show (if b = hZ h then (t, n) else h.2.2.2.1 b).2 = _
  split <;> rfl
theorem hZ_nw : hZ (nw h t n) = hZ h + 1 := rfl
theorem hS_nw : hS (nw h t n) = hS h + n := rfl
theorem hI_cp (s d : Nat) (q : Nat) : hI (cpI h a s b d n) q j = if q = b then va_cpy (hI h a) (hI h b) s d n j else hI h q j := rfl
theorem hJ_cp (s d q : Nat) : hJ (cpI h a s b d n) q j = hJ h q j := rfl
theorem hR_cp (s d q : Nat) : hR (cpI h a s b d n) q j = hR h q j := rfl
theorem hT_cp (s d q : Nat) : hT (cpI h a s b d n) q = hT h q := rfl
theorem hN_cp (s d q : Nat) : hN (cpI h a s b d n) q = hN h q := rfl
theorem hZ_cp (s d : Nat) : hZ (cpI h a s b d n) = hZ h := rfl
theorem hS_cp (s d : Nat) : hS (cpI h a s b d n) = hS h := rfl
end HpRows
/-! ===== values ===== -/
abbrev z_V : Type := Int32 ⊕ (Int64 ⊕ Option Nat)
abbrev vi (x : Int32) : z_V := .inl x
abbrev vl (x : Int64) : z_V := .inr (.inl x)
abbrev vr (o : Option Nat) : z_V := .inr (.inr o)
abbrev ix (i : Int32) : Nat := i.toNatClampNeg
/-- a named value -/
def lt_ {α β : Type} (v : α) (k : α → β) : β := k v
/-- a reference that must not be null -/
def nn {α : Type} (o : Option Nat) (k : Nat → Option α) : Option α := match o with
  | some a => k a
  | none => none
/-- null or not -/
def nl {α : Type} (o : Option Nat) (A : Option α) (k : Nat → Option α) : Option α := match o with
  | some a => k a
  | none => A
abbrev z_R : Type := Option z_V × z_Hp
abbrev zi (q : Int32 × z_Hp) : z_R := (some (vi q.1), q.2)
abbrev zl (q : Int64 × z_Hp) : z_R := (some (vl q.1), q.2)
abbrev zr (q : Option Nat × z_Hp) : z_R := (some (vr q.1), q.2)
abbrev zv (q : z_Hp) : z_R := (none, q)
/-! ===== how the heap lies in the machine's: dC, dI: classes and slots; dA: array classes; the start's size; where the arrays of the start are (the class's four static ones, the script), and what they hold ===== -/
abbrev z_M : Type := (Nat → ClassId) × (Nat → Nat → Nat) × (Nat → ClassId) × (Nat → Nat) × (Nat → Nat) × (Nat → Nat → Int32)
def z_ad (w : z_M) (H0 : Heap) (a : Nat) : Nat := if a < 5 then w.2.2.2.1 a else H0.size + (a - 5)
def z_cv (w : z_M) (H0 : Heap) : z_V → Value
  | .inl x => .int x
  | .inr (.inl x) => .long x
  | .inr (.inr o) => va_rf (o.map (z_ad w H0))
def z_el (t : Nat) : FieldType := match t with
  | 20 => .int
  | 21 => .byte
  | 22 => .long
  | 23 => .array .int
  | 24 => .array .byte
  | 25 => .object "BalladSheets$Song"
  | _ => .object "BalladSheets$Sheet"
def z_ft (t : Nat) : Nat → FieldType := match t with
  | 0 => tyX0
  | 1 => tyX1
  | 2 => tyX2
  | 3 => tyX3
  | 4 => tyX4
  | 5 => tyX5
  | 6 => tyX6
  | 7 => tyX7
  | 8 => tyX8
  | 9 => tyX9
  | _ => tyX10
def z_sv (w : z_M) (H0 : Heap) (ty : FieldType) (h : z_Hp) (a j : Nat) : Value := match ty with
  | .long => .long (hJ h a j)
  | .object _ => va_rf ((hR h a j).map (z_ad w H0))
  | .array _ => va_rf ((hR h a j).map (z_ad w H0))
  | _ => .int (hI h a j)
def z_cell (w : z_M) (H0 : Heap) (h : z_Hp) (a : Nat) (H : Heap) : Prop :=
  (∃ q : vw_C, vwCl[hT h a]? = some q ∧ hN h a = q.2.2 ∧ t_OB (z_ad w H0 a) (w.1 (hT h a)) q.2.2 (w.2.1 (hT h a)) H (fun k => z_sv w H0 (z_ft (hT h a) k) h a k)) ∨
  (20 ≤ hT h a ∧ hT h a ≤ 26 ∧ H[z_ad w H0 a]? = some (arrV (w.2.2.1 (hT h a)) (hN h a) (z_sv w H0 (z_el (hT h a)) h a)) ∧ (hT h a = 21 → ∀ j, fits .byte (.int (hI h a j)) = true))
