section Bld
/-- the start's rows -/
def z_sN (L : Nat) (k : Nat) : Nat := match k with
  | 0 => 7
  | 1 => 0
  | 2 => 5
  | 3 => 5
  | _ => L
def z_sV (xs : Nat → Int32) (k j : Nat) : Int32 := if k = 4 then xs j else z_tab k j
def z_h0 (L : Nat) (xs : Nat → Int32) : z_Hp := (fun a j => if a < 5 then z_sV xs a j else 0, fun _ _ => 0, fun _ _ => none, fun a => if a < 5 then (19, z_sN L a) else (99, 0), 5, 0)
/-- a cell of the list -/
def lkT : List (Nat × Nat × Nat) → Nat → Nat × Nat
  | [], _ => (99, 0)
  | e :: t, a => if a = e.1 then e.2 else lkT t a
def lkR : List (Nat × Nat × Nat) → Nat → Nat → Option Nat
  | [], _, _ => none
  | e :: t, a, i => if a = e.1 ∧ i = e.2.1 then some e.2.2 else lkR t a i
def lkJ : List (Nat × Nat) → Nat → Nat → Int64
  | [], _, _ => 0
  | e :: t, a, i => if a = e.1 ∧ i = e.2 then 1 else lkJ t a i
/-- a heap by lists -/
def Bd (L z s : Nat) (V : Nat → Nat → Int32) (ts rs : List (Nat × Nat × Nat)) (js : List (Nat × Nat)) : z_Hp := (V, lkJ js, lkR rs, fun a => if a < 5 then (19, z_sN L a) else lkT ts a, z, s)
theorem z_h0_bd (L : Nat) (xs : Nat → Int32) : z_h0 L xs = Bd L 5 0 (fun a j => if a < 5 then z_sV xs a j else 0) [] [] [] := rfl
theorem lkR_no {z i : Nat} : ∀ {rs : List (Nat × Nat × Nat)}, (∀ e ∈ rs, e.1 < z) → lkR rs z i = none
  | [], _ => rfl
  | e :: t, h => by
    have := h e List.mem_cons_self
    show (if z = e.1 ∧ i = e.2.1 then some e.2.2 else lkR t z i) = none
    rw [if_neg (by omega)]
    exact lkR_no (fun f hf => h f (List.mem_cons_of_mem _ hf))
theorem lkJ_no {z i : Nat} : ∀ {js : List (Nat × Nat)}, (∀ e ∈ js, e.1 < z) → lkJ js z i = 0
  | [], _ => rfl
  | e :: t, h => by
    have := h e List.mem_cons_self
    show (if z = e.1 ∧ i = e.2 then 1 else lkJ t z i) = 0
    rw [if_neg (by omega)]
    exact lkJ_no (fun f hf => h f (List.mem_cons_of_mem _ hf))
theorem nw_bd {L z s t n : Nat} {V : Nat → Nat → Int32} {ts rs : List (Nat × Nat × Nat)} {js : List (Nat × Nat)} (h5 : 5 ≤ z) (hv : ∀ a j, z ≤ a → V a j = 0) (hr : ∀ e ∈ rs, e.1 < z) (hj : ∀ e ∈ js, e.1 < z) : nw (Bd L z s V ts rs js) t n = Bd L (z + 1) (s + n) V ((z, t, n) :: ts) rs js := by
  show ((fun b j => if b = z then 0 else V b j), (fun b j => if b = z then 0 else lkJ js b j), (fun b j => if b = z then none else lkR rs b j), (fun b => if b = z then (t, n) else if b < 5 then (19, z_sN L b) else lkT ts b), z + 1, s + n) = (V, lkJ js, lkR rs, (fun a => if a < 5 then (19, z_sN L a) else lkT ((z, t, n) :: ts) a), z + 1, s + n)
  have e1 : (fun b j => if b = z then 0 else V b j) = V := by
    funext b j
    by_cases c : b = z
    · rw [if_pos c, hv b j (by omega)]
    · rw [if_neg c]
  have e2 : (fun b j => if b = z then 0 else lkJ js b j) = lkJ js := by
    funext b j
    by_cases c : b = z
    · rw [if_pos c, c, lkJ_no hj]
    · rw [if_neg c]
  have e3 : (fun b j => if b = z then none else lkR rs b j) = lkR rs := by
    funext b j
    by_cases c : b = z
    · rw [if_pos c, c, lkR_no hr]
    · rw [if_neg c]
  have e4 : (fun b => if b = z then (t, n) else if b < 5 then (19, z_sN L b) else lkT ts b) = (fun a => if a < 5 then (19, z_sN L a) else lkT ((z, t, n) :: ts) a) := by
    funext b
    by_cases c : b = z
    · rw [if_pos c, if_neg (by omega)]
      exact (if_pos c).symm
    · rw [if_neg c]
      by_cases d : b < 5
      · rw [if_pos d, if_pos d]
      · rw [if_neg d, if_neg d]
        exact (if_neg c).symm
  rw [e1, e2, e3, e4]
theorem sR_bd {L z s a i b : Nat} {V : Nat → Nat → Int32} {ts rs : List (Nat × Nat × Nat)} {js : List (Nat × Nat)} : sR (Bd L z s V ts rs js) a i (some b) = Bd L z s V ts ((a, i, b) :: rs) js := rfl
theorem sJ_bd {L z s a i : Nat} {V : Nat → Nat → Int32} {ts rs : List (Nat × Nat × Nat)} {js : List (Nat × Nat)} : sJ (Bd L z s V ts rs js) a i 1 = Bd L z s V ts rs ((a, i) :: js) := rfl
end Bld
