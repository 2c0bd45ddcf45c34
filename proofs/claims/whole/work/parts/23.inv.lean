/-! ===== whose a place is: by numbers; 100 and more: scratch ===== -/
def ow0 (a i : Nat) : Nat :=
  if a < 5 then 20 else if a = 5 then (if i = 4 then 1 else if i = 12 then 2 else if i = 14 then 4 else if i = 15 then 3 else if 16 ≤ i then 5 else 20)
  else if a = 46 then (if i = 0 then 52 else if i = 2 then 53 else if i = 3 then 54 else if i = 4 then 55 else if i = 5 then 55 else if i = 6 then 51 else if i = 14 then 102 else if i = 19 then 64 else if i = 26 then 66 else if i = 39 then 104 else if i = 49 then 67 else if i = 55 then 69 else if i = 59 then 109 else if i = 60 then 109 else if i = 61 then 110 else 20)
  else if a = 6 then 10 else if a = 7 then 11 else if a = 8 then 12 else if a = 9 then 13
  else if a = 10 then (if i = 3 then 14 else 20) else if a ≤ 13 then 14
  else if a = 14 then (if i = 1 then 16 else 20) else if a = 15 then 16
  else if a = 16 then (if 2 ≤ i then 120 else 20) else if a ≤ 19 then 120
  else if a = 20 then 20 else if a ≤ 22 then 15 else if a = 23 then 121 else if a ≤ 25 then 122 else if a ≤ 27 then 123
  else if a = 28 then (if 5 ≤ i then 124 else 20) else if a = 29 then 125 else if a ≤ 33 then 124
  else if a = 34 then (if i = 4 then 17 else 20) else if a ≤ 38 then 17
  else if a = 39 then (if i = 5 then 19 else 20) else if a = 40 then 18 else if a ≤ 43 then 19 else if a = 44 then 126 else if a = 45 then 2
  else if a = 47 then 52 else if a ≤ 49 then 60 else if a = 50 then 101 else if a ≤ 52 then 61 else if a ≤ 54 then 62 else if a ≤ 56 then 102
  else if a ≤ 58 then 63 else if a ≤ 61 then 64 else if a = 62 then 103 else if a ≤ 64 then 65 else if a ≤ 76 then 66 else if a ≤ 78 then 104
  else if a = 79 then 105 else if a ≤ 81 then 106 else if a ≤ 83 then 107 else if a ≤ 85 then 108 else if a ≤ 88 then 67 else if a ≤ 90 then 68 else 69
abbrev Ow : Type := Nat → Nat → Nat
def OwOK (ow : Ow) : Prop := ∀ a i, a < 94 → ow a i = ow0 a i
/-- from h to h': nothing has changed but places of those in fs, and new cells -/
def St (fs : List Nat) (ow : Ow) (h h' : z_Hp) : Prop :=
  hZ h ≤ hZ h' ∧ (∀ a, a < hZ h → hT h' a = hT h a ∧ hN h' a = hN h a) ∧ (∀ a i, a < hZ h → ow a i ∉ fs → hI h' a i = hI h a i ∧ hJ h' a i = hJ h a i ∧ hR h' a i = hR h a i) ∧ ∀ a, hZ h' ≤ a → hT h' a = 99
theorem St.refl {ow : Ow} {h : z_Hp} (I : Ifx h) : St [] ow h h := ⟨Nat.le_refl _, fun _ _ => ⟨rfl, rfl⟩, fun _ _ _ _ => ⟨rfl, rfl, rfl⟩, I.2.2.2⟩
theorem St.trans {f1 f2 : List Nat} {ow : Ow} {h h1 h2 : z_Hp} (s1 : St f1 ow h h1) (s2 : St f2 ow h1 h2) : St (f1 ++ f2) ow h h2 := by
  obtain ⟨a1, b1, c1, d1⟩ := s1
  obtain ⟨a2, b2, c2, d2⟩ := s2
  refine ⟨Nat.le_trans a1 a2, fun a ha => ?_, fun a i ha hn => ?_, d2⟩
  · have h2 := b2 a (by omega)
    have h1 := b1 a ha
    exact ⟨h2.1.trans h1.1, h2.2.trans h1.2⟩
  · have h2 := c2 a i (by omega) (fun hm => hn (List.mem_append.mpr (Or.inr hm)))
    have h1 := c1 a i ha (fun hm => hn (List.mem_append.mpr (Or.inl hm)))
    exact ⟨h2.1.trans h1.1, h2.2.1.trans h1.2.1, h2.2.2.trans h1.2.2⟩
theorem St.sub {f1 f2 : List Nat} {ow : Ow} {h h1 : z_Hp} (s : St f1 ow h h1) (hf : ∀ x ∈ f1, x ∈ f2) : St f2 ow h h1 :=
  ⟨s.1, s.2.1, fun a i ha hn => s.2.2.1 a i ha (fun hm => hn (hf _ hm)), s.2.2.2⟩
theorem St.gI {fs : List Nat} {ow : Ow} {h h1 : z_Hp} (s : St fs ow h h1) {a i : Nat} {x : Int32} (ha : ow a i ∈ fs) : St fs ow h (sI h1 a i x) := by
  refine ⟨s.1, s.2.1, fun b j hb hn => ?_, s.2.2.2⟩
  obtain ⟨c1, c2, c3⟩ := s.2.2.1 b j hb hn
  refine ⟨?_, c2, c3⟩
  rw [hI_sI, if_neg (fun e => hn (by rw [e.1, e.2]; exact ha))]
  exact c1
theorem St.gJ {fs : List Nat} {ow : Ow} {h h1 : z_Hp} (s : St fs ow h h1) {a i : Nat} {x : Int64} (ha : ow a i ∈ fs) : St fs ow h (sJ h1 a i x) := by
  refine ⟨s.1, s.2.1, fun b j hb hn => ?_, s.2.2.2⟩
  obtain ⟨c1, c2, c3⟩ := s.2.2.1 b j hb hn
  refine ⟨c1, ?_, c3⟩
  rw [hJ_sJ, if_neg (fun e => hn (by rw [e.1, e.2]; exact ha))]
  exact c2
theorem St.gR {fs : List Nat} {ow : Ow} {h h1 : z_Hp} (s : St fs ow h h1) {a i : Nat} {x : Option Nat} (ha : ow a i ∈ fs) : St fs ow h (sR h1 a i x) := by
  refine ⟨s.1, s.2.1, fun b j hb hn => ?_, s.2.2.2⟩
  obtain ⟨c1, c2, c3⟩ := s.2.2.1 b j hb hn
  refine ⟨c1, c2, ?_⟩
  rw [hR_sR, if_neg (fun e => hn (by rw [e.1, e.2]; exact ha))]
  exact c3
theorem St.gN {fs : List Nat} {ow : Ow} {h h1 : z_Hp} (s : St fs ow h h1) {t n : Nat} : St fs ow h (nw h1 t n) := by
  refine ⟨Nat.le_trans s.1 (Nat.le_succ _), fun a ha => ?_, fun b j hb hn => ?_, fun a ha => ?_⟩
  · rw [hT_nw, hN_nw, if_neg (by have := s.1; omega), if_neg (by have := s.1; omega)]
    exact s.2.1 a ha
  · rw [hI_nw, hJ_nw, hR_nw, if_neg (by have := s.1; omega), if_neg (by have := s.1; omega), if_neg (by have := s.1; omega)]
    exact s.2.2.1 b j hb hn
  · rw [hZ_nw] at ha
    rw [hT_nw, if_neg (by omega)]
    exact s.2.2.2 a (by omega)
/-- the owners of new cells -/
def OwX (h : z_Hp) (ow ow' : Ow) : Prop := ∀ a i, a < hZ h → ow' a i = ow a i
theorem OwX.refl (h : z_Hp) (ow : Ow) : OwX h ow ow := fun _ _ _ => rfl
def owN (ow : Ow) (z c : Nat) : Ow := fun a i => if z ≤ a then c else ow a i
theorem OwX.new (h : z_Hp) (ow : Ow) (c : Nat) : OwX h ow (owN ow (hZ h) c) := fun a i ha => if_neg (by omega)
theorem OwOK.new {ow : Ow} (o : OwOK ow) {z c : Nat} (hz : 94 ≤ z) : OwOK (owN ow z c) := fun a i ha => (if_neg (by omega)).trans (o a i ha)
theorem fxlt : ∀ e ∈ fxT, e.1 < 94 := by decide
theorem fxrlt : ∀ e ∈ fxR, e.1 < 94 ∧ ow0 e.1 e.2.1 = 20 := by decide
theorem Ifx.st {fs : List Nat} {ow : Ow} {h h' : z_Hp} (I : Ifx h) (o : OwOK ow) (s : St fs ow h h') (hn : 20 ∉ fs) : Ifx h' := by
  refine ⟨fun e he => ?_, fun e he => ?_, Nat.le_trans I.2.2.1 s.1, s.2.2.2⟩
  · have h1 := s.2.1 e.1 (by have := fxlt e he; have := I.2.2.1; omega)
    have h2 := I.1 e he
    exact ⟨h1.1.trans h2.1, h1.2.trans h2.2⟩
  · have h1 := fxrlt e he
    have h2 := s.2.2.1 e.1 e.2.1 (by have := I.2.2.1; omega) (by rw [o _ _ h1.1, h1.2]; exact hn)
    exact h2.2.2.trans (I.2.1 e he)
/-! ===== the parts of the invariant ===== -/
/-- a row of ints that is missing on both sides, or the same on both -/
def rowAt (c mx : Nat) (ow : Ow) (h : z_Hp) (o : Option Nat) (sz : Int32) (g : Nat → Int32) : Prop :=
  (sz = -9 ∧ o = none) ∨ ∃ n a, n ≤ mx ∧ sz = nI n ∧ o = some a ∧ hT h a = 20 ∧ hN h a = n ∧ 94 ≤ a ∧ (∀ i, ow a i = c) ∧ ∀ k, k < n → hI h a k = g k
def Rrow (ow : Ow) (h : z_Hp) : Prop := (∀ r, r < 6 → rowAt 10 40 ow h (hR h 6 r) (hI h 48 r) (fun k => hI h 49 (40 * r + k))) ∧ ∀ r q a, r < 6 → q < 6 → hR h 6 r = some a → hR h 6 q = some a → r = q
def txtAt (ow : Ow) (h : z_Hp) (o : Option Nat) (sz : Int32) (g : Nat → Int32) : Prop :=
  (sz = -9 ∧ o = none) ∨ ∃ n a, n ≤ 60 ∧ sz = nI n ∧ o = some a ∧ hT h a = 21 ∧ hN h a = n ∧ 94 ≤ a ∧ (∀ i, ow a i = 11) ∧ ∀ k, k < n → hI h a k = g k
def Rtxt (ow : Ow) (h : z_Hp) : Prop := (∀ r, r < 4 → txtAt ow h (hR h 7 r) (hI h 51 r) (fun k => hI h 52 (60 * r + k))) ∧ ∀ r q a, r < 4 → q < 4 → hR h 7 r = some a → hR h 7 q = some a → r = q
def Rtun (ow : Ow) (h : z_Hp) : Prop := ∀ u, u < 6 → rowAt 13 8 ow h (hR h 9 u) (hI h 57 u) (fun k => hI h 58 (8 * u + k)) ∧ ¬ hI h 57 u = 0
def Rwlk (ow : Ow) (h : z_Hp) : Prop := ∀ u, u < 4 → rowAt 18 40 ow h (hR h 40 u) (hI h 89 u) (fun k => hI h 90 (40 * u + k)) ∧ ¬ hI h 89 u = 0 ∧ ∀ k n, hI h 89 u = nI n → n ≤ 40 → k < n → ∃ p, p < 10 ∧ hI h 90 (40 * u + k) = nI p
def Rrul (h : z_Hp) : Prop := ∃ q, q ≤ 16 ∧ hI h 10 3 = nI q ∧ hI h 46 19 = nI q ∧ ∀ k, k < q → hI h 11 k = hI h 59 k ∧ hI h 12 k = hI h 60 k ∧ (∃ d, d ≤ 999 ∧ hI h 59 k = nI d) ∧ (∃ d, d ≤ 999 ∧ hI h 60 k = nI d) ∧ ∀ j, j < 5 → hI h 13 (5 * k + j) = hI h 61 (5 * k + j) ∧ (hI h 61 (5 * k + j) = -9 ∨ ∃ v, v ≤ 999 ∧ hI h 61 (5 * k + j) = nI v)
def yrs (f t : Int32) : Prop := (f = -9 ∧ t = -9) ∨ ∃ a b, 1500 ≤ a ∧ a ≤ b ∧ b ≤ 1899 ∧ f = nI a ∧ t = nI b
def Rprn (h : z_Hp) : Prop := ∀ p, p < 8 → hI h 21 p = hI h 63 p ∧ hI h 22 p = hI h 64 p ∧ yrs (hI h 63 p) (hI h 64 p)
def opt (n : Nat) (x : Int32) : Prop := x = -9 ∨ ∃ k, k < n ∧ x = nI k
/-- sheet s on both sides: at a -/
def shAt (ow : Ow) (h : z_Hp) (s a : Nat) : Prop :=
  hT h a = 5 ∧ (∀ i, ow a i = 16) ∧ 94 ≤ a ∧ hI h a 0 = hI h 65 s ∧ hI h a 1 = hI h 66 s ∧ hI h a 2 = hI h 67 s ∧ hI h a 3 = hI h 74 s ∧ hI h a 5 = hI h 68 s ∧ hI h a 6 = hI h 69 s ∧ hI h a 7 = hI h 70 s ∧ hI h a 8 = hI h 71 s ∧ hI h a 9 = hI h 72 s ∧ hI h a 10 = hI h 73 s ∧
  (∃ b n, hR h a 4 = some b ∧ hT h b = (if b = 1 then 19 else 20) ∧ hN h b = n ∧ n ≤ 40 ∧ hI h 75 s = nI n ∧ (b = 1 ∨ (94 ≤ b ∧ ∀ i, ow b i = 16)) ∧ ∀ k, k < n → hI h b k = hI h 76 (40 * s + k)) ∧
  (∃ k, k < 7 ∧ hI h 65 s = nI k) ∧ opt 8 (hI h 66 s) ∧ (∃ k, k < 10 ∧ hI h 67 s = nI k) ∧ opt 6 (hI h 68 s) ∧ (∃ k, k < 4096 ∧ hI h 69 s = nI k) ∧ (∃ k, k < 65536 ∧ hI h 70 s = nI k) ∧ (∃ k, k < 65536 ∧ hI h 71 s = nI k) ∧ yrs (hI h 72 s) (hI h 73 s) ∧ (∃ k, k ≤ 999 ∧ hI h 74 s = nI k)
def Rshe (ow : Ow) (h : z_Hp) : Prop := ∃ q, q ≤ 20 ∧ hI h 14 1 = nI q ∧ hI h 46 26 = nI q ∧ (∀ s, s < q → ∃ a, hR h 15 s = some a ∧ shAt ow h s a) ∧ (∀ s, q ≤ s → s < 20 → hI h 69 s = 0 ∧ hI h 70 s = 0 ∧ hI h 71 s = 0) ∧ ∀ s t a, s < q → t < q → hR h 15 s = some a → hR h 15 t = some a → s = t
/-- the order of the register: by years, as told if alike -/
def Rreg (h : z_Hp) : Prop := ∃ q, q ≤ 40 ∧ hI h 34 4 = nI q ∧ hI h 46 49 = nI q ∧ (∀ k, k < q → hI h 35 k = hI h 86 k ∧ hI h 36 k = hI h 87 k ∧ hI h 37 k = hI h 88 k ∧ (∃ v, v < 10 ∧ hI h 86 k = nI v) ∧ (∃ v, v < 8 ∧ hI h 87 k = nI v) ∧ ∃ y, 1500 ≤ y ∧ y ≤ 1899 ∧ hI h 88 k = nI y) ∧
  ∃ p : Nat → Nat, (∀ k, k < q → p k < q ∧ hI h 38 k = nI (p k)) ∧ ∀ j k, j < k → k < q → hI h 88 (p j) < hI h 88 (p k) ∨ (hI h 88 (p j) = hI h 88 (p k) ∧ p j < p k)
def Rsun (h : z_Hp) : Prop := ∃ q, q ≤ 30 ∧ hI h 39 5 = nI q ∧ hI h 46 55 = nI q ∧ ∀ k, k < q → hI h 41 k = hI h 91 k ∧ hI h 42 k = hI h 92 k ∧ hI h 43 k = hI h 93 k ∧ (∃ v, v < 10 ∧ hI h 91 k = nI v) ∧ (∃ v, v < 10 ∧ hI h 92 k = nI v) ∧ ∃ v, v < 100 ∧ hI h 93 k = nI v
def Rtod (h : z_Hp) : Prop := ∃ t, t ≤ 999 ∧ hI h 5 4 = nI t ∧ hI h 46 6 = nI t
def Rfin (h : z_Hp) : Prop := hI h 5 12 = hI h 46 0 ∧ ∀ j, j < 6 → hI h 45 j = hI h 47 j
def Rask (h : z_Hp) : Prop := hI h 5 15 = hI h 46 2
def Rman (h : z_Hp) : Prop := hJ h 5 14 = hJ h 46 3
def Rfra (h : z_Hp) : Prop := hJ h 5 16 = hJ h 46 4 ∧ hJ h 5 17 = hJ h 46 5
def Rway (ow : Ow) (h : z_Hp) : Prop := ∃ a, hR h 16 2 = some a ∧ hT h a = 20 ∧ (1 ≤ hN h a ∧ hN h a ≤ 4096) ∧ (∀ i, ow a i = 120) ∧ (a = 19 ∨ 94 ≤ a)
/-! ===== songs: letters, words and marks by their first places ===== -/
def isL (c : Int32) : Bool := decide (97 ≤ c.toInt ∧ c.toInt ≤ 122)
/-- a letter that goes on with the word -/
def cont (g : Nat → Int32) (k : Nat) : Bool := decide (0 < k) && (isL (g k) && isL (g (k - 1)))
/-- a word or a mark begins at k -/
def tkb (g : Nat → Int32) (k : Nat) : Bool := !(decide (g k = 32)) && !(cont g k)
/-- how many letters there are from k on, d places at most -/
def run (g : Nat → Int32) : Nat → Nat → Nat
  | 0, _ => 0
  | d + 1, k => if isL (g k) then run g d (k + 1) + 1 else 0
def tkn (g : Nat → Int32) (n : Nat) : Nat := fb_ct (tkb g) n
/-- how many marks ahead of n -/
def mks (g : Nat → Int32) (n : Nat) : Nat := fb_ct (fun k => decide (g k = 47)) n
/-- where the word or mark that begins at k ends -/
def tke (g : Nat → Int32) (n k : Nat) : Nat := if g k = 47 then k + 1 else k + run g (n - k) k
/-- whether there is a letter since the last mark -/
def some_ (g : Nat → Int32) : Nat → Bool
  | 0 => false
  | k + 1 => if g k = 47 then false else isL (g k) || some_ g k
def isSg (g : Nat → Int32) (n : Nat) : Prop := (∀ k, k < n → isL (g k) = true ∨ g k = 32 ∨ g k = 47) ∧ (∀ k, k < n → g k = 47 → some_ g k = true) ∧ some_ g n = true ∧ mks g n < 8
def sgAt (ow : Ow) (h : z_Hp) (s a : Nat) (n : Nat) (g : Nat → Int32) : Prop :=
  hT h a = 7 ∧ 94 ≤ a ∧ (∀ i, ow a i = 12) ∧ isSg g n ∧ hI h a 1 = nI (mks g n + 1) ∧ hI h a 4 = nI (tkn g n) ∧
  (∃ b, hR h a 0 = some b ∧ hT h b = 21 ∧ hN h b = n ∧ (∀ i, ow b i = 12) ∧ ∀ k, k < n → hI h b k = g k) ∧
  (∃ b, hR h a 2 = some b ∧ hT h b = 20 ∧ hN h b = n ∧ (∀ i, ow b i = 12) ∧ ∀ k, k < n → tkb g k = true → hI h b (tkn g k) = nI k) ∧
  (∃ b, hR h a 3 = some b ∧ hT h b = 20 ∧ hN h b = n ∧ (∀ i, ow b i = 12) ∧ ∀ k, k < n → tkb g k = true → hI h b (tkn g k) = nI (tke g n k))
def Rsng (ow : Ow) (h : z_Hp) : Prop := ∀ s, s < 10 → (hI h 53 s = -9 ∧ hR h 8 s = none) ∨ ∃ n a, n ≤ 60 ∧ hI h 53 s = nI n ∧ hR h 8 s = some a ∧ sgAt ow h s a n (fun k => hI h 54 (60 * s + k))
/-- the class's own constant rows -/
def z_tab (k j : Nat) : Int32 := match k, j with
  | 0, 2 => 1
  | 0, 6 => 5
  | 2, 0 => 76
  | 2, 1 => 82
  | 2, 2 => 83
  | 2, 3 => 68
  | 2, 4 => 67
  | 3, 0 => 1
  | 3, 1 => 21
  | 3, 2 => 3
  | 3, 3 => 2
  | 3, 4 => 1
  | _, _ => 0
def Rsta (h : z_Hp) : Prop := (∀ a, a < 5 → hT h a = 19) ∧ hN h 0 = 7 ∧ hN h 1 = 0 ∧ hN h 2 = 5 ∧ hN h 3 = 5 ∧ ∀ a j, a < 4 → hI h a j = z_tab a j
theorem Rsta.st {fs : List Nat} {ow : Ow} {h h' : z_Hp} (R : Rsta h) (I : Ifx h) (o : OwOK ow) (s : St fs ow h h') (hn : 20 ∉ fs) : Rsta h' := by
  have hz := I.2.2.1
  have T := fun a (ha : a < 5) => s.2.1 a (by omega)
  refine ⟨fun a ha => (T a ha).1.trans (R.1 a ha), (T 0 (by decide)).2.trans R.2.1, (T 1 (by decide)).2.trans R.2.2.1, (T 2 (by decide)).2.trans R.2.2.2.1, (T 3 (by decide)).2.trans R.2.2.2.2.1, fun a j ha => ?_⟩
  rw [(s.2.2.1 a j (by omega) (by rw [o a j (by omega)]; unfold ow0; rw [if_pos (by omega)]; exact hn)).1]
  exact R.2.2.2.2.2 a j ha
/-! ===== the invariant ===== -/
def InvO (ow : Ow) (h : z_Hp) : Prop := OwOK ow ∧ Ifx h ∧ Rtod h ∧ Rfin h ∧ Rask h ∧ Rman h ∧ Rfra h ∧ Rrow ow h ∧ Rtxt ow h ∧ Rsng ow h ∧ Rtun ow h ∧ Rrul h ∧ Rprn h ∧ Rshe ow h ∧ Rreg h ∧ Rwlk ow h ∧ Rsun h ∧ Rway ow h ∧ Rsta h
def Inv (h : z_Hp) : Prop := ∃ ow, InvO ow h
theorem Ifx.gF {h : z_Hp} (I : Ifx h) {a lo n : Nat} {g : Nat → Int32} : Ifx (fl h a lo n g) := I
theorem Ifx.gI {h : z_Hp} (I : Ifx h) {a i : Nat} {x : Int32} : Ifx (sI h a i x) := I
theorem Ifx.gJ {h : z_Hp} (I : Ifx h) {a i : Nat} {x : Int64} : Ifx (sJ h a i x) := I
theorem St.gF {fs : List Nat} {ow : Ow} {h h1 : z_Hp} (s : St fs ow h h1) {a lo n : Nat} {g : Nat → Int32} (ha : ∀ i, ow a i ∈ fs) : St fs ow h (fl h1 a lo n g) := by
  refine ⟨s.1, s.2.1, fun b j hb hn => ?_, s.2.2.2⟩
  obtain ⟨c1, c2, c3⟩ := s.2.2.1 b j hb hn
  refine ⟨?_, c2, c3⟩
  rw [hI_fl, if_neg (fun e => hn (by rw [e.1]; exact ha j))]
  exact c1
theorem St.wfl {fs : List Nat} {ow : Ow} {h h1 : z_Hp} (s : St fs ow h h1) (o : OwOK ow) {a lo n : Nat} {g : Nat → Int32} (c : Nat) (ha : a < 94) (hc : ∀ i, ow0 a i = c) (hm : c ∈ fs) : St fs ow h (fl h1 a lo n g) := s.gF (fun i => by rw [o a i ha, hc i]; exact hm)
/-- what lasts of the reference's ints -/
def mm (h : z_Hp) : Nat → Nat → Int32 := fun a i => if 46 ≤ a ∧ a < 94 ∧ 50 ≤ ow0 a i ∧ ow0 a i < 100 then hI h a i else 0
theorem mm_st {fs : List Nat} {ow : Ow} {h h' : z_Hp} (I : Ifx h) (o : OwOK ow) (s : St fs ow h h') (hf : ∀ c ∈ fs, c < 50 ∨ 100 ≤ c) : mm h' = mm h := by
  funext a i
  unfold mm
  by_cases c : 46 ≤ a ∧ a < 94 ∧ 50 ≤ ow0 a i ∧ ow0 a i < 100
  · rw [if_pos c, if_pos c]
    refine (s.2.2.1 a i (by have := I.2.2.1; omega) (fun hm => ?_)).1
    rw [o a i c.2.1] at hm
    have := hf _ hm
    omega
  · rw [if_neg c, if_neg c]
