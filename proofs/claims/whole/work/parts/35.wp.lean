section WpRows
/-- it ends, and what it ends with has P -/
def Wp {α : Type} (o : Option α) (P : α → Prop) : Prop := ∃ x, o = some x ∧ P x
theorem Wp.ret {α : Type} {x : α} {P : α → Prop} (h : P x) : Wp (some x) P := ⟨x, rfl, h⟩
theorem Wp.ifT {α : Type} {c : Prop} [Decidable c] {a b : Option α} {P : α → Prop} (h : c) (w : Wp a P) : Wp (if c then a else b) P := by rw [if_pos h]; exact w
theorem Wp.ifF {α : Type} {c : Prop} [Decidable c] {a b : Option α} {P : α → Prop} (h : ¬ c) (w : Wp b P) : Wp (if c then a else b) P := by rw [if_neg h]; exact w
theorem Wp.cs {α : Type} {c : Prop} [Decidable c] {a b : Option α} {P : α → Prop} (h1 : c → Wp a P) (h2 : ¬ c → Wp b P) : Wp (if c then a else b) P := by
  by_cases h : c
  · rw [if_pos h]; exact h1 h
  · rw [if_neg h]; exact h2 h
theorem Wp.ltO {α : Type} {v : Option Nat} {k : Option Nat → Option α} {P : α → Prop} (w : Wp (k v) P) : Wp (lt_ v k) P := w
theorem Wp.ltI {α : Type} {v : Int32} {k : Int32 → Option α} {P : α → Prop} (w : Wp (k v) P) : Wp (lt_ v k) P := w
theorem Wp.ltL {α : Type} {v : Int64} {k : Int64 → Option α} {P : α → Prop} (w : Wp (k v) P) : Wp (lt_ v k) P := w
theorem Wp.ltH {α : Type} {v : z_Hp} {k : z_Hp → Option α} {P : α → Prop} (w : Wp (k v) P) : Wp (lt_ v k) P := w
/-- where ways meet -/
theorem Wp.lj {α β : Type} {J : β} {B : β → Option α} {P : α → Prop} (w : ∀ j, j = J → Wp (B j) P) : Wp (lt_ J B) P := w J rfl
theorem Wp.rf {α : Type} {o : Option Nat} {a : Nat} {k : Nat → Option α} {P : α → Prop} (e : o = some a) (w : Wp (k a) P) : Wp (nn o k) P := by rw [e]; exact w
theorem Wp.rs {α : Type} {o : Option Nat} {a : Nat} {A : Option α} {k : Nat → Option α} {P : α → Prop} (e : o = some a) (w : Wp (k a) P) : Wp (nl o A k) P := by rw [e]; exact w
theorem Wp.rz {α : Type} {o : Option Nat} {A : Option α} {k : Nat → Option α} {P : α → Prop} (e : o = none) (w : Wp A P) : Wp (nl o A k) P := by rw [e]; exact w
theorem Wp.cI {α : Type} {o : Option (Int32 × z_Hp)} {k : Int32 → z_Hp → Option α} {P : α → Prop} (w : Wp o (fun r => Wp (k r.1 r.2) P)) : Wp (bI o k) P := by
  obtain ⟨x, e, h⟩ := w
  rw [e]; exact h
theorem Wp.cIe {α : Type} {o : Option (Int32 × z_Hp)} {x : Int32} {h : z_Hp} {k : Int32 → z_Hp → Option α} {P : α → Prop} (e : o = some (x, h)) (w : Wp (k x h) P) : Wp (bI o k) P := by rw [e]; exact w
theorem Wp.cV {α : Type} {o : Option z_Hp} {k : z_Hp → Option α} {P : α → Prop} (w : Wp o (fun r => Wp (k r) P)) : Wp (bV o k) P := by
  obtain ⟨x, e, h⟩ := w
  rw [e]; exact h
theorem Wp.cVe {α : Type} {o : Option z_Hp} {h : z_Hp} {k : z_Hp → Option α} {P : α → Prop} (e : o = some h) (w : Wp (k h) P) : Wp (bV o k) P := by rw [e]; exact w
theorem Wp.cLe {α : Type} {o : Option (Int64 × z_Hp)} {x : Int64} {h : z_Hp} {k : Int64 → z_Hp → Option α} {P : α → Prop} (e : o = some (x, h)) (w : Wp (k x h) P) : Wp (bL o k) P := by rw [e]; exact w
theorem Wp.mono {α : Type} {o : Option α} {P Q : α → Prop} (w : Wp o P) (f : ∀ x, P x → Q x) : Wp o Q := by
  obtain ⟨x, e, h⟩ := w
  exact ⟨x, e, f x h⟩
/-- a loop of N turns -/
theorem Wp.loop {σ α : Type} {L : Nat → σ → Option α} {P : α → Prop} {N : Nat} (I : Nat → σ → Prop) (hs : ∀ n k s, k < N → I k s → (∀ s', I (k + 1) s' → Wp (L n s') P) → Wp (L (n + 1) s) P) (he : ∀ n s, I N s → Wp (L (n + 1) s) P) (n : Nat) (s : σ) (hn : N < n) (h0 : I 0 s) : Wp (L n s) P := by
  have key : ∀ d k n s, k + d = N → d < n → I k s → Wp (L n s) P := by
    intro d
    induction d with
    | zero =>
      intro k n s h1 h2 hk
      obtain ⟨m, rfl⟩ : ∃ m, n = m + 1 := ⟨n - 1, by omega⟩
      have : k = N := by omega
      subst this
      exact he m s hk
    | succ d ih =>
      intro k n s h1 h2 hk
      obtain ⟨m, rfl⟩ : ∃ m, n = m + 1 := ⟨n - 1, by omega⟩
      exact hs m k s (by omega) hk (fun s' h' => ih (k + 1) m s' (by omega) (by omega) h')
  exact key N 0 n s (by omega) hn h0
/-- a loop that goes down in m -/
theorem Wp.dn {σ α : Type} {L : Nat → σ → Option α} {P : α → Prop} (I : Nat → σ → Prop) (hs : ∀ n m s, I m s → (∀ m' s', m' < m → I m' s' → Wp (L n s') P) → Wp (L (n + 1) s) P) (n m : Nat) (s : σ) (hn : m < n) (h0 : I m s) : Wp (L n s) P := by
  have key : ∀ n m s, m < n → I m s → Wp (L n s) P := by
    intro n
    induction n with
    | zero => intro m s h; omega
    | succ n ih => intro m s h1 h2; exact hs n m s h2 (fun m' s' h3 h4 => ih m' s' (by omega) h4)
  exact key n m s hn h0
theorem OkI.wp {h : z_Hp} {ox : Option (Int32 × z_Hp)} {om : z_Hp → Option (Int32 × z_Hp)} (w : Wp ox (fun r => Wp (om r.2) (fun r' => r'.1 = r.1 ∧ Inv r'.2 ∧ hZ r'.2 ≤ hZ h + 5 ∧ hS r'.2 ≤ hS h + 5000))) : OkI h ox om := by
  obtain ⟨⟨r, h1⟩, e1, ⟨r', h2⟩, e2, e3, e4, e5, e6⟩ := w
  dsimp only at e2 e3 e4 e5 e6
  subst e3
  exact ⟨r', h1, h2, e1, e2, e4, e5, e6⟩
theorem x_max (F : Nat) (x y : Int32) (h : z_Hp) : c_J9_max_7cf53 F x y h = some (if x < y then y else x, h) := by
  unfold c_J9_max_7cf53
  split <;> rfl
theorem nI_max {a b : Nat} (ha : a < 2147483648) (hb : b < 2147483648) : (if nI a < nI b then nI b else nI a) = nI (max a b) := by
  by_cases c : a < b
  · rw [if_pos (nI_lt c hb), Nat.max_eq_right (by omega)]
  · rw [if_neg (nI_nlt (by omega) ha), Nat.max_eq_left (by omega)]
theorem nI_min {a b : Nat} (ha : a < 2147483648) (hb : b < 2147483648) : (if nI b < nI a then nI b else nI a) = nI (min a b) := by
  by_cases c : b < a
  · rw [if_pos (nI_lt c ha), Nat.min_eq_right (by omega)]
  · rw [if_neg (nI_nlt (by omega) hb), Nat.min_eq_left (by omega)]
theorem bset_or (f g : Nat → Bool) (n : Nat) : bset f n ||| bset g n = bset (fun i => f i || g i) n := Nat.eq_of_testBit_eq (fun i => by
  rw [Nat.testBit_or, bset_tb, bset_tb, bset_tb]
  cases decide (i < n) <;> simp)
theorem bset_cong {f g : Nat → Bool} {n : Nat} (h : ∀ i, i < n → f i = g i) : bset f n = bset g n := Nat.eq_of_testBit_eq (fun i => by
  rw [bset_tb, bset_tb]
  by_cases c : i < n
  · rw [h i c]
  · rw [decide_eq_false c]; rfl)
theorem bset20 (f : Nat → Bool) {q : Nat} (hq : q ≤ 20) : bset f q < 1048576 := Nat.lt_of_lt_of_le (bset_lt f q) (Nat.pow_le_pow_right (n := 2) (by decide) hq)
theorem now_r {h : z_Hp} (R : Rrul h) {w : Nat} (hw : w < 5) : ∃ v, v ≤ 999 ∧ now (mm h) w = nI v := by
  obtain ⟨q, hq, r1, r2, r3⟩ := R
  unfold now frc
  cases e : gov (mm h) w (mm h 46 6) (mm h 46 6) with
  | none =>
    have : w = 0 ∨ w = 1 ∨ w = 2 ∨ w = 3 ∨ w = 4 := by omega
    rcases this with rfl | rfl | rfl | rfl | rfl
    · exact ⟨1, by decide, rfl⟩
    · exact ⟨21, by decide, rfl⟩
    · exact ⟨3, by decide, rfl⟩
    · exact ⟨2, by decide, rfl⟩
    · exact ⟨1, by decide, rfl⟩
  | some b =>
    have l := gv_lt _ _ _ _ e
    have e19 : mm h 46 19 = nI q := r2
    rw [e19, ix_n (by omega)] at l
    have o := l.2
    unfold okR at o
    rw [Bool.and_eq_true, Bool.and_eq_true] at o
    have n0 : ¬ mm h 61 (5 * b + w) < 0 := by
      have := o.2.2
      rw [Bool.not_eq_true', decide_eq_false_iff_not] at this
      exact this
    have e61 : mm h 61 (5 * b + w) = hI h 61 (5 * b + w) := rfl
    dsimp only
    rcases ((r3 b l.1).2.2.2.2 w hw).2 with x | ⟨v, hv, x⟩
    · rw [e61, x] at n0
      exact absurd (by decide) n0
    · exact ⟨v, hv, by rw [e61, x]⟩
end WpRows
