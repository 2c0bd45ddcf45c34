/-! ===== indices ===== -/
theorem ix_n {k : Nat} (h : k < 2147483648) : ix (nI k) = k := nI_clamp h
theorem inb_n {k n : Nat} (h : k < n) (hn : n ≤ 100000) : inb (nI k) n = true := by
  unfold inb
  rw [decide_eq_true]
  exact nI_in h (by omega)
theorem nI_mul (a b : Nat) : nI a * nI b = nI (a * b) := (Int32.ofNat_mul a b).symm
theorem nI_sub {a b : Nat} (h : b ≤ a) : nI a - nI b = nI (a - b) := by
  have e : nI (a - b) + nI b = nI a := by rw [nI_add]; congr 1; omega
  rw [← e]; simp
theorem okA_n {h : z_Hp} {a t k n : Nat} (hT1 : hT h a = t) (hN1 : hN h a = n) (h1 : k < n) (hn : n ≤ 100000) : okA h a t (nI k) = true := by
  unfold okA
  rw [hT1, hN1, inb_n h1 hn]; simp
theorem okL_n {h : z_Hp} {a t : Nat} (hT1 : hT h a = t) (h1 : 19 ≤ t) (h2 : t ≤ 26) : okL h a = true := by
  unfold okL
  rw [hT1, decide_eq_true]
  exact ⟨h1, h2⟩
theorem toI_n {k : Nat} (h : k < 2147483648) : (nI k).toInt = (k : Int) := nI_toInt h
theorem rng {x : Int32} {n : Nat} (h : 0 ≤ x.toInt ∧ x.toInt ≤ n) : ∃ k : Nat, k ≤ n ∧ x = nI k := by
  obtain ⟨j, h1, rfl⟩ := nI_of (x := x) (by rw [fa_lt]; show ¬ _ < (0 : Int32).toInt; have : (0 : Int32).toInt = 0 := rfl; omega)
  rw [nI_toInt h1] at h
  exact ⟨j, by omega, rfl⟩
theorem one0 : ¬ ((1 : Int32) = 0) := by decide
theorem fa_n {k : Nat} {c : Int} (h : k < 2147483648) (e : (nI k).toInt = c) : c = k := by rw [← e, toI_n h]
/-! ===== literals ===== -/
theorem i0 : (0 : Int32).toInt = 0 := rfl
theorem i1 : (1 : Int32).toInt = 1 := rfl
/-! ===== repeated steps ===== -/
def itr {τ : Type} (f : Nat → τ → τ) (z : τ) : Nat → τ
  | 0 => z
  | k + 1 => f k (itr f z k)
theorem itr_cong {τ : Type} {f g : Nat → τ → τ} {z : τ} : ∀ {n : Nat}, (∀ k t, k < n → f k t = g k t) → itr f z n = itr g z n
  | 0, _ => rfl
  | n + 1, h => by
    show f n (itr f z n) = g n (itr g z n)
    rw [itr_cong (n := n) (fun k t hk => h k t (by omega)), h n _ (by omega)]
/-- a loop of N turns: an invariant, turn by turn, and the way on behind it -/
theorem lp {σ α : Type} {L : Nat → σ → Option α} {K : σ → Option α} {N : Nat} (P : Nat → σ → Prop)
    (hs : ∀ n k s, k < N → P k s → ∃ s', P (k + 1) s' ∧ L (n + 1) s = L n s') (he : ∀ n s, P N s → L (n + 1) s = K s) :
    ∀ (d k n : Nat) (s : σ), k + d = N → d < n → P k s → ∃ s', P N s' ∧ L n s = K s' := by
  intro d
  induction d with
  | zero =>
    intro k n s h1 h2 hP
    obtain ⟨m, rfl⟩ : ∃ m, n = m + 1 := ⟨n - 1, by omega⟩
    have : k = N := by omega
    subst this
    exact ⟨s, hP, he m s hP⟩
  | succ d ih =>
    intro k n s h1 h2 hP
    obtain ⟨m, rfl⟩ : ∃ m, n = m + 1 := ⟨n - 1, by omega⟩
    obtain ⟨s', h3, h4⟩ := hs m k s (by omega) hP
    obtain ⟨t, h5, h6⟩ := ih (k + 1) m s' (by omega) (by omega) h3
    exact ⟨t, h5, h4.trans h6⟩
/-- the same, with a way out of it -/
theorem lpx {σ α : Type} {L : Nat → σ → Option α} {K : σ → Option α} {N : Nat} (P : Nat → σ → Prop) (E : Option α → Prop)
    (hs : ∀ n k s, k < N → P k s → (∃ s', P (k + 1) s' ∧ L (n + 1) s = L n s') ∨ E (L (n + 1) s)) (he : ∀ n s, P N s → L (n + 1) s = K s) :
    ∀ (d k n : Nat) (s : σ), k + d = N → d < n → P k s → (∃ s', P N s' ∧ L n s = K s') ∨ E (L n s) := by
  intro d
  induction d with
  | zero =>
    intro k n s h1 h2 hP
    obtain ⟨m, rfl⟩ : ∃ m, n = m + 1 := ⟨n - 1, by omega⟩
    have : k = N := by omega
    subst this
    exact Or.inl ⟨s, hP, he m s hP⟩
  | succ d ih =>
    intro k n s h1 h2 hP
    obtain ⟨m, rfl⟩ : ∃ m, n = m + 1 := ⟨n - 1, by omega⟩
    rcases hs m k s (by omega) hP with ⟨s', h3, h4⟩ | h3
    · rcases ih (k + 1) m s' (by omega) (by omega) h3 with ⟨t, h5, h6⟩ | h5
      · exact Or.inl ⟨t, h5, h4.trans h6⟩
      · exact Or.inr (by rw [h4]; exact h5)
    · exact Or.inr h3
/-- a loop that leaves the heap as it is: its numbers are those of repeated steps -/
theorem lpF {τ α : Type} {L : Nat → τ → Int32 → Option α} {K : τ → Option α} {N : Nat} (f : Nat → τ → τ) (z : τ)
    (hs : ∀ n k t, k < N → L (n + 1) t (nI k) = L n (f k t) (nI (k + 1))) (he : ∀ n t, L (n + 1) t (nI N) = K t) {n : Nat} (hn : N < n) : L n z (nI 0) = K (itr f z N) := by
  obtain ⟨s', h1, h2⟩ := lp (L := fun n (s : τ × Int32) => L n s.1 s.2) (K := fun s => K s.1) (N := N) (fun k s => s.1 = itr f z k ∧ s.2 = nI k)
    (fun n k s hk hP => ⟨(f k s.1, nI (k + 1)), ⟨by rw [hP.1]; rfl, rfl⟩, by show L (n + 1) s.1 s.2 = _; rw [hP.2]; exact hs n k s.1 hk⟩)
    (fun n s hP => by show L (n + 1) s.1 s.2 = _; rw [hP.2]; exact he n s.1) N 0 n (z, nI 0) (by omega) hn ⟨rfl, rfl⟩
  rw [← h1.1]; exact h2
/-- a loop by the sequence of its states -/
theorem lpS {σ α : Type} {L : Nat → σ → Option α} {R : Option α} (S : Nat → σ) (N : Nat) (hs : ∀ n k, k < N → L (n + 1) (S k) = L n (S (k + 1))) (he : ∀ n, L (n + 1) (S N) = R) : ∀ n, N < n → L n (S 0) = R := by
  have key : ∀ d k n, k + d = N → d < n → L n (S k) = R := by
    intro d
    induction d with
    | zero =>
      intro k n h1 h2
      obtain ⟨m, rfl⟩ : ∃ m, n = m + 1 := ⟨n - 1, by omega⟩
      have : k = N := by omega
      subst this
      exact he m
    | succ d ih =>
      intro k n h1 h2
      obtain ⟨m, rfl⟩ : ∃ m, n = m + 1 := ⟨n - 1, by omega⟩
      rw [hs m k (by omega)]
      exact ih (k + 1) m (by omega) (by omega)
  intro n hn
  exact key N 0 n (by omega) hn
/-- n places of cell a from lo on, by g -/
def fl (h : z_Hp) (a lo n : Nat) (g : Nat → Int32) : z_Hp := (fun b j => if b = a ∧ lo ≤ j ∧ j < lo + n then g (j - lo) else h.1 b j, h.2)
section FlRows
variable (h : z_Hp) (a lo n b i : Nat) (g : Nat → Int32)
theorem hI_fl : hI (fl h a lo n g) b i = if b = a ∧ lo ≤ i ∧ i < lo + n then g (i - lo) else hI h b i := rfl
theorem hJ_fl : hJ (fl h a lo n g) b i = hJ h b i := rfl
theorem hR_fl : hR (fl h a lo n g) b i = hR h b i := rfl
theorem hT_fl : hT (fl h a lo n g) b = hT h b := rfl
theorem hN_fl : hN (fl h a lo n g) b = hN h b := rfl
theorem hZ_fl : hZ (fl h a lo n g) = hZ h := rfl
theorem hS_fl : hS (fl h a lo n g) = hS h := rfl
theorem fl_0 : fl h a lo 0 g = h := by
  unfold fl
  have : (fun b j => if b = a ∧ lo ≤ j ∧ j < lo + 0 then g (j - lo) else h.1 b j) = h.1 := by
    funext b j
    rw [if_neg (by omega)]
  rw [this]
theorem fl_s : sI (fl h a lo n g) a (lo + n) (g n) = fl h a lo (n + 1) g := by
  unfold fl sI
  congr 1
  funext b j
  show (if b = a ∧ j = lo + n then g n else if b = a ∧ lo ≤ j ∧ j < lo + n then g (j - lo) else h.1 b j) = _
  by_cases e : b = a ∧ j = lo + n
  · rw [if_pos e, if_pos ⟨e.1, by omega, by omega⟩]
    congr 1; omega
  · rw [if_neg e]
    by_cases e2 : b = a ∧ lo ≤ j ∧ j < lo + n
    · rw [if_pos e2, if_pos ⟨e2.1, by omega, by omega⟩]
    · rw [if_neg e2, if_neg (by omega)]
end FlRows
theorem bI_id (q : Option (Int32 × z_Hp)) : bI q (fun x h => some (x, h)) = q := by cases q <;> rfl
theorem bL_id (q : Option (Int64 × z_Hp)) : bL q (fun x h => some (x, h)) = q := by cases q <;> rfl
