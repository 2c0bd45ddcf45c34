section Yrm
/-- v is reached from a along e, by places below q -/
def Rch (e : Nat → Nat → Bool) (q a v : Nat) : Prop := ∀ P : Nat → Prop, P a → (∀ b c, b < q → c < q → P b → e b c = true → P c) → P v
theorem Rch.refl (e : Nat → Nat → Bool) (q a : Nat) : Rch e q a a := fun _ h _ => h
theorem Rch.step {e : Nat → Nat → Bool} {q a b c : Nat} (r : Rch e q a b) (hb : b < q) (hc : c < q) (h : e b c = true) : Rch e q a c := fun P h0 hs => hs b c hb hc (r P h0 hs) h
theorem Rch.trans {e : Nat → Nat → Bool} {q a b c : Nat} (r : Rch e q a b) (r2 : Rch e q b c) : Rch e q a c := fun P h0 hs => r2 P (r P h0 hs) hs
theorem Rch.flip {e : Nat → Nat → Bool} {q a v : Nat} (r : Rch e q a v) : Rch (fun x y => e y x) q v a :=
  r (fun u => Rch (fun x y => e y x) q u a) (Rch.refl _ _ _) (fun b c hb hc hP h => ((Rch.refl _ _ c).step hc hb h).trans hP)
def Fnl (e : Nat → Nat → Bool) (q : Nat) (f0 f : Nat → Nat) : Prop := (∀ v, v < q → f0 v ≤ f v) ∧ (∀ s t, s < q → t < q → e s t = true → f s ≤ f t) ∧ ∀ v, v < q → ∃ a, a < q ∧ Rch e q a v ∧ f v = f0 a
theorem Fnl.le {e : Nat → Nat → Bool} {q : Nat} {f0 f g : Nat → Nat} (A : Fnl e q f0 f) (B : Fnl e q f0 g) {v : Nat} (hv : v < q) : f v ≤ g v := by
  obtain ⟨a, ha, r, e⟩ := A.2.2 v hv
  rw [e]
  exact r (fun v => f0 a ≤ g v) (B.1 a ha) (fun b c hb hc h1 h2 => Nat.le_trans h1 (B.2.1 b c hb hc h2))
theorem Fnl.eq {e : Nat → Nat → Bool} {q : Nat} {f0 f g : Nat → Nat} (A : Fnl e q f0 f) (B : Fnl e q f0 g) {v : Nat} (hv : v < q) : f v = g v := Nat.le_antisymm (A.le B hv) (B.le A hv)
/-- one that is told to another -/
def rl (c : Bool) (s d : Nat) (f : Nat → Nat) : Nat → Nat := fun v => if c = true ∧ v = d then max (f d) (f s) else f v
theorem rl_Q (Q : Nat → Nat → Prop) {q : Nat} {c : Bool} {s d : Nat} {f : Nat → Nat} (h : ∀ v, v < q → Q v (f v)) (hs : s < q) (hd : d < q) (hc : c = true → ∀ x, Q s x → Q d x) : ∀ v, v < q → Q v (rl c s d f v) := by
  intro v hv
  unfold rl
  split
  · rename_i e
    rw [e.2]
    rw [Nat.max_def]
    split
    · exact hc e.1 _ (h s hs)
    · exact h d hd
  · exact h v hv
theorem rl_mono (c : Bool) (s d : Nat) (f : Nat → Nat) (v : Nat) : f v ≤ rl c s d f v := by
  unfold rl
  split
  · rename_i e
    rw [e.2]; exact Nat.le_max_left _ _
  · exact Nat.le_refl _
theorem rl_get {c : Bool} (s d : Nat) (f : Nat → Nat) (hc : c = true) : f s ≤ rl c s d f d := by
  unfold rl
  rw [if_pos ⟨hc, rfl⟩]; exact Nat.le_max_right _ _
def rowp (C : Nat → Bool) (σ δ : Nat → Nat) (f : Nat → Nat) (n : Nat) : Nat → Nat := itr (fun t f => rl (C t) (σ t) (δ t) f) f n
theorem rowp_Q (Q : Nat → Nat → Prop) {q : Nat} {C : Nat → Bool} {σ δ : Nat → Nat} {f : Nat → Nat} (h : ∀ v, v < q → Q v (f v)) : ∀ n, (∀ t, t < n → σ t < q ∧ δ t < q ∧ (C t = true → ∀ x, Q (σ t) x → Q (δ t) x)) → ∀ v, v < q → Q v (rowp C σ δ f n v)
  | 0, _ => h
  | n + 1, g => by
    obtain ⟨g1, g2, g3⟩ := g n (by omega)
    exact rl_Q Q (rowp_Q Q h n (fun t ht => g t (by omega))) g1 g2 g3
theorem rowp_mono (C : Nat → Bool) (σ δ : Nat → Nat) (f : Nat → Nat) (v : Nat) : ∀ n, f v ≤ rowp C σ δ f n v
  | 0 => Nat.le_refl _
  | n + 1 => Nat.le_trans (rowp_mono C σ δ f v n) (rl_mono _ _ _ _ _)
theorem rowp_get {C : Nat → Bool} {σ δ : Nat → Nat} (f : Nat → Nat) {t : Nat} (hc : C t = true) : ∀ n, t < n → f (σ t) ≤ rowp C σ δ f n (δ t)
  | 0, h => by omega
  | n + 1, h => by
    by_cases e : t = n
    · subst e
      exact Nat.le_trans (rowp_mono C σ δ f (σ t) t) (rl_get _ _ _ hc)
    · exact Nat.le_trans (rowp_get f hc n (by omega)) (rl_mono _ _ _ _ _)
def pass (C : Nat → Nat → Bool) (σ δ : Nat → Nat → Nat) (q : Nat) (f : Nat → Nat) (n : Nat) : Nat → Nat := itr (fun s f => rowp (C s) (σ s) (δ s) f q) f n
theorem pass_Q (Q : Nat → Nat → Prop) {q : Nat} {C : Nat → Nat → Bool} {σ δ : Nat → Nat → Nat} {f : Nat → Nat} (h : ∀ v, v < q → Q v (f v)) : ∀ n, (∀ s t, s < n → t < q → σ s t < q ∧ δ s t < q ∧ (C s t = true → ∀ x, Q (σ s t) x → Q (δ s t) x)) → ∀ v, v < q → Q v (pass C σ δ q f n v)
  | 0, _ => h
  | n + 1, g => rowp_Q Q (pass_Q Q h n (fun s t hs ht => g s t (by omega) ht)) q (fun t ht => g n t (by omega) ht)
theorem pass_mono (C : Nat → Nat → Bool) (σ δ : Nat → Nat → Nat) (q : Nat) (f : Nat → Nat) (v : Nat) : ∀ n, f v ≤ pass C σ δ q f n v
  | 0 => Nat.le_refl _
  | n + 1 => Nat.le_trans (pass_mono C σ δ q f v n) (rowp_mono _ _ _ _ _ _)
theorem pass_get {C : Nat → Nat → Bool} {σ δ : Nat → Nat → Nat} {q : Nat} (f : Nat → Nat) {s t : Nat} (ht : t < q) (hc : C s t = true) : ∀ n, s < n → f (σ s t) ≤ pass C σ δ q f n (δ s t)
  | 0, h => by omega
  | n + 1, h => by
    by_cases e : s = n
    · subst e
      exact Nat.le_trans (pass_mono C σ δ q f (σ s t) s) (rowp_get _ hc q ht)
    · exact Nat.le_trans (pass_get f ht hc n (by omega)) (rowp_mono _ _ _ _ _ _)
def rnd (C : Nat → Nat → Bool) (σ δ : Nat → Nat → Nat) (q : Nat) (f : Nat → Nat) (n : Nat) : Nat → Nat := itr (fun _ f => pass C σ δ q f q) f n
theorem rnd_Q (Q : Nat → Nat → Prop) {q : Nat} {C : Nat → Nat → Bool} {σ δ : Nat → Nat → Nat} {f : Nat → Nat} (h : ∀ v, v < q → Q v (f v)) (g : ∀ s t, s < q → t < q → σ s t < q ∧ δ s t < q ∧ (C s t = true → ∀ x, Q (σ s t) x → Q (δ s t) x)) : ∀ n, ∀ v, v < q → Q v (rnd C σ δ q f n v)
  | 0 => h
  | n + 1 => pass_Q Q (rnd_Q Q h g n) q g
theorem ct_more {p r : Nat → Bool} {n t : Nat} (h : ∀ k, k < n → p k = true → r k = true) (ht : t < n) (h1 : r t = true) (h2 : ¬ p t = true) : fb_ct p n + 1 ≤ fb_ct r n := by
  have e := fb_ct_upd p true (i := t) (n := n) ht
  rw [if_neg h2, if_pos rfl] at e
  have l : fb_ct (fun k => if k = t then true else p k) n ≤ fb_ct r n := fb_ct_sub (fun k hk x => by
    by_cases c : k = t
    · rw [c]; exact h1
    · rw [if_neg c] at x; exact h k hk x)
  omega
theorem rnd_Fnl {C : Nat → Nat → Bool} {σ δ : Nat → Nat → Nat} {e : Nat → Nat → Bool} {q : Nat} (h0 : ∀ s t, s < q → t < q → σ s t < q ∧ δ s t < q) (h1 : ∀ s t, s < q → t < q → C s t = true → e (σ s t) (δ s t) = true) (h2 : ∀ a b, a < q → b < q → e a b = true → ∃ s t, s < q ∧ t < q ∧ C s t = true ∧ σ s t = a ∧ δ s t = b) (f0 : Nat → Nat) : Fnl e q f0 (rnd C σ δ q f0 q) := by
  have g : ∀ s t, s < q → t < q → σ s t < q ∧ δ s t < q ∧ (C s t = true → ∀ x, (∃ a, a < q ∧ Rch e q a (σ s t) ∧ x = f0 a) → ∃ a, a < q ∧ Rch e q a (δ s t) ∧ x = f0 a) := fun s t hs ht => ⟨(h0 s t hs ht).1, (h0 s t hs ht).2, fun hc x ⟨a, ha, r, ex⟩ => ⟨a, ha, r.step (h0 s t hs ht).1 (h0 s t hs ht).2 (h1 s t hs ht hc), ex⟩⟩
  have I3 : ∀ n v, v < q → ∃ a, a < q ∧ Rch e q a v ∧ rnd C σ δ q f0 n v = f0 a := rnd_Q (fun v x => ∃ a, a < q ∧ Rch e q a v ∧ x = f0 a) (fun v hv => ⟨v, hv, Rch.refl _ _ _, rfl⟩) g
  have I1 : ∀ n v, f0 v ≤ rnd C σ δ q f0 n v := by
    intro n v
    induction n with
    | zero => exact Nat.le_refl _
    | succ n ih => exact Nat.le_trans ih (pass_mono _ _ _ _ _ _ _)
  have I2 : ∀ n y, (∀ s t, s < q → t < q → e s t = true → y ≤ rnd C σ δ q f0 n s → y ≤ rnd C σ δ q f0 n t) ∨ n + 1 ≤ fb_ct (fun v => decide (y ≤ rnd C σ δ q f0 n v)) q := by
    intro n y
    induction n with
    | zero =>
      by_cases c : ∃ k, k < q ∧ (fun v => decide (y ≤ rnd C σ δ q f0 0 v)) k = true
      · right
        exact fb_ct_pos.mpr c
      · left
        intro s t hs ht _ x
        exact absurd ⟨s, hs, decide_eq_true x⟩ c
    | succ n ih =>
      have mono : ∀ v, rnd C σ δ q f0 n v ≤ rnd C σ δ q f0 (n + 1) v := fun v => pass_mono _ _ _ _ _ _ _
      by_cases c : ∀ s t, s < q → t < q → e s t = true → y ≤ rnd C σ δ q f0 n s → y ≤ rnd C σ δ q f0 n t
      · left
        have back : ∀ v, v < q → y ≤ rnd C σ δ q f0 (n + 1) v → y ≤ rnd C σ δ q f0 n v := by
          intro v hv x
          obtain ⟨a, ha, r, ea⟩ := I3 (n + 1) v hv
          rw [ea] at x
          exact r (fun u => y ≤ rnd C σ δ q f0 n u) (Nat.le_trans x (I1 n a)) (fun b d hb hd h3 h4 => c b d hb hd h4 h3)
        intro s t hs ht he x
        exact Nat.le_trans (c s t hs ht he (back s hs x)) (mono t)
      · right
        have ih := ih.resolve_left c
        obtain ⟨s, hs, t, ht, he, x1, x2⟩ : ∃ s, s < q ∧ ∃ t, t < q ∧ e s t = true ∧ y ≤ rnd C σ δ q f0 n s ∧ ¬ y ≤ rnd C σ δ q f0 n t := Classical.byContradiction (fun nn => c (fun s t hs ht he x => Classical.byContradiction (fun z => nn ⟨s, hs, t, ht, he, x, z⟩)))
        obtain ⟨s', t', hs', ht', hc', rfl, rfl⟩ := h2 s t hs ht he
        have up : rnd C σ δ q f0 n (σ s' t') ≤ rnd C σ δ q f0 (n + 1) (δ s' t') := pass_get _ ht' hc' q hs'
        have := ct_more (p := fun v => decide (y ≤ rnd C σ δ q f0 n v)) (r := fun v => decide (y ≤ rnd C σ δ q f0 (n + 1) v)) (n := q) (t := δ s' t') (fun k _ x => by
          rw [decide_eq_true_iff] at x ⊢
          exact Nat.le_trans x (mono k)) ht (by rw [decide_eq_true_iff]; omega) (by rw [decide_eq_true_iff]; exact x2)
        omega
  refine ⟨fun v _ => I1 q v, fun s t hs ht he => ?_, fun v hv => I3 q v hv⟩
  rcases I2 q (rnd C σ δ q f0 q s) with c | c
  · exact c s t hs ht he (Nat.le_refl _)
  · have := fb_ct_le (fun v => decide (rnd C σ δ q f0 q s ≤ rnd C σ δ q f0 q v)) q
    omega
theorem pass_Fnl {C w : Nat → Nat → Bool} {σ δ : Nat → Nat → Nat} {e : Nat → Nat → Bool} {q : Nat} (h0 : ∀ s t, s < q → t < q → σ s t < q ∧ δ s t < q) (h1 : ∀ s t, s < q → t < q → C s t = true → w (σ s t) (δ s t) = true) (h2 : ∀ a b, a < q → b < q → w a b = true → ∃ s t, s < q ∧ t < q ∧ C s t = true ∧ σ s t = a ∧ δ s t = b)
    (w1 : ∀ a b, a < q → b < q → e a b = true → w a b = true) (w2 : ∀ a b c, a < q → b < q → c < q → w a b = true → w b c = true → w a c = true) (w3 : ∀ a b, a < q → b < q → w a b = true → Rch e q a b) (f0 : Nat → Nat) : Fnl e q f0 (pass C σ δ q f0 q) := by
  have I3 : ∀ v, v < q → ∃ a, a < q ∧ (a = v ∨ w a v = true) ∧ pass C σ δ q f0 q v = f0 a := pass_Q (fun v x => ∃ a, a < q ∧ (a = v ∨ w a v = true) ∧ x = f0 a) (fun v hv => ⟨v, hv, Or.inl rfl, rfl⟩) q (fun s t hs ht => ⟨(h0 s t hs ht).1, (h0 s t hs ht).2, fun hc x ⟨a, ha, r, ex⟩ => ⟨a, ha, by
    right
    have y := h1 s t hs ht hc
    rcases r with r | r
    · rw [r]; exact y
    · exact w2 _ _ _ ha (h0 s t hs ht).1 (h0 s t hs ht).2 r y, ex⟩⟩)
  refine ⟨fun v _ => pass_mono _ _ _ _ _ _ _, fun s t hs ht he => ?_, fun v hv => ?_⟩
  · obtain ⟨a, ha, r, ea⟩ := I3 s hs
    rw [ea]
    have y : w a t = true := by
      rcases r with r | r
      · rw [r]; exact w1 s t hs ht he
      · exact w2 a s t ha hs ht r (w1 s t hs ht he)
    obtain ⟨s', t', hs', ht', hc', e1, e2⟩ := h2 a t ha ht y
    have := pass_get (σ := σ) (δ := δ) f0 ht' hc' q hs'
    rw [e1, e2] at this
    exact this
  · obtain ⟨a, ha, r, ea⟩ := I3 v hv
    refine ⟨a, ha, ?_, ea⟩
    rcases r with r | r
    · rw [r]; exact Rch.refl _ _ _
    · exact w3 a v ha hv r
/-! all steps: Warshall -/
def wr (e : Nat → Nat → Bool) : Nat → Nat → Nat → Bool
  | 0, s, t => e s t
  | k + 1, s, t => wr e k s t || (wr e k s k && wr e k k t)
theorem wr_s (e : Nat → Nat → Bool) (k s t : Nat) : wr e (k + 1) s t = true ↔ wr e k s t = true ∨ (wr e k s k = true ∧ wr e k k t = true) := by
  show (wr e k s t || (wr e k s k && wr e k k t)) = true ↔ _
  rw [Bool.or_eq_true, Bool.and_eq_true]
theorem wr_sub {e : Nat → Nat → Bool} {s t : Nat} (h : e s t = true) : ∀ n, wr e n s t = true
  | 0 => h
  | n + 1 => (wr_s e n s t).mpr (Or.inl (wr_sub h n))
theorem wr_tr (e : Nat → Nat → Bool) : ∀ n a b c, c < n → wr e n a c = true → wr e n c b = true → wr e n a b = true
  | 0, a, b, c, h, _, _ => by omega
  | n + 1, a, b, c, h, h1, h2 => by
    rw [wr_s] at h1 h2 ⊢
    by_cases q : c = n
    · subst q
      have x1 : wr e c a c = true := by
        rcases h1 with x | x
        · exact x
        · exact x.1
      have x2 : wr e c c b = true := by
        rcases h2 with x | x
        · exact x
        · exact x.2
      exact Or.inr ⟨x1, x2⟩
    · have ih := wr_tr e n
      rcases h1 with x | x
      · rcases h2 with y | y
        · exact Or.inl (ih a b c (by omega) x y)
        · exact Or.inr ⟨ih a n c (by omega) x y.1, y.2⟩
      · rcases h2 with y | y
        · exact Or.inr ⟨x.1, ih n b c (by omega) x.2 y⟩
        · exact Or.inr ⟨x.1, y.2⟩
theorem wr_rch {e : Nat → Nat → Bool} {q : Nat} : ∀ n a b, n ≤ q → a < q → b < q → wr e n a b = true → Rch e q a b
  | 0, a, b, _, ha, hb, h => (Rch.refl _ _ _).step ha hb h
  | n + 1, a, b, hn, ha, hb, h => by
    rw [wr_s] at h
    rcases h with h | h
    · exact wr_rch n a b (by omega) ha hb h
    · exact (wr_rch n a n (by omega) ha (by omega) h.1).trans (wr_rch n n b (by omega) (by omega) hb h.2)
/-! the years at first, by printers and spans: the greatest as what it wants to 1999 -/
def yB (M : Nat → Nat → Int32) (s : Nat) : Prop := M 66 s = -9 ∨ M 63 (ix (M 66 s)) = -9
def yL (M : Nat → Nat → Int32) (s : Nat) : Nat := if M 66 s = -9 ∨ M 63 (ix (M 66 s)) = -9 then 1500 else ix (M 63 (ix (M 66 s)))
def yU (M : Nat → Nat → Int32) (sl s : Nat) : Nat := if M 66 s = -9 ∨ M 63 (ix (M 66 s)) = -9 then 0 else 1999 - (ix (M 64 (ix (M 66 s))) + sl)
def sp (M : Nat → Nat → Int32) (s : Nat) : Bool := decide (¬ M 72 s = -9)
def y0 (M : Nat → Nat → Int32) (w : Nat → Bool) (s : Nat) : Nat := if (sp M s && !w s) = true then max (yL M s) (ix (M 72 s)) else yL M s
def y1 (M : Nat → Nat → Int32) (sl : Nat) (w : Nat → Bool) (s : Nat) : Nat := if (sp M s && !w s) = true then max (yU M sl s) (1999 - ix (M 73 s)) else yU M sl s
def yl (M : Nat → Nat → Int32) (q : Nat) (w : Nat → Bool) : Nat → Nat := rnd (ahd M) (fun s _ => s) (fun _ t => t) q (y0 M w) q
def yu (M : Nat → Nat → Int32) (q sl : Nat) (w : Nat → Bool) : Nat → Nat := rnd (ahd M) (fun _ t => t) (fun s _ => s) q (y1 M sl w) q
def fea (M : Nat → Nat → Int32) (q sl : Nat) (w : Nat → Bool) : Bool := decide (∀ v, v < q → yl M q w v + yu M q sl w v ≤ 1999)
theorem yl_F (M : Nat → Nat → Int32) (q : Nat) (w : Nat → Bool) : Fnl (ahd M) q (y0 M w) (yl M q w) := rnd_Fnl (fun s t hs ht => ⟨hs, ht⟩) (fun _ _ _ _ h => h) (fun a b ha hb h => ⟨a, b, ha, hb, h, rfl, rfl⟩) _
theorem yu_F (M : Nat → Nat → Int32) (q sl : Nat) (w : Nat → Bool) : Fnl (fun a b => ahd M b a) q (y1 M sl w) (yu M q sl w) := rnd_Fnl (fun s t hs ht => ⟨ht, hs⟩) (fun _ _ _ _ h => h) (fun a b ha hb h => ⟨b, a, hb, ha, h, rfl, rfl⟩) _
theorem xl_F (M : Nat → Nat → Int32) (q : Nat) (w : Nat → Bool) {v : Nat} (hv : v < q) : pass (wr (ahd M) q) (fun s _ => s) (fun _ t => t) q (y0 M w) q v = yl M q w v :=
  (pass_Fnl (w := wr (ahd M) q) (fun s t hs ht => ⟨hs, ht⟩) (fun _ _ _ _ h => h) (fun a b ha hb h => ⟨a, b, ha, hb, h, rfl, rfl⟩) (fun a b _ _ h => wr_sub h q) (fun a b c _ hb _ h1 h2 => wr_tr _ q a c b hb h1 h2) (fun a b ha hb h => wr_rch q a b (Nat.le_refl _) ha hb h) (y0 M w)).eq (yl_F M q w) hv
theorem xu_F (M : Nat → Nat → Int32) (q sl : Nat) (w : Nat → Bool) {v : Nat} (hv : v < q) : pass (wr (ahd M) q) (fun _ t => t) (fun s _ => s) q (y1 M sl w) q v = yu M q sl w v :=
  (pass_Fnl (w := fun a b => wr (ahd M) q b a) (e := fun a b => ahd M b a) (fun s t hs ht => ⟨ht, hs⟩) (fun _ _ _ _ h => h) (fun a b ha hb h => ⟨b, a, hb, ha, h, rfl, rfl⟩) (fun a b _ _ h => wr_sub h q) (fun a b c _ hb _ h1 h2 => wr_tr _ q c a b hb h2 h1) (fun a b ha hb h => (wr_rch q b a (Nat.le_refl _) hb ha h).flip) (y1 M sl w)).eq (yu_F M q sl w) hv
end Yrm
