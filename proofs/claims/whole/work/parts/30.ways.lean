section Ways
variable {h : z_Hp} (F : Nat)
def sub_ (a b : Nat) : Bool := decide (a &&& b = a)
def wyf (mu : Nat → Nat) (n : Nat) : Nat → Nat → Nat
  | 0, _ => 0
  | f + 1, S => (if S = 0 then 1 else 0) + fb_sm (fun k => if (S.testBit k && sub_ (mu k) (S ^^^ 2 ^ k)) = true then wyf mu n f (S ^^^ 2 ^ k) else 0) n
theorem clr_lt0 : ∀ a, a < 64 → ∀ b, b < 64 → ∀ k, k < 12 → (64 * a + b).testBit k = true → (64 * a + b) ^^^ 2 ^ k < 64 * a + b := by decide +kernel
theorem clr_lt (S : Nat) (hS : S < 4096) (k : Nat) (hk : k < 12) (c : S.testBit k = true) : S ^^^ 2 ^ k < S := by
  have e : S = 64 * (S / 64) + S % 64 := by omega
  rw [e] at c ⊢
  exact clr_lt0 _ (by omega) _ (by omega) k hk c
theorem clr_tb (S k j : Nat) : (S ^^^ 2 ^ k).testBit j = (S.testBit j ^^ decide (j = k)) := by
  rw [Nat.testBit_xor, Nat.testBit_two_pow]
  congr 1
  by_cases c : j = k
  · rw [decide_eq_true c, decide_eq_true c.symm]
  · rw [decide_eq_false c, decide_eq_false (fun e => c e.symm)]
theorem wyf_st (mu : Nat → Nat) {n : Nat} (hn : n ≤ 12) : ∀ f f' S, S < 4096 → S < f → S < f' → wyf mu n f S = wyf mu n f' S
  | 0, _, _, _, h, _ => by omega
  | _ + 1, 0, _, _, _, h => by omega
  | f + 1, f' + 1, S, h0, h1, h2 => by
    rw [wyf, wyf]
    congr 1
    apply fb_sm_cong
    intro k hk
    by_cases c : (S.testBit k && sub_ (mu k) (S ^^^ 2 ^ k)) = true
    · rw [if_pos c, if_pos c]
      have := clr_lt S h0 k (by omega) (by rw [Bool.and_eq_true] at c; exact c.1)
      exact wyf_st mu hn f f' _ (by omega) (by omega) (by omega)
    · rw [if_neg c, if_neg c]
def wy (mu : Nat → Nat) (n S : Nat) : Nat := wyf mu n (S + 1) S
def wyT (mu : Nat → Nat) (n S k : Nat) : Nat := if (S.testBit k && sub_ (mu k) (S ^^^ 2 ^ k)) = true then wy mu n (S ^^^ 2 ^ k) else 0
theorem wy_eq (mu : Nat → Nat) {n S : Nat} (hn : n ≤ 12) (hS : S < 4096) : wy mu n S = (if S = 0 then 1 else 0) + fb_sm (wyT mu n S) n := by
  unfold wy
  rw [wyf]
  congr 1
  apply fb_sm_cong
  intro k hk
  unfold wyT wy
  by_cases c : (S.testBit k && sub_ (mu k) (S ^^^ 2 ^ k)) = true
  · rw [if_pos c, if_pos c]
    have := clr_lt S hS k (by omega) (by rw [Bool.and_eq_true] at c; exact c.1)
    exact wyf_st mu hn _ _ _ (by omega) (by omega) (by omega)
  · rw [if_neg c, if_neg c]
def fac_ : Nat → Nat
  | 0 => 1
  | k + 1 => (k + 1) * fac_ k
theorem fac_le : ∀ k, k < 13 → fac_ k ≤ 479001600 := by decide +kernel
theorem fb_sm_if (p : Nat → Bool) (B : Nat) : ∀ n, fb_sm (fun k => if p k = true then B else 0) n = fb_ct p n * B
  | 0 => by show 0 = 0 * B; omega
  | n + 1 => by
    rw [fb_sm_succ, fb_sm_if p B n, fb_ct_succ, Nat.add_mul]
    congr 1
    by_cases c : p n = true
    · rw [if_pos c, if_pos c]; omega
    · rw [if_neg c, if_neg c]; omega
theorem pcn_clr {S k n : Nat} (hk : k < n) (c : S.testBit k = true) : pcn (S ^^^ 2 ^ k) n + 1 = pcn S n := by
  have := fb_ct_upd (fun i => S.testBit i) false (i := k) (n := n) hk
  have e2 : pcn (S ^^^ 2 ^ k) n = fb_ct (fun j => if j = k then false else S.testBit j) n := fb_ct_cong (fun j hj => by
    rw [clr_tb]
    by_cases e : j = k
    · subst e; simp [c]
    · simp [e])
  have e3 : pcn S n = fb_ct (fun i => S.testBit i) n := rfl
  rw [e2, e3]
  simp only [c, if_true, Bool.false_eq_true, if_false] at this
  omega
theorem wyf_le (mu : Nat → Nat) {n : Nat} (hn : n ≤ 12) : ∀ f S, wyf mu n f S ≤ fac_ (pcn S n)
  | 0, S => Nat.zero_le _
  | f + 1, S => by
    rw [wyf]
    have L : fb_sm (fun k => if (S.testBit k && sub_ (mu k) (S ^^^ 2 ^ k)) = true then wyf mu n f (S ^^^ 2 ^ k) else 0) n ≤ pcn S n * fac_ (pcn S n - 1) := by
      show _ ≤ fb_ct (fun i => S.testBit i) n * _
      rw [← fb_sm_if]
      apply fb_sm_le
      intro k hk
      by_cases c : (S.testBit k && sub_ (mu k) (S ^^^ 2 ^ k)) = true
      · have t : S.testBit k = true := by rw [Bool.and_eq_true] at c; exact c.1
        rw [if_pos c, if_pos t]
        have := wyf_le mu hn f (S ^^^ 2 ^ k)
        have e := pcn_clr hk t
        rw [show pcn S n - 1 = pcn (S ^^^ 2 ^ k) n by omega]
        exact this
      · rw [if_neg c]; exact Nat.zero_le _
    by_cases z : S = 0
    · subst z
      have p0 : pcn 0 n = 0 := by
        unfold pcn
        have : fb_ct (fun i => (0 : Nat).testBit i) n = fb_ct (fun _ => false) n := fb_ct_cong (fun i _ => Nat.zero_testBit i)
        rw [this]
        clear this L
        induction n with
        | zero => rfl
        | succ n ih => rw [fb_ct_succ, ih (by omega)]; rfl
      rw [p0] at L ⊢
      rw [if_pos rfl]
      show _ ≤ 1
      omega
    · rw [if_neg z]
      cases e : pcn S n with
      | zero => rw [e] at L; show _ ≤ 1; omega
      | succ c =>
        rw [e] at L
        show _ ≤ (c + 1) * fac_ c
        have : c + 1 - 1 = c := rfl
        rw [this] at L
        omega
theorem wy_lt (mu : Nat → Nat) {n : Nat} (hn : n ≤ 12) (S : Nat) : wy mu n S < 1000000000 := by
  have h1 := wyf_le mu hn (S + 1) S
  have h2 : pcn S n ≤ n := fb_ct_le _ _
  have h3 := fac_le (pcn S n) (by omega)
  unfold wy
  omega
/-! x's way: from each set to those with one more -/
def pT (mu : Nat → Nat) (n S k T j : Nat) : Nat := if (T.testBit j && sub_ (mu j) (T ^^^ 2 ^ j) && (decide (T ^^^ 2 ^ j < S) || (decide (T ^^^ 2 ^ j = S) && decide (j < k)))) = true then wy mu n (T ^^^ 2 ^ j) else 0
def psh (mu : Nat → Nat) (n S k T : Nat) : Nat := (if T = 0 then 1 else 0) + fb_sm (pT mu n S k T) n
theorem fb_sm_none {f : Nat → Nat} : ∀ {n : Nat}, (∀ k, k < n → f k = 0) → fb_sm f n = 0
  | 0, _ => rfl
  | n + 1, h => by rw [fb_sm_succ, fb_sm_none (fun k hk => h k (by omega)), h n (by omega)]
theorem psh_0 (mu : Nat → Nat) (n T : Nat) : psh mu n 0 0 T = if T = 0 then 1 else 0 := by
  unfold psh
  rw [fb_sm_none, Nat.add_zero]
  intro j hj
  unfold pT
  rw [decide_eq_false (by omega), decide_eq_false (show ¬ j < 0 by omega), Bool.and_false, Bool.or_false, Bool.and_false, if_neg (by decide)]
theorem psh_self (mu : Nat → Nat) {n S : Nat} (hn : n ≤ 12) (hS : S < 4096) (k : Nat) : psh mu n S k S = wy mu n S := by
  rw [wy_eq mu hn hS]
  unfold psh
  congr 1
  apply fb_sm_cong
  intro j hj
  unfold pT wyT
  by_cases c : S.testBit j = true
  · have := clr_lt S hS j (by omega) c
    rw [decide_eq_true this, Bool.true_or, Bool.and_true]
  · have cf : S.testBit j = false := by cases e : S.testBit j with | true => exact absurd e c | false => rfl
    rw [cf, Bool.false_and, Bool.false_and]
theorem psh_next (mu : Nat → Nat) (n S T : Nat) : psh mu n (S + 1) 0 T = psh mu n S n T := by
  unfold psh
  congr 1
  apply fb_sm_cong
  intro j hj
  unfold pT
  have : (decide (T ^^^ 2 ^ j < S + 1) || (decide (T ^^^ 2 ^ j = S + 1) && decide (j < 0))) = (decide (T ^^^ 2 ^ j < S) || (decide (T ^^^ 2 ^ j = S) && decide (j < n))) := by
    rw [decide_eq_false (show ¬ j < 0 by omega), Bool.and_false, Bool.or_false, decide_eq_true hj, Bool.and_true]
    by_cases c : T ^^^ 2 ^ j < S
    · rw [decide_eq_true c, decide_eq_true (by omega)]; rfl
    · rw [decide_eq_false c, Bool.false_or]
      by_cases e : T ^^^ 2 ^ j = S
      · rw [decide_eq_true e, decide_eq_true (by omega)]
      · rw [decide_eq_false e, decide_eq_false (by omega)]
  rw [this]
theorem fb_sm_one {f g : Nat → Nat} {i c : Nat} : ∀ {n : Nat}, i < n → (∀ j, j < n → j ≠ i → f j = g j) → f i = g i + c → fb_sm f n = fb_sm g n + c
  | 0, h, _, _ => by omega
  | n + 1, h, e, ei => by
    rw [fb_sm_succ, fb_sm_succ]
    by_cases q : i = n
    · subst q
      rw [fb_sm_cong (fun k hk => e k (by omega) (by omega)), ei]; omega
    · rw [fb_sm_one (by omega) (fun j hj => e j (by omega)) ei, e n (by omega) (by omega)]; omega
theorem psh_step (mu : Nat → Nat) {n S k : Nat} (hk : k < n) (T : Nat) : psh mu n S (k + 1) T = psh mu n S k T + (if (T.testBit k && sub_ (mu k) S && decide (T ^^^ 2 ^ k = S)) = true then wy mu n S else 0) := by
  unfold psh
  rw [Nat.add_assoc]
  congr 1
  refine fb_sm_one hk (fun j hj e => ?_) ?_
  · unfold pT
    have : decide (j < k + 1) = decide (j < k) := by
      by_cases c : j < k
      · rw [decide_eq_true c, decide_eq_true (by omega)]
      · rw [decide_eq_false c, decide_eq_false (by omega)]
    rw [this]
  · unfold pT
    rw [decide_eq_true (show k < k + 1 by omega), decide_eq_false (show ¬ k < k by omega), Bool.and_true, Bool.and_false, Bool.or_false]
    by_cases e : T ^^^ 2 ^ k = S
    · rw [decide_eq_true e, decide_eq_false (show ¬ T ^^^ 2 ^ k < S by omega), e, Bool.false_or, Bool.and_true, Bool.and_false, if_neg (show ¬ (false = true) by decide), Nat.zero_add]
    · rw [decide_eq_false e, Bool.or_false, Bool.and_false, if_neg (show ¬ (false = true) by decide), Nat.add_zero]
theorem or_clr {S k : Nat} (c : S.testBit k = false) : (S ||| 2 ^ k).testBit k = true ∧ (S ||| 2 ^ k) ^^^ 2 ^ k = S := by
  refine ⟨by rw [fb_bit_set]; simp, ?_⟩
  apply Nat.eq_of_testBit_eq
  intro j
  rw [clr_tb, fb_bit_set]
  by_cases e : j = k
  · subst e; simp [c]
  · simp [e]
theorem clr_or {S T k : Nat} (c : T.testBit k = true) (e : T ^^^ 2 ^ k = S) : T = S ||| 2 ^ k ∧ S.testBit k = false := by
  subst e
  refine ⟨?_, by rw [clr_tb]; simp [c]⟩
  apply Nat.eq_of_testBit_eq
  intro j
  rw [fb_bit_set, clr_tb]
  by_cases e : j = k
  · subst e; simp [c]
  · simp [e]
/-! sets as numbers -/
theorem subq {a b : Nat} (ha : a < 2147483648) (hb : b < 2147483648) : (nI a &&& (nI b ^^^ -1)) = 0 ↔ sub_ a b = true := by
  unfold sub_
  rw [decide_eq_true_iff]
  constructor
  · intro e
    apply Nat.eq_of_testBit_eq
    intro j
    rw [Nat.testBit_and]
    by_cases hj : j < 31
    · have := congrArg (fun x => bt x j) e
      simp only [b_and, b_xor, b_0, b_m1 j (by omega), bt_n _ (show j < 32 by omega)] at this
      cases h1 : a.testBit j <;> cases h2 : b.testBit j <;> simp_all
    · rw [tb_big (n := 31) ha (by omega)]; rfl
  · intro e
    apply b_ext
    intro j hj
    rw [b_and, b_xor, b_0, b_m1 j hj, bt_n _ hj, bt_n _ hj]
    have := congrArg (fun x => x.testBit j) e
    simp only [Nat.testBit_and] at this
    cases h1 : a.testBit j <;> cases h2 : b.testBit j <;> simp_all
theorem clrq {S k : Nat} (hk : k < 31) (c : S.testBit k = true) : nI S &&& (((1 : Int32) <<< (nI k &&& 31)) ^^^ -1) = nI (S ^^^ 2 ^ k) := by
  rw [shl_1 k hk]
  apply b_ext
  intro j hj
  rw [b_and, b_xor, b_m1 j hj, bt_n _ hj, bt_n _ hj, bt_n _ hj, clr_tb, Nat.testBit_two_pow]
  by_cases e : k = j
  · subst e; simp [c]
  · have : ¬ j = k := fun x => e x.symm
    simp [e, this]
/-- behind changes at places of those in fs -/
theorem St.ch {A : Nat → Nat → Prop} {fs : List Nat} {ow : Ow} {h g k : z_Hp} (s : St fs ow h g) (c : ChI A g k) (hA : ∀ a i, A a i → a < hZ h → ow a i ∈ fs) : St fs ow h k := by
  refine ⟨by rw [c.Z.1]; exact s.1, fun a ha => by rw [c.T, c.N]; exact s.2.1 a ha, fun a i ha hn => ?_, fun a ha => by rw [c.T]; exact s.2.2.2 a (by rw [← c.Z.1]; exact ha)⟩
  rw [c.1 a i (fun e => hn (hA a i e ha)), c.J, c.R]
  exact s.2.2.1 a i ha hn
end Ways
