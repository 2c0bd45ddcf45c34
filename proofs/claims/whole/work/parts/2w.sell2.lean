section OpsQ
variable {h : z_Hp} (F : Nat) (x1 x2 x3 x4 x5 : Int32)
/-- scratch alone has changed -/
theorem InvO.sc {ow : Ow} (J : InvO ow h) {g : z_Hp} (s : St SC ow h g) : InvO ow g := J.fin J.1 s (OwX.refl _ _) (by decide)
theorem sI_sI (h : z_Hp) (a i : Nat) (x y : Int32) : sI (sI h a i x) a i y = sI h a i y := by
  unfold sI
  congr 1
  funext b j
  show (if b = a ∧ j = i then y else if b = a ∧ j = i then x else h.1 b j) = _
  by_cases c : b = a ∧ j = i
  · rw [if_pos c, if_pos c]
  · rw [if_neg c, if_neg c, if_neg c]
/-- a set by steps -/
def orf (c : Nat → Bool) (v : Nat → Nat) (z : Nat) : Nat → Nat
  | 0 => z
  | k + 1 => if c k = true then orf c v z k ||| 2 ^ v k else orf c v z k
theorem orf_y {c : Nat → Bool} {v : Nat → Nat} {z k : Nat} (e : c k = true) : orf c v z (k + 1) = orf c v z k ||| 2 ^ v k := if_pos e
theorem orf_n {c : Nat → Bool} {v : Nat → Nat} {z k : Nat} (e : c k = false) : orf c v z (k + 1) = orf c v z k := if_neg (by rw [e]; decide)
theorem orf_tb (c : Nat → Bool) (v : Nat → Nat) (z : Nat) : ∀ n i, (orf c v z n).testBit i = true ↔ z.testBit i = true ∨ ∃ k, k < n ∧ c k = true ∧ v k = i
  | 0, i => by
    constructor
    · intro g; exact Or.inl g
    · rintro (g | ⟨k, hk, _⟩)
      · exact g
      · omega
  | n + 1, i => by
    have ih := orf_tb c v z n i
    by_cases e : c n = true
    · rw [orf_y e, fb_bit_set, Bool.or_eq_true, ih, decide_eq_true_iff]
      constructor
      · rintro ((g | ⟨k, hk, g⟩) | g)
        · exact Or.inl g
        · exact Or.inr ⟨k, by omega, g⟩
        · exact Or.inr ⟨n, by omega, e, g.symm⟩
      · rintro (g | ⟨k, hk, g1, g2⟩)
        · exact Or.inl (Or.inl g)
        · by_cases q : k = n
          · subst q; exact Or.inr g2.symm
          · exact Or.inl (Or.inr ⟨k, by omega, g1, g2⟩)
    · rw [orf_n (by cases q : c n with | true => exact absurd q e | false => rfl), ih]
      constructor
      · rintro (g | ⟨k, hk, g⟩)
        · exact Or.inl g
        · exact Or.inr ⟨k, by omega, g⟩
      · rintro (g | ⟨k, hk, g1, g2⟩)
        · exact Or.inl g
        · by_cases q : k = n
          · subst q; exact absurd g1 e
          · exact Or.inr ⟨k, by omega, g1, g2⟩
theorem orf_lt {c : Nat → Bool} {v : Nat → Nat} {z : Nat} (hz : z < 1048576) : ∀ n, (∀ k, k < n → c k = true → v k < 20) → orf c v z n < 1048576
  | 0, _ => hz
  | n + 1, g => by
    have ih := orf_lt hz n (fun k hk => g k (by omega))
    by_cases e : c n = true
    · rw [orf_y e]; exact or_big ih (g n (by omega) e)
    · rw [orf_n (by cases q : c n with | true => exact absurd q e | false => rfl)]; exact ih
def wk (M : Nat → Nat → Int32) (j : Nat) : Bool := decide (¬ M 89 j < 0)
def pp (M : Nat → Nat → Int32) (j d : Nat) : Nat := ix (plc M j d)
def pwc (M : Nat → Nat → Int32) (pf : Nat → Nat) (d H j : Nat) : Bool := wk M j && (H.testBit j || decide (pf (pp M j d) ≤ d))
def pw (M : Nat → Nat → Int32) (pf : Nat → Nat) (d H : Nat) : Nat := orf (pwc M pf d H) (fun j => pp M j d) 0 4
def sac (M : Nat → Nat → Int32) (d P j : Nat) : Bool := wk M j && P.testBit (pp M j d)
def sat (M : Nat → Nat → Int32) (d P : Nat) : Nat := orf (sac M d P) (fun j => j) 0 4
def hv (M : Nat → Nat → Int32) (pf : Nat → Nat) : Nat → Nat
  | 0 => 0
  | d + 1 => hv M pf d ||| sat M d (pw M pf d (hv M pf d))
theorem wk_y (j : Nat) (c : ¬ hI h 89 j < 0) : wk (mm h) j = true := by unfold wk; rw [(mm_sl h).1]; exact decide_eq_true c
theorem wk_n (j : Nat) (c : hI h 89 j < 0) : wk (mm h) j = false := by unfold wk; rw [(mm_sl h).1]; exact decide_eq_false (fun e => e c)
/-- where j is, if it walks -/
theorem pp_rng {ow : Ow} (W : Rwlk ow h) {j : Nat} (hj : j < 4) (d : Nat) : (wk (mm h) j = false ∧ plc (mm h) j d = -9) ∨ (wk (mm h) j = true ∧ pp (mm h) j d < 10 ∧ plc (mm h) j d = nI (pp (mm h) j d)) := by
  rcases plc_rng W hj d with ⟨w1, w2⟩ | ⟨w1, p, hp, w2⟩
  · exact Or.inl ⟨wk_n j w1, w2⟩
  · have e : pp (mm h) j d = p := by unfold pp; rw [w2]; exact ix_n (by omega)
    exact Or.inr ⟨wk_y j w1, by rw [e]; exact hp, by rw [e]; exact w2⟩
theorem pw_lt {ow : Ow} (W : Rwlk ow h) (pf : Nat → Nat) (d H : Nat) (n : Nat) (hn : n ≤ 4) : orf (pwc (mm h) pf d H) (fun j => pp (mm h) j d) 0 n < 1048576 := orf_lt (by decide) n (fun k hk e => by
  rcases pp_rng W (show k < 4 by omega) d with ⟨w1, -⟩ | ⟨-, w2, -⟩
  · unfold pwc at e; rw [w1, Bool.false_and] at e; exact absurd e (by decide)
  · show pp (mm h) k d < 20; omega)
theorem sat_lt (M : Nat → Nat → Int32) (d P : Nat) {z : Nat} (hz : z < 1048576) (n : Nat) (hn : n ≤ 4) : orf (sac M d P) (fun j => j) z n < 1048576 := orf_lt hz n (fun k hk e => by show k < 20; omega)
theorem hv_lt (M : Nat → Nat → Int32) (pf : Nat → Nat) : ∀ d, hv M pf d < 1048576
  | 0 => by show 0 < 1048576; decide
  | d + 1 => Nat.or_lt_two_pow (n := 20) (hv_lt M pf d) (sat_lt M d _ (by decide) 4 (Nat.le_refl _))
theorem sat_tb (M : Nat → Nat → Int32) (d P i : Nat) : (sat M d P).testBit i = true ↔ i < 4 ∧ wk M i = true ∧ P.testBit (pp M i d) = true := by
  unfold sat
  rw [orf_tb]
  constructor
  · rintro (g | ⟨k, hk, g1, g2⟩)
    · rw [Nat.zero_testBit] at g; exact absurd g (by decide)
    · subst g2; unfold sac at g1; rw [Bool.and_eq_true] at g1; exact ⟨hk, g1.1, g1.2⟩
  · rintro ⟨g1, g2, g3⟩
    exact Or.inr ⟨i, g1, by unfold sac; rw [g2, g3]; rfl, rfl⟩
theorem pw_tb (M : Nat → Nat → Int32) (pf : Nat → Nat) (d H p : Nat) : (pw M pf d H).testBit p = true ↔ ∃ j, j < 4 ∧ wk M j = true ∧ (H.testBit j = true ∨ pf (pp M j d) ≤ d) ∧ pp M j d = p := by
  unfold pw
  rw [orf_tb]
  constructor
  · rintro (g | ⟨k, hk, g1, g2⟩)
    · rw [Nat.zero_testBit] at g; exact absurd g (by decide)
    · unfold pwc at g1; rw [Bool.and_eq_true, Bool.or_eq_true, decide_eq_true_iff] at g1; exact ⟨k, hk, g1.1, g1.2, g2⟩
  · rintro ⟨j, g1, g2, g3, g4⟩
    exact Or.inr ⟨j, g1, by unfold pwc; rw [Bool.and_eq_true, Bool.or_eq_true, decide_eq_true_iff]; exact ⟨g2, g3⟩, g4⟩
/-- those who have it walk -/
theorem hv_wk (M : Nat → Nat → Int32) (pf : Nat → Nat) : ∀ d i, (hv M pf d).testBit i = true → i < 4 ∧ wk M i = true
  | 0, i => fun g => by rw [show hv M pf 0 = 0 from rfl, Nat.zero_testBit] at g; exact absurd g (by decide)
  | d + 1, i => fun g => by
    rw [show hv M pf (d + 1) = hv M pf d ||| sat M d (pw M pf d (hv M pf d)) from rfl, Nat.testBit_or, Bool.or_eq_true, sat_tb] at g
    rcases g with g | g
    · exact hv_wk M pf d i g
    · exact ⟨g.1, g.2.1⟩
section Sx
variable {ow : Ow} {d : Nat}
theorem x_placesWith (I : Ifx h) (W : Rwlk ow h) (hF : 5000 ≤ F) {H : Nat} (hd : d < 100) (hH : H < 1048576) {pf : Nat → Nat} (hp : ∀ p, p < 10 → hI h 44 p = nI (pf p) ∧ pf p ≤ 100) : c_X4_placesWith F 39 (nI H) (nI d) h = some (nI (pw (mm h) pf d H), h) := by
  unfold c_X4_placesWith
  refine lpS (L := fun m (u : Int32 × Int32) => c_X4_placesWith_L5 F 39 (nI H) (nI d) m u.1 u.2 h) (fun k => (nI (orf (pwc (mm h) pf d H) (fun j => pp (mm h) j d) 0 k), nI k)) 4 (fun m k hk => ?_) (fun m => ?_) F (by omega)
  · show c_X4_placesWith_L5 F 39 (nI H) (nI d) (m + 1) (nI (orf (pwc (mm h) pf d H) (fun j => pp (mm h) j d) 0 k)) (nI k) h = c_X4_placesWith_L5 F 39 (nI H) (nI d) m (nI (orf (pwc (mm h) pf d H) (fun j => pp (mm h) j d) 0 (k + 1))) (nI (k + 1)) h
    rw [c_X4_placesWith_L5, if_neg (show ¬ (4 : Int32) ≤ nI k from nI_ge (b := 4) hk (by decide)), fT39 I, if_pos rfl, x_placeOf F I W hk hd, bI_some, nI_1]
    dsimp only [lt_]
    rcases pp_rng W hk d with ⟨w1, w2⟩ | ⟨w1, w2, w3⟩
    · rw [w2, if_pos rfl, orf_n (by unfold pwc; rw [w1]; rfl)]
    · rw [w3, if_neg (enc9 (by omega)), x_has F (by omega) (by omega), bI_some]
      by_cases c : H.testBit k = true
      · rw [if_pos c, ite10, shl_1 _ (by omega), fa_or, orf_y (by unfold pwc; rw [w1, c]; rfl)]
      · have b1 : okA h 44 20 (nI (pp (mm h) k d)) = true := okA_n (fT44 I) (fN44 I) (by omega) (by decide)
        obtain ⟨f1, f2⟩ := hp _ w2
        have cf : H.testBit k = false := by cases q : H.testBit k with | true => exact absurd q c | false => rfl
        rw [if_neg c, ite00, fT39 I, if_pos rfl, fR39_4 I]
        dsimp only [nn]
        rw [if_pos b1, ix_n (by omega), f1]
        by_cases c2 : pf (pp (mm h) k d) ≤ d
        · rw [if_neg (nI_nlt c2 (by omega)), shl_1 _ (by omega), fa_or, orf_y (by unfold pwc; rw [w1, decide_eq_true c2]; simp)]
        · rw [if_pos (nI_lt (by omega) (by omega)), orf_n (by unfold pwc; rw [w1, cf, decide_eq_false c2]; rfl)]
  · show c_X4_placesWith_L5 F 39 (nI H) (nI d) (m + 1) _ (nI 4) h = _
    rw [c_X4_placesWith_L5, if_pos (by decide)]; rfl
theorem x_sellersAt (I : Ifx h) (W : Rwlk ow h) (hF : 5000 ≤ F) {P : Nat} (hd : d < 100) (hP : P < 1048576) : c_X4_sellersAt F 39 (nI P) (nI d) h = some (nI (sat (mm h) d P), h) := by
  unfold c_X4_sellersAt
  refine lpS (L := fun m (u : Int32 × Int32) => c_X4_sellersAt_L5 F 39 (nI P) (nI d) m u.1 u.2 h) (fun k => (nI (orf (sac (mm h) d P) (fun j => j) 0 k), nI k)) 4 (fun m k hk => ?_) (fun m => ?_) F (by omega)
  · show c_X4_sellersAt_L5 F 39 (nI P) (nI d) (m + 1) (nI (orf (sac (mm h) d P) (fun j => j) 0 k)) (nI k) h = c_X4_sellersAt_L5 F 39 (nI P) (nI d) m (nI (orf (sac (mm h) d P) (fun j => j) 0 (k + 1))) (nI (k + 1)) h
    rw [c_X4_sellersAt_L5, if_neg (show ¬ (4 : Int32) ≤ nI k from nI_ge (b := 4) hk (by decide)), fT39 I, if_pos rfl, x_placeOf F I W hk hd, bI_some, nI_1]
    dsimp only [lt_]
    rcases pp_rng W hk d with ⟨w1, w2⟩ | ⟨w1, w2, w3⟩
    · rw [w2, if_pos rfl, orf_n (by unfold sac; rw [w1]; rfl)]
    · rw [w3, if_neg (enc9 (by omega)), x_has F (by omega) (by omega), bI_some]
      by_cases c : P.testBit (pp (mm h) k d) = true
      · rw [if_pos c, ite10, shl_1 _ (by omega), fa_or, orf_y (by unfold sac; rw [w1, c]; rfl)]
      · have cf : P.testBit (pp (mm h) k d) = false := by cases q : P.testBit (pp (mm h) k d) with | true => exact absurd q c | false => rfl
        rw [if_neg c, ite00, orf_n (by unfold sac; rw [w1, cf]; rfl)]
  · show c_X4_sellersAt_L5 F 39 (nI P) (nI d) (m + 1) _ (nI 4) h = _
    rw [c_X4_sellersAt_L5, if_pos (by decide)]; rfl
theorem x_havers_L (I : Ifx h) (W : Rwlk ow h) (hF : 5000 ≤ F) (hd : d < 100) {pf : Nat → Nat} (hp : ∀ p, p < 10 → hI h 44 p = nI (pf p) ∧ pf p ≤ 100) : c_X4_havers_L10 F 39 (nI d) F 0 0 h = some (nI (hv (mm h) pf (d + 1)), h) := by
  refine lpS (L := fun m (u : Int32 × Int32) => c_X4_havers_L10 F 39 (nI d) m u.1 u.2 h) (fun k => (nI (hv (mm h) pf k), nI k)) (d + 1) (fun m k hk => ?_) (fun m => ?_) F (by omega)
  · show c_X4_havers_L10 F 39 (nI d) (m + 1) (nI (hv (mm h) pf k)) (nI k) h = c_X4_havers_L10 F 39 (nI d) m (nI (hv (mm h) pf k ||| sat (mm h) k (pw (mm h) pf k (hv (mm h) pf k)))) (nI (k + 1)) h
    have pl : pw (mm h) pf k (hv (mm h) pf k) < 1048576 := pw_lt W pf k _ 4 (Nat.le_refl _)
    rw [c_X4_havers_L10, if_neg (nI_nlt (by omega) (by omega)), fT39 I, if_pos rfl, x_placesWith F I W hF (by omega) (hv_lt _ _ _) hp, bI_some, if_pos (fT39 I), x_sellersAt F I W hF (by omega) pl, bI_some]
    dsimp only [lt_]
    rw [fa_or, nI_1]
  · show c_X4_havers_L10 F 39 (nI d) (m + 1) _ (nI (d + 1)) h = _
    rw [c_X4_havers_L10, if_pos (nI_lt (by omega) (by omega))]
/-- the first day below n on which it is there, or n -/
def fdy (M : Nat → Nat → Int32) (pf : Nat → Nat) (p : Nat) : Nat → Int32
  | 0 => -9
  | d + 1 => if 0 ≤ fdy M pf p d then fdy M pf p d else if (pw M pf d (hv M pf d)).testBit p = true then nI d else -9
theorem fdy_rng (M : Nat → Nat → Int32) (pf : Nat → Nat) (p : Nat) : ∀ n, n < 1000 → (fdy M pf p n = -9 ∧ ∀ d, d < n → ¬ (pw M pf d (hv M pf d)).testBit p = true) ∨ ∃ d, d < n ∧ fdy M pf p n = nI d
  | 0, _ => Or.inl ⟨rfl, fun d hd => by omega⟩
  | n + 1, hn => by
    rcases fdy_rng M pf p n (by omega) with ⟨g1, g2⟩ | ⟨d, hd, g⟩
    · unfold fdy
      rw [g1, if_neg nn9]
      by_cases c : (pw M pf n (hv M pf n)).testBit p = true
      · rw [if_pos c]; exact Or.inr ⟨n, by omega, rfl⟩
      · rw [if_neg c]
        refine Or.inl ⟨rfl, fun d hd => ?_⟩
        by_cases e : d = n
        · subst e; exact c
        · exact g2 d (by omega)
    · unfold fdy
      rw [g, if_pos (nge (by omega))]; exact Or.inr ⟨d, by omega, rfl⟩
theorem fdy_go (M : Nat → Nat → Int32) (pf : Nat → Nat) (p n : Nat) (hn : n < 1000) (d : Nat) (hd : d < n) (g1 : ∀ k, k < d → ¬ (pw M pf k (hv M pf k)).testBit p = true) (g2 : (pw M pf d (hv M pf d)).testBit p = true) : fdy M pf p n = nI d := by
  have a : fdy M pf p d = -9 := by
    rcases fdy_rng M pf p d (by omega) with ⟨e, -⟩ | ⟨k, hk, e⟩
    · exact e
    · have : ∀ m, m ≤ d → fdy M pf p m = -9 := by
        intro m
        induction m with
        | zero => intro _; rfl
        | succ m ih =>
          intro hm
          show (if 0 ≤ fdy M pf p m then fdy M pf p m else if (pw M pf m (hv M pf m)).testBit p = true then nI m else -9) = _
          rw [ih (by omega), if_neg nn9, if_neg (g1 m (by omega))]
      exact this d (Nat.le_refl _)
  have : ∀ m, d < m → fdy M pf p m = nI d := by
    intro m
    induction m with
    | zero => intro e; omega
    | succ m ih =>
      intro hm
      show (if 0 ≤ fdy M pf p m then fdy M pf p m else if (pw M pf m (hv M pf m)).testBit p = true then nI m else -9) = _
      by_cases e : m = d
      · subst e; rw [a, if_neg nn9, if_pos g2]
      · rw [ih (by omega), if_pos (nge (by omega))]
  exact this n hd
/-- x's search for the first day -/
theorem x_first_L (I : Ifx h) (W : Rwlk ow h) (hF : 5000 ≤ F) {p : Nat} (hp10 : p < 10) {pf : Nat → Nat} (hp : ∀ p, p < 10 → hI h 44 p = nI (pf p) ∧ pf p ≤ 100) : c_X4_firstDayAt_L10 F 39 (nI p) F 0 0 h = some (fdy (mm h) pf p 100, h) := by
  have run : ∀ m k, k < 100 → c_X4_firstDayAt_L10 F 39 (nI p) (m + 1) (nI (hv (mm h) pf k)) (nI k) h = if (pw (mm h) pf k (hv (mm h) pf k)).testBit p = true then some (nI k, h) else c_X4_firstDayAt_L10 F 39 (nI p) m (nI (hv (mm h) pf (k + 1))) (nI (k + 1)) h := by
    intro m k hk
    have pl : pw (mm h) pf k (hv (mm h) pf k) < 1048576 := pw_lt W pf k _ 4 (Nat.le_refl _)
    rw [c_X4_firstDayAt_L10, if_neg (show ¬ (99 : Int32) < nI k from nI_nlt (a := 99) (by omega) (by omega)), fT39 I, if_pos rfl, x_placesWith F I W hF (by omega) (hv_lt _ _ _) hp, bI_some, x_has F (by omega) (by omega), bI_some]
    by_cases c : (pw (mm h) pf k (hv (mm h) pf k)).testBit p = true
    · rw [if_pos c, ite10, if_pos c]
    · rw [if_neg c, ite00, if_neg c, if_pos (fT39 I), x_sellersAt F I W hF (by omega) pl, bI_some]
      dsimp only [lt_]
      rw [fa_or, nI_1]; rfl
  have key : ∀ j k n, k + j = 100 → j < n → (∀ i, i < k → ¬ (pw (mm h) pf i (hv (mm h) pf i)).testBit p = true) → c_X4_firstDayAt_L10 F 39 (nI p) n (nI (hv (mm h) pf k)) (nI k) h = some (fdy (mm h) pf p 100, h) := by
    intro j
    induction j with
    | zero =>
      intro k n e1 e2 g
      obtain ⟨m, rfl⟩ : ∃ m, n = m + 1 := ⟨n - 1, by omega⟩
      obtain rfl : k = 100 := by omega
      rw [c_X4_firstDayAt_L10, if_pos (by decide)]
      rcases fdy_rng (mm h) pf p 100 (by omega) with ⟨e, -⟩ | ⟨d, hd, e⟩
      · rw [e]
      · exact absurd (show False from by
          have hh : ∀ m, m ≤ 100 → fdy (mm h) pf p m = -9 := by
            intro m
            induction m with
            | zero => intro _; rfl
            | succ m ih =>
              intro hm
              show (if 0 ≤ fdy (mm h) pf p m then fdy (mm h) pf p m else if (pw (mm h) pf m (hv (mm h) pf m)).testBit p = true then nI m else -9) = _
              rw [ih (by omega), if_neg nn9, if_neg (g m (by omega))]
          have := hh 100 (by omega)
          rw [e] at this
          exact enc9 (by omega) this) (fun x => x)
    | succ j ih =>
      intro k n e1 e2 g
      obtain ⟨m, rfl⟩ : ∃ m, n = m + 1 := ⟨n - 1, by omega⟩
      rw [run m k (by omega)]
      by_cases c : (pw (mm h) pf k (hv (mm h) pf k)).testBit p = true
      · rw [if_pos c, fdy_go (mm h) pf p 100 (by omega) k (by omega) g c]
      · rw [if_neg c]
        refine ih (k + 1) m (by omega) (by omega) (fun i hi => ?_)
        by_cases e : i = k
        · subst e; exact c
        · exact g i (by omega)
  exact key 100 0 F (by omega) (by omega) (fun i hi => by omega)
end Sx
end OpsQ
