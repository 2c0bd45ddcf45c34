section Bits1
variable {h : z_Hp} (F : Nat)
theorem bt_n (k : Nat) {j : Nat} (hj : j < 32) : bt (nI k) j = k.testBit j := by
  show (BitVec.ofNat 32 k).getLsbD j = _
  rw [BitVec.getLsbD_ofNat, decide_eq_true hj, Bool.true_and]
theorem tb_big {k n i : Nat} (hk : k < 2 ^ n) (hi : n ≤ i) : k.testBit i = false := Nat.testBit_lt_two_pow (Nat.lt_of_lt_of_le hk (Nat.pow_le_pow_right (by decide) hi))
theorem shr_n {k i : Nat} (hk : k < 2147483648) (hi : i < 32) : nI k >>> (nI i &&& 31) = nI (k >>> i) := by
  apply b_ext
  intro j hj
  rw [b_sshr i hi (nI k) hj, bt_n _ hj, Nat.testBit_shiftRight]
  by_cases c : i + j < 32
  · rw [if_pos c, bt_n _ c]
  · rw [if_neg c, bt_n _ (by omega), tb_big (n := 31) hk (by omega), tb_big (n := 31) hk (by omega)]
theorem ush_n {k i : Nat} (hk : k < 2147483648) (hi : i < 32) : ((nI k).toUInt32 >>> ((nI i).toUInt32 &&& Int32.toUInt32 31)).toInt32 = nI (k >>> i) := by
  apply b_ext
  intro j hj
  rw [b_ushr i hi, bt_n _ hj, Nat.testBit_shiftRight]
  by_cases c : i + j < 32
  · rw [bt_n _ c]
  · rw [b_big (by omega), tb_big (n := 31) hk (by omega)]
theorem shl_1 : ∀ i, i < 31 → (1 : Int32) <<< (nI i &&& 31) = nI (2 ^ i) := by decide +kernel
theorem bit_n {k i : Nat} (hk : k < 2147483648) (hi : i < 32) : (nI k >>> (nI i &&& 31)) &&& 1 = nI (if k.testBit i = true then 1 else 0) := by
  rw [shr_n hk hi, show (1 : Int32) = nI 1 from rfl, fa_and]
  congr 1
  rw [Nat.and_one_is_mod, Nat.shiftRight_eq_div_pow, Nat.testBit_eq_decide_div_mod_eq]
  have := Nat.mod_lt (k / 2 ^ i) (show 0 < 2 by decide)
  by_cases c : k / 2 ^ i % 2 = 1
  · rw [if_pos (by simp [c])]; exact c
  · rw [if_neg (by simp [c])]; omega
theorem x_has {k i : Nat} (hk : k < 2147483648) (hi : i < 32) : c_X9_has F (nI k) (nI i) h = some (if k.testBit i = true then 1 else 0, h) := by
  unfold c_X9_has
  rw [bit_n hk hi]
  by_cases c : k.testBit i = true
  · rw [if_pos c, if_pos c, if_neg (by decide)]
  · rw [if_neg c, if_neg c, if_pos (by decide)]
theorem m_has {k i : Nat} (hk : k < 2147483648) (hi : i < 32) : c_X10_has F (nI k) (nI i) h = some (if k.testBit i = true then 1 else 0, h) := by
  unfold c_X10_has
  rw [bit_n hk hi]
  by_cases c : k.testBit i = true
  · rw [if_pos c, if_pos c, if_pos (by decide)]
  · rw [if_neg c, if_neg c, if_neg (by decide)]
/-- how many of the first n bits are set -/
def pcn (k n : Nat) : Nat := fb_ct (fun i => k.testBit i) n
theorem m_bits {k : Nat} (hk : k < 2147483648) (hF : 5000 ≤ F) : c_X10_bits F (nI k) h = some (nI (pcn k 20), h) := by
  unfold c_X10_bits
  refine lpS (L := fun m (s : Int32 × Int32) => c_X10_bits_L4 F (nI k) m s.1 s.2 h) (fun i => (nI (pcn k i), nI i)) 20 (fun m i hi => ?_) (fun m => ?_) F (by omega)
  · show c_X10_bits_L4 F (nI k) (m + 1) (nI (pcn k i)) (nI i) h = c_X10_bits_L4 F (nI k) m (nI (pcn k (i + 1))) (nI (i + 1)) h
    rw [c_X10_bits_L4, if_neg (show ¬ (20 : Int32) ≤ nI i from nI_ge hi (by decide)), bit_n hk (by omega)]
    dsimp only [lt_]
    rw [nI_1, nI_add]; rfl
  · show c_X10_bits_L4 F (nI k) (m + 1) _ (nI 20) h = _
    rw [c_X10_bits_L4, if_pos (by decide)]
/-! the JDK's way to count bits -/
theorem and8 {x y p q : Nat} (hx : x < 256) (hp : p < 256) : (256 * y + x) &&& (256 * q + p) = 256 * (y &&& q) + (x &&& p) := by
  have hxp : x &&& p < 2 ^ 8 := Nat.and_lt_two_pow _ hp
  apply Nat.eq_of_testBit_eq
  intro i
  rw [Nat.testBit_and, show (256 : Nat) = 2 ^ 8 from rfl, Nat.testBit_two_pow_mul_add _ hx, Nat.testBit_two_pow_mul_add _ hp, Nat.testBit_two_pow_mul_add _ hxp]
  by_cases c : i < 8
  · simp [c, Nat.testBit_and]
  · simp [c, Nat.testBit_and]
def b1_ (a : Nat) : Nat := a - ((a / 2) &&& 85)
def b2_ (a : Nat) : Nat := (b1_ a &&& 51) + ((b1_ a / 4) &&& 51)
def b3_ (a : Nat) : Nat := (b2_ a % 16) + b2_ a / 16
theorem pc_d1 : ∀ e, e < 2 → ∀ a, a < 256 → (128 * e + a / 2) &&& 85 = (a / 2) &&& 85 := by decide +kernel
theorem pc_d2 : ∀ e, e < 4 → ∀ a, a < 256 → (64 * e + a / 4) &&& 51 = (a / 4) &&& 51 := by decide +kernel
theorem pc_d3 : ∀ a, a < 256 → b1_ a < 256 ∧ (a / 2) &&& 85 ≤ a ∧ b2_ a ≤ 68 ∧ b2_ a % 16 ≤ 4 ∧ b3_ a = pcn a 8 ∧ pcn a 8 ≤ 8 := by decide +kernel
theorem pc_d4 : ∀ e, e < 5 → ∀ a, a < 69 → a % 16 < 5 → (a + 16 * e + a / 16) &&& 15 = a % 16 + a / 16 := by decide +kernel
theorem pc_split {a k : Nat} (ha : a < 256) (n : Nat) : pcn (256 * k + a) (8 + n) = pcn a 8 + pcn k n := by
  unfold pcn
  rw [fb_ct_split]
  congr 1
  · apply fb_ct_cong
    intro i hi
    rw [show (256 : Nat) = 2 ^ 8 from rfl, Nat.testBit_two_pow_mul_add _ ha, if_pos hi]
  · apply fb_ct_cong
    intro i hi
    rw [show (256 : Nat) = 2 ^ 8 from rfl, Nat.testBit_two_pow_mul_add _ ha, if_neg (by omega)]
    congr 1; omega
theorem pc_fin {A B C : Nat} (hA : A ≤ 8) (hB : B ≤ 8) (hC : C ≤ 8) : ((256 * (256 * C + B) + A + (256 * (256 * C + B) + A) / 2 ^ 8) + (256 * (256 * C + B) + A + (256 * (256 * C + B) + A) / 2 ^ 8) / 2 ^ 16) % 2 ^ 6 = A + (B + C) := by
  rw [show (256 * (256 * C + B) + A) / 2 ^ 8 = 256 * C + B by omega, show (256 * (256 * C + B) + A + (256 * C + B)) / 2 ^ 16 = C by omega]
  omega
theorem bitc {k : Nat} (hk : k < 1048576) : c_J6_bitCount_0f7a4 F (nI k) h = some (nI (pcn k 20), h) := by
  obtain ⟨a, b, c, ha, hb, hc, rfl⟩ : ∃ a b c, a < 256 ∧ b < 256 ∧ c < 16 ∧ k = 256 * (256 * c + b) + a := ⟨k % 256, k / 256 % 256, k / 65536, by omega, by omega, by omega, by omega⟩
  obtain ⟨a1, a2, a3, a4, a5, a6⟩ := pc_d3 a ha
  obtain ⟨b1, b2, b3, b4, b5, b6⟩ := pc_d3 b hb
  obtain ⟨c1, c2, c3, c4, c5, c6⟩ := pc_d3 c (by omega)
  have pk : pcn (256 * (256 * c + b) + a) 20 = pcn a 8 + (pcn b 8 + pcn c 8) := by
    rw [show (20 : Nat) = 8 + 12 from rfl, pc_split ha, show (12 : Nat) = 8 + 4 from rfl, pc_split hb]
    congr 2
    have : ∀ c, c < 16 → pcn c 4 = pcn c 8 := by decide +kernel
    exact this c hc
  unfold c_J6_bitCount_0f7a4
  dsimp only [lt_]
  rw [show (1 : Int32) = nI 1 from rfl, show (2 : Int32) = nI 2 from rfl, show (4 : Int32) = nI 4 from rfl, show (8 : Int32) = nI 8 from rfl, show (16 : Int32) = nI 16 from rfl, show (1431655765 : Int32) = nI 1431655765 from rfl, show (858993459 : Int32) = nI 858993459 from rfl, show (252645135 : Int32) = nI 252645135 from rfl, show (63 : Int32) = nI 63 from rfl]
  -- step 1
  have e1 : ((256 * (256 * c + b) + a) >>> 1) &&& 1431655765 = 256 * (256 * ((c / 2) &&& 85) + ((b / 2) &&& 85)) + ((a / 2) &&& 85) := by
    rw [Nat.shiftRight_eq_div_pow, show (256 * (256 * c + b) + a) / 2 ^ 1 = 256 * (256 * (c / 2) + (128 * (c % 2) + b / 2)) + (128 * (b % 2) + a / 2) by omega, show (1431655765 : Nat) = 256 * (256 * 21845 + 85) + 85 from rfl, and8 (by omega) (by decide), and8 (by omega) (by decide), pc_d1 _ (by omega) b hb, pc_d1 _ (by omega) a ha]
    have : ∀ c, c < 16 → (c / 2) &&& 21845 = (c / 2) &&& 85 := by decide +kernel
    rw [this c hc]
  rw [ush_n (by omega) (by decide), fa_and, e1, nI_sub (by omega)]
  rw [show 256 * (256 * c + b) + a - (256 * (256 * ((c / 2) &&& 85) + ((b / 2) &&& 85)) + ((a / 2) &&& 85)) = 256 * (256 * b1_ c + b1_ b) + b1_ a by unfold b1_; omega]
  -- step 2
  have c1' : b1_ c < 16 := by
    have : ∀ c, c < 16 → b1_ c < 16 := by decide +kernel
    exact this c hc
  have e2 : ((256 * (256 * b1_ c + b1_ b) + b1_ a) >>> 2) &&& 858993459 = 256 * (256 * ((b1_ c / 4) &&& 51) + ((b1_ b / 4) &&& 51)) + ((b1_ a / 4) &&& 51) := by
    rw [Nat.shiftRight_eq_div_pow, show (256 * (256 * b1_ c + b1_ b) + b1_ a) / 2 ^ 2 = 256 * (256 * (b1_ c / 4) + (64 * (b1_ c % 4) + b1_ b / 4)) + (64 * (b1_ b % 4) + b1_ a / 4) by omega, show (858993459 : Nat) = 256 * (256 * 13107 + 51) + 51 from rfl, and8 (by omega) (by decide), and8 (by omega) (by decide), pc_d2 _ (by omega) _ b1, pc_d2 _ (by omega) _ a1]
    have : ∀ c, c < 16 → (c / 4) &&& 13107 = (c / 4) &&& 51 := by decide +kernel
    rw [this _ c1']
  have e3 : (256 * (256 * b1_ c + b1_ b) + b1_ a) &&& 858993459 = 256 * (256 * (b1_ c &&& 51) + (b1_ b &&& 51)) + (b1_ a &&& 51) := by
    rw [show (858993459 : Nat) = 256 * (256 * 13107 + 51) + 51 from rfl, and8 (by omega) (by decide), and8 (by omega) (by decide)]
    have : ∀ c, c < 16 → c &&& 13107 = c &&& 51 := by decide +kernel
    rw [this _ c1']
  rw [ush_n (by omega) (by decide), fa_and, fa_and, e2, e3, nI_add]
  rw [show 256 * (256 * (b1_ c &&& 51) + (b1_ b &&& 51)) + (b1_ a &&& 51) + (256 * (256 * ((b1_ c / 4) &&& 51) + ((b1_ b / 4) &&& 51)) + ((b1_ a / 4) &&& 51)) = 256 * (256 * b2_ c + b2_ b) + b2_ a by unfold b2_; omega]
  -- step 3
  have e4 : (256 * (256 * b2_ c + b2_ b) + b2_ a + (256 * (256 * b2_ c + b2_ b) + b2_ a) >>> 4) &&& 252645135 = 256 * (256 * b3_ c + b3_ b) + b3_ a := by
    rw [Nat.shiftRight_eq_div_pow, show 256 * (256 * b2_ c + b2_ b) + b2_ a + (256 * (256 * b2_ c + b2_ b) + b2_ a) / 2 ^ 4 = 256 * (256 * (b2_ c + b2_ c / 16) + (b2_ b + 16 * (b2_ c % 16) + b2_ b / 16)) + (b2_ a + 16 * (b2_ b % 16) + b2_ a / 16) by omega, show (252645135 : Nat) = 256 * (256 * 3855 + 15) + 15 from rfl, and8 (by omega) (by decide), and8 (by omega) (by decide), pc_d4 _ (by omega) _ (by omega) (by omega), pc_d4 _ (by omega) _ (by omega) (by omega)]
    have : ∀ c, c < 69 → c % 16 < 5 → (c + c / 16) &&& 3855 = c % 16 + c / 16 := by decide +kernel
    rw [this _ (by omega) (by omega)]; rfl
  rw [ush_n (by omega) (by decide), nI_add, fa_and, e4]
  rw [ush_n (by omega) (by decide), nI_add, ush_n (by rw [Nat.shiftRight_eq_div_pow]; omega) (by decide), nI_add, fa_and, a5, b5, c5, pk]
  congr 3
  rw [Nat.shiftRight_eq_div_pow, Nat.shiftRight_eq_div_pow, show (63 : Nat) = 2 ^ 6 - 1 from rfl, Nat.and_two_pow_sub_one_eq_mod]
  exact pc_fin a6 b6 c6
end Bits1
