theorem dX10_ask_0 : decode cX10_ask 0 = .ok (.aload_n 0, 1) := by decide +kernel
theorem dX10_ask_1 : decode cX10_ask 1 = .ok (.iload_n 1, 1) := by decide +kernel
theorem dX10_ask_2 : decode cX10_ask 2 = .ok (.putfield 160, 3) := by decide +kernel
theorem dX10_ask_5 : decode cX10_ask 5 = .ok (.iload_n 2, 1) := by decide +kernel
theorem dX10_ask_6 : decode cX10_ask 6 = .ok (.ireturn, 1) := by decide +kernel
def c_X10_ask (F : Nat) (a0 : Nat) (x1 : Int32) (x2 : Int32) (h0 : z_Hp) : Option (Int32 × z_Hp) := (if hT h0 a0 = 10 then (lt_ (sI h0 a0 2 x1) (fun h3 => (some (x2, h3)))) else none)
set_option maxRecDepth 20000 in
set_option maxHeartbeats 4000000 in
theorem t_X10_ask (F : Nat) (a0 : Nat) (x1 : Int32) (x2 : Int32) (h0 : z_Hp) : z_Ct zi mi_X10_ask [vr (some a0), vi x1, vi x2] h0 (c_X10_ask F a0 x1 x2 h0) := by
  refine z_entry (by decide) (Nat.le_of_ble_eq_true rfl) [(0, vr (some a0)), (1, vi x1), (2, vi x2)] rfl ?_
  unfold c_X10_ask
  refine z_aload_n (pc := 0) dX10_ask_0 rfl 0 rfl (z_iload_n (pc := 1) dX10_ask_1 rfl 1 rfl (z_putIl (pc := 2) fl_RX10_160 (fin_X_10_2 _) rfl dX10_ask_2 (fun h3 => (z_iload_n (pc := 5) dX10_ask_5 rfl 2 rfl (?_)))))
  exact z_iret (pc := 6) dX10_ask_6 rfl rfl
theorem dX10_share_0 : decode cX10_share 0 = .ok (.lload_n 1, 1) := by decide +kernel
theorem dX10_share_1 : decode cX10_share 1 = .ok (.lstore 6, 2) := by decide +kernel
theorem dX10_share_3 : decode cX10_share 3 = .ok (.lload_n 3, 1) := by decide +kernel
theorem dX10_share_4 : decode cX10_share 4 = .ok (.lstore 8, 2) := by decide +kernel
theorem dX10_share_6 : decode cX10_share 6 = .ok (.lload 8, 2) := by decide +kernel
theorem dX10_share_8 : decode cX10_share 8 = .ok (.lconst 0, 1) := by decide +kernel
theorem dX10_share_9 : decode cX10_share 9 = .ok (.lcmp, 1) := by decide +kernel
theorem dX10_share_10 : decode cX10_share 10 = .ok (.ifCond .eq 21, 3) := by decide +kernel
theorem dX10_share_13 : decode cX10_share 13 = .ok (.lload 6, 2) := by decide +kernel
theorem dX10_share_15 : decode cX10_share 15 = .ok (.lload 8, 2) := by decide +kernel
theorem dX10_share_17 : decode cX10_share 17 = .ok (.lrem, 1) := by decide +kernel
theorem dX10_share_18 : decode cX10_share 18 = .ok (.lstore 10, 2) := by decide +kernel
theorem dX10_share_20 : decode cX10_share 20 = .ok (.lload 8, 2) := by decide +kernel
theorem dX10_share_22 : decode cX10_share 22 = .ok (.lstore 6, 2) := by decide +kernel
theorem dX10_share_24 : decode cX10_share 24 = .ok (.lload 10, 2) := by decide +kernel
theorem dX10_share_26 : decode cX10_share 26 = .ok (.lstore 8, 2) := by decide +kernel
theorem dX10_share_28 : decode cX10_share 28 = .ok (.goto (-22), 3) := by decide +kernel
theorem dX10_share_31 : decode cX10_share 31 = .ok (.aload_n 0, 1) := by decide +kernel
theorem dX10_share_32 : decode cX10_share 32 = .ok (.lload_n 1, 1) := by decide +kernel
theorem dX10_share_33 : decode cX10_share 33 = .ok (.lload 6, 2) := by decide +kernel
theorem dX10_share_35 : decode cX10_share 35 = .ok (.ldiv, 1) := by decide +kernel
theorem dX10_share_36 : decode cX10_share 36 = .ok (.putfield 163, 3) := by decide +kernel
theorem dX10_share_39 : decode cX10_share 39 = .ok (.aload_n 0, 1) := by decide +kernel
theorem dX10_share_40 : decode cX10_share 40 = .ok (.lload_n 3, 1) := by decide +kernel
theorem dX10_share_41 : decode cX10_share 41 = .ok (.lload 6, 2) := by decide +kernel
theorem dX10_share_43 : decode cX10_share 43 = .ok (.ldiv, 1) := by decide +kernel
theorem dX10_share_44 : decode cX10_share 44 = .ok (.putfield 13, 3) := by decide +kernel
theorem dX10_share_47 : decode cX10_share 47 = .ok (.iload 5, 2) := by decide +kernel
theorem dX10_share_49 : decode cX10_share 49 = .ok (.ireturn, 1) := by decide +kernel
def c_X10_share_L6 (F : Nat) (a4 : Nat) (y5 : Int64) (y6 : Int64) (x7 : Int32) (k31 : Int64 → z_Hp → Option (Int32 × z_Hp)) : Nat → Int64 → Int64 → z_Hp → Option (Int32 × z_Hp)
  | 0, _, _, _ => none
  | n + 1, y8, y9, h10 => (if (lg_cmp y9 0) = 0 then (k31 y8 h10) else (if y9 = 0 then none else (lt_ (y8 - y8 / y9 * y9) (fun y13 => (c_X10_share_L6 F a4 y5 y6 x7 k31 n y9 y13 h10)))))
def c_X10_share (F : Nat) (a0 : Nat) (y1 : Int64) (y2 : Int64) (x3 : Int32) (h0 : z_Hp) : Option (Int32 × z_Hp) := (c_X10_share_L6 F a0 y1 y2 x3 (fun y14 h15 => (if y14 = 0 then none else (if hT h15 a0 = 10 then (lt_ (sJ h15 a0 4 (y1 / y14)) (fun h16 => (if y14 = 0 then none else (if hT h16 a0 = 10 then (lt_ (sJ h16 a0 5 (y2 / y14)) (fun h17 => (some (x3, h17)))) else none)))) else none))) F y1 y2 h0)
set_option maxRecDepth 20000 in
set_option maxHeartbeats 4000000 in
theorem g_X10_share_L6 (F : Nat) (a4 : Nat) (y5 : Int64) (y6 : Int64) (x7 : Int32) (k31 : Int64 → z_Hp → Option (Int32 × z_Hp)) (qk31 : ∀ (y11 : Int64) (h12 : z_Hp), z_G zi mi_X10_share 31 [(0, vr (some a4)), (1, vl y5), (3, vl y6), (5, vi x7), (6, vl y11)] [] h12 (k31 y11 h12)) : ∀ (n : Nat) (y8 : Int64) (y9 : Int64) (h10 : z_Hp), z_G zi mi_X10_share 6 [(0, vr (some a4)), (1, vl y5), (3, vl y6), (5, vi x7), (6, vl y8), (8, vl y9)] [] h10 (c_X10_share_L6 F a4 y5 y6 x7 k31 n y8 y9 h10) := by
  intro n
  induction n with
  | zero => intro y8 y9 h10; rw [c_X10_share_L6]; exact z_none
  | succ n ih =>
    intro y8 y9 h10
    rw [c_X10_share_L6]
    refine z_lload (pc := 6) dX10_share_6 5 rfl (z_lconst (pc := 8) dX10_share_8 lc_0 (z_lcmp (pc := 9) dX10_share_9 (?_)))
    refine z_if_eq (pc := 10) (tgt := 31) dX10_share_10 (by decide) ?_ ?_
    · exact z_sub [0, 1, 2, 3, 4] rfl (qk31 y8 h10)
    · refine z_lload (pc := 13) dX10_share_13 4 rfl (z_lload (pc := 15) dX10_share_15 5 rfl (z_lrem (pc := 17) dX10_share_17 (z_lstorel (pc := 18) (L' := fun y13 => [(0, vr (some a4)), (1, vl y5), (3, vl y6), (5, vi x7), (6, vl y8), (8, vl y9), (10, vl y13)]) dX10_share_18 (Nat.le_of_ble_eq_true rfl) (fun _ => rfl) (fun y13 => (z_lload (pc := 20) dX10_share_20 5 rfl (z_lstore (pc := 22) (L' := [(0, vr (some a4)), (1, vl y5), (3, vl y6), (5, vi x7), (6, vl y9), (8, vl y9), (10, vl y13)]) dX10_share_22 (Nat.le_of_ble_eq_true rfl) rfl (z_lload (pc := 24) dX10_share_24 6 rfl (z_lstore (pc := 26) (L' := [(0, vr (some a4)), (1, vl y5), (3, vl y6), (5, vi x7), (6, vl y9), (8, vl y13), (10, vl y13)]) dX10_share_26 (Nat.le_of_ble_eq_true rfl) rfl (?_)))))))))
      refine z_goto (pc := 28) (tgt := 6) dX10_share_28 (by decide) (?_)
      exact z_sub [0, 1, 2, 3, 4, 5] rfl (ih y9 y13 h10)
set_option maxRecDepth 20000 in
set_option maxHeartbeats 4000000 in
theorem t_X10_share (F : Nat) (a0 : Nat) (y1 : Int64) (y2 : Int64) (x3 : Int32) (h0 : z_Hp) : z_Ct zi mi_X10_share [vr (some a0), vl y1, vl y2, vi x3] h0 (c_X10_share F a0 y1 y2 x3 h0) := by
  refine z_entry (by decide) (Nat.le_of_ble_eq_true rfl) [(0, vr (some a0)), (1, vl y1), (3, vl y2), (5, vi x3)] rfl ?_
  unfold c_X10_share
  refine z_lload_n (pc := 0) dX10_share_0 rfl 1 rfl (z_lstore (pc := 1) (L' := [(0, vr (some a0)), (1, vl y1), (3, vl y2), (5, vi x3), (6, vl y1)]) dX10_share_1 (Nat.le_of_ble_eq_true rfl) rfl (z_lload_n (pc := 3) dX10_share_3 rfl 2 rfl (z_lstore (pc := 4) (L' := [(0, vr (some a0)), (1, vl y1), (3, vl y2), (5, vi x3), (6, vl y1), (8, vl y2)]) dX10_share_4 (Nat.le_of_ble_eq_true rfl) rfl (?_))))
  refine g_X10_share_L6 F a0 y1 y2 x3 _ (fun y14 h15 => ?_) F y1 y2 h0
  refine z_aload_n (pc := 31) dX10_share_31 rfl 0 rfl (z_lload_n (pc := 32) dX10_share_32 rfl 1 rfl (z_lload (pc := 33) dX10_share_33 4 rfl (z_ldiv (pc := 35) dX10_share_35 (z_putJl (pc := 36) fl_RX10_163 (fin_X_10_4 _) rfl dX10_share_36 (fun h16 => (z_aload_n (pc := 39) dX10_share_39 rfl 0 rfl (z_lload_n (pc := 40) dX10_share_40 rfl 2 rfl (z_lload (pc := 41) dX10_share_41 4 rfl (?_)))))))))
  refine z_ldiv (pc := 43) dX10_share_43 (z_putJl (pc := 44) fl_RX10_13 (fin_X_10_5 _) rfl dX10_share_44 (fun h17 => (z_iload (pc := 47) dX10_share_47 3 rfl (?_))))
  exact z_iret (pc := 49) dX10_share_49 rfl rfl
theorem dX10_bits_0 : decode cX10_bits 0 = .ok (.iconst 0, 1) := by decide +kernel
theorem dX10_bits_1 : decode cX10_bits 1 = .ok (.istore_n 1, 1) := by decide +kernel
theorem dX10_bits_2 : decode cX10_bits 2 = .ok (.iconst 0, 1) := by decide +kernel
theorem dX10_bits_3 : decode cX10_bits 3 = .ok (.istore_n 2, 1) := by decide +kernel
theorem dX10_bits_4 : decode cX10_bits 4 = .ok (.iload_n 2, 1) := by decide +kernel
theorem dX10_bits_5 : decode cX10_bits 5 = .ok (.bipush 20, 2) := by decide +kernel
theorem dX10_bits_7 : decode cX10_bits 7 = .ok (.if_icmp .ge 17, 3) := by decide +kernel
theorem dX10_bits_10 : decode cX10_bits 10 = .ok (.iload_n 1, 1) := by decide +kernel
theorem dX10_bits_11 : decode cX10_bits 11 = .ok (.iload_n 0, 1) := by decide +kernel
theorem dX10_bits_12 : decode cX10_bits 12 = .ok (.iload_n 2, 1) := by decide +kernel
theorem dX10_bits_13 : decode cX10_bits 13 = .ok (.ishr, 1) := by decide +kernel
theorem dX10_bits_14 : decode cX10_bits 14 = .ok (.iconst 1, 1) := by decide +kernel
theorem dX10_bits_15 : decode cX10_bits 15 = .ok (.iand, 1) := by decide +kernel
theorem dX10_bits_16 : decode cX10_bits 16 = .ok (.iadd, 1) := by decide +kernel
theorem dX10_bits_17 : decode cX10_bits 17 = .ok (.istore_n 1, 1) := by decide +kernel
theorem dX10_bits_18 : decode cX10_bits 18 = .ok (.iinc 2 1, 3) := by decide +kernel
theorem dX10_bits_21 : decode cX10_bits 21 = .ok (.goto (-17), 3) := by decide +kernel
theorem dX10_bits_24 : decode cX10_bits 24 = .ok (.iload_n 1, 1) := by decide +kernel
theorem dX10_bits_25 : decode cX10_bits 25 = .ok (.ireturn, 1) := by decide +kernel
def c_X10_bits_L4 (F : Nat) (x2 : Int32) : Nat → Int32 → Int32 → z_Hp → Option (Int32 × z_Hp)
  | 0, _, _, _ => none
  | n + 1, x3, x4, h5 => (if 20 ≤ x4 then (some (x3, h5)) else (lt_ (x3 + ((x2 >>> (x4 &&& 31)) &&& 1)) (fun x6 => (lt_ (x4 + 1) (fun x7 => (c_X10_bits_L4 F x2 n x6 x7 h5))))))
def c_X10_bits (F : Nat) (x1 : Int32) (h0 : z_Hp) : Option (Int32 × z_Hp) := (c_X10_bits_L4 F x1 F 0 0 h0)
set_option maxRecDepth 20000 in
set_option maxHeartbeats 4000000 in
theorem g_X10_bits_L4 (F : Nat) (x2 : Int32) : ∀ (n : Nat) (x3 : Int32) (x4 : Int32) (h5 : z_Hp), z_G zi mi_X10_bits 4 [(0, vi x2), (1, vi x3), (2, vi x4)] [] h5 (c_X10_bits_L4 F x2 n x3 x4 h5) := by
  intro n
  induction n with
  | zero => intro x3 x4 h5; rw [c_X10_bits_L4]; exact z_none
  | succ n ih =>
    intro x3 x4 h5
    rw [c_X10_bits_L4]
    refine z_iload_n (pc := 4) dX10_bits_4 rfl 2 rfl (z_bipush (pc := 5) dX10_bits_5 bp_20 (?_))
    refine z_icmp_ge (pc := 7) (tgt := 24) dX10_bits_7 (by decide) ?_ ?_
    · refine z_iload_n (pc := 24) dX10_bits_24 rfl 1 rfl (?_)
      exact z_iret (pc := 25) dX10_bits_25 rfl rfl
    · refine z_iload_n (pc := 10) dX10_bits_10 rfl 1 rfl (z_iload_n (pc := 11) dX10_bits_11 rfl 0 rfl (z_iload_n (pc := 12) dX10_bits_12 rfl 2 rfl (z_ishr (pc := 13) dX10_bits_13 (z_iconst (pc := 14) dX10_bits_14 ic_1 (z_iand (pc := 15) dX10_bits_15 (z_iadd (pc := 16) dX10_bits_16 (z_istorel_n (pc := 17) (L' := fun x6 => [(0, vi x2), (1, vi x6), (2, vi x4)]) dX10_bits_17 rfl (Nat.le_of_ble_eq_true rfl) (fun _ => rfl) (fun x6 => (?_)))))))))
      refine z_iincl (pc := 18) (L' := fun x7 => [(0, vi x2), (1, vi x6), (2, vi x7)]) dX10_bits_18 2 rfl ic_1 (Nat.le_of_ble_eq_true rfl) (fun _ => rfl) (fun x7 => (z_goto (pc := 21) (tgt := 4) dX10_bits_21 (by decide) (?_)))
      exact ih x6 x7 h5
set_option maxRecDepth 20000 in
set_option maxHeartbeats 4000000 in
theorem t_X10_bits (F : Nat) (x1 : Int32) (h0 : z_Hp) : z_Ct zi mi_X10_bits [vi x1] h0 (c_X10_bits F x1 h0) := by
  refine z_entry (by decide) (Nat.le_of_ble_eq_true rfl) [(0, vi x1)] rfl ?_
  unfold c_X10_bits
  refine z_iconst (pc := 0) dX10_bits_0 ic_0 (z_istore_n (pc := 1) (L' := [(0, vi x1), (1, vi 0)]) dX10_bits_1 rfl (Nat.le_of_ble_eq_true rfl) rfl (z_iconst (pc := 2) dX10_bits_2 ic_0 (z_istore_n (pc := 3) (L' := [(0, vi x1), (1, vi 0), (2, vi 0)]) dX10_bits_3 rfl (Nat.le_of_ble_eq_true rfl) rfl (?_))))
  refine g_X10_bits_L4 F x1 F 0 0 h0
theorem dX10_has_0 : decode cX10_has 0 = .ok (.iload_n 0, 1) := by decide +kernel
theorem dX10_has_1 : decode cX10_has 1 = .ok (.iload_n 1, 1) := by decide +kernel
theorem dX10_has_2 : decode cX10_has 2 = .ok (.ishr, 1) := by decide +kernel
theorem dX10_has_3 : decode cX10_has 3 = .ok (.iconst 1, 1) := by decide +kernel
theorem dX10_has_4 : decode cX10_has 4 = .ok (.iand, 1) := by decide +kernel
theorem dX10_has_5 : decode cX10_has 5 = .ok (.iconst 1, 1) := by decide +kernel
theorem dX10_has_6 : decode cX10_has 6 = .ok (.if_icmp .ne 7, 3) := by decide +kernel
theorem dX10_has_9 : decode cX10_has 9 = .ok (.iconst 1, 1) := by decide +kernel
theorem dX10_has_10 : decode cX10_has 10 = .ok (.goto 4, 3) := by decide +kernel
theorem dX10_has_13 : decode cX10_has 13 = .ok (.iconst 0, 1) := by decide +kernel
theorem dX10_has_14 : decode cX10_has 14 = .ok (.ireturn, 1) := by decide +kernel
def c_X10_has (F : Nat) (x1 : Int32) (x2 : Int32) (h0 : z_Hp) : Option (Int32 × z_Hp) := (if ((x1 >>> (x2 &&& 31)) &&& 1) = 1 then (some (1, h0)) else (some (0, h0)))
set_option maxRecDepth 20000 in
set_option maxHeartbeats 4000000 in
theorem t_X10_has (F : Nat) (x1 : Int32) (x2 : Int32) (h0 : z_Hp) : z_Ct zi mi_X10_has [vi x1, vi x2] h0 (c_X10_has F x1 x2 h0) := by
  refine z_entry (by decide) (Nat.le_of_ble_eq_true rfl) [(0, vi x1), (1, vi x2)] rfl ?_
  unfold c_X10_has
  refine z_iload_n (pc := 0) dX10_has_0 rfl 0 rfl (z_iload_n (pc := 1) dX10_has_1 rfl 1 rfl (z_ishr (pc := 2) dX10_has_2 (z_iconst (pc := 3) dX10_has_3 ic_1 (z_iand (pc := 4) dX10_has_4 (z_iconst (pc := 5) dX10_has_5 ic_1 (?_))))))
  refine z_icmp_ne (pc := 6) (tgt := 13) dX10_has_6 (by decide) ?_ ?_
  · refine z_iconst (pc := 13) dX10_has_13 ic_0 (?_)
    exact z_iret (pc := 14) dX10_has_14 rfl rfl
  · refine z_iconst (pc := 9) dX10_has_9 ic_1 (z_goto (pc := 10) (tgt := 14) dX10_has_10 (by decide) (?_))
    exact z_iret (pc := 14) dX10_has_14 rfl rfl
theorem dX10_isRow_0 : decode cX10_isRow 0 = .ok (.iload_n 0, 1) := by decide +kernel
theorem dX10_isRow_1 : decode cX10_isRow 1 = .ok (.iconst 0, 1) := by decide +kernel
theorem dX10_isRow_2 : decode cX10_isRow 2 = .ok (.iconst 5, 1) := by decide +kernel
theorem dX10_isRow_3 : decode cX10_isRow 3 = .ok (.invokestatic 166, 3) := by decide +kernel
theorem dX10_isRow_6 : decode cX10_isRow 6 = .ok (.ireturn, 1) := by decide +kernel
def c_X10_isRow (F : Nat) (x1 : Int32) (h0 : z_Hp) : Option (Int32 × z_Hp) := (bI (c_X10_in F x1 0 5 h0) (fun x3 h2 => (if x3 = 0 ∨ x3 = 1 then some (x3, h2) else none)))
set_option maxRecDepth 20000 in
set_option maxHeartbeats 4000000 in
theorem t_X10_isRow (F : Nat) (x1 : Int32) (h0 : z_Hp) : z_Ct zi mi_X10_isRow [vi x1] h0 (c_X10_isRow F x1 h0) := by
  refine z_entry (by decide) (Nat.le_of_ble_eq_true rfl) [(0, vi x1)] rfl ?_
  unfold c_X10_isRow
  refine z_iload_n (pc := 0) dX10_isRow_0 rfl 0 rfl (z_iconst (pc := 1) dX10_isRow_1 ic_0 (z_iconst (pc := 2) dX10_isRow_2 ic_5 (z_callS_I (pc := 3) (avs := [vi x1, vi 0, vi 5]) (st := []) rfl (t_X10_in F x1 0 5 h0) ky_X10_in ws_X10_in wz_RX10_166 (rm_X10_isRow_X10_in) (Nat.le_of_ble_eq_true rfl) dX10_isRow_3 (fun x3 h2 => (?_)))))
  exact z_zret (pc := 6) dX10_isRow_6 rfl
theorem dX10_isText_0 : decode cX10_isText 0 = .ok (.iload_n 0, 1) := by decide +kernel
theorem dX10_isText_1 : decode cX10_isText 1 = .ok (.iconst 0, 1) := by decide +kernel
theorem dX10_isText_2 : decode cX10_isText 2 = .ok (.iconst 3, 1) := by decide +kernel
theorem dX10_isText_3 : decode cX10_isText 3 = .ok (.invokestatic 166, 3) := by decide +kernel
theorem dX10_isText_6 : decode cX10_isText 6 = .ok (.ireturn, 1) := by decide +kernel
def c_X10_isText (F : Nat) (x1 : Int32) (h0 : z_Hp) : Option (Int32 × z_Hp) := (bI (c_X10_in F x1 0 3 h0) (fun x3 h2 => (if x3 = 0 ∨ x3 = 1 then some (x3, h2) else none)))
set_option maxRecDepth 20000 in
set_option maxHeartbeats 4000000 in
theorem t_X10_isText (F : Nat) (x1 : Int32) (h0 : z_Hp) : z_Ct zi mi_X10_isText [vi x1] h0 (c_X10_isText F x1 h0) := by
  refine z_entry (by decide) (Nat.le_of_ble_eq_true rfl) [(0, vi x1)] rfl ?_
  unfold c_X10_isText
  refine z_iload_n (pc := 0) dX10_isText_0 rfl 0 rfl (z_iconst (pc := 1) dX10_isText_1 ic_0 (z_iconst (pc := 2) dX10_isText_2 ic_3 (z_callS_I (pc := 3) (avs := [vi x1, vi 0, vi 3]) (st := []) rfl (t_X10_in F x1 0 3 h0) ky_X10_in ws_X10_in wz_RX10_166 (rm_X10_isText_X10_in) (Nat.le_of_ble_eq_true rfl) dX10_isText_3 (fun x3 h2 => (?_)))))
  exact z_zret (pc := 6) dX10_isText_6 rfl
theorem dX10_askedRow_0 : decode cX10_askedRow 0 = .ok (.iload_n 1, 1) := by decide +kernel
theorem dX10_askedRow_1 : decode cX10_askedRow 1 = .ok (.invokestatic 170, 3) := by decide +kernel
theorem dX10_askedRow_4 : decode cX10_askedRow 4 = .ok (.ifCond .ne 7, 3) := by decide +kernel
theorem dX10_askedRow_7 : decode cX10_askedRow 7 = .ok (.iconst (-1), 1) := by decide +kernel
theorem dX10_askedRow_8 : decode cX10_askedRow 8 = .ok (.goto 21, 3) := by decide +kernel
theorem dX10_askedRow_11 : decode cX10_askedRow 11 = .ok (.aload_n 0, 1) := by decide +kernel
theorem dX10_askedRow_12 : decode cX10_askedRow 12 = .ok (.getfield 17, 3) := by decide +kernel
theorem dX10_askedRow_15 : decode cX10_askedRow 15 = .ok (.iload_n 1, 1) := by decide +kernel
theorem dX10_askedRow_16 : decode cX10_askedRow 16 = .ok (.iaload, 1) := by decide +kernel
theorem dX10_askedRow_17 : decode cX10_askedRow 17 = .ok (.ifCond .ge 11, 3) := by decide +kernel
theorem dX10_askedRow_20 : decode cX10_askedRow 20 = .ok (.aload_n 0, 1) := by decide +kernel
theorem dX10_askedRow_21 : decode cX10_askedRow 21 = .ok (.iconst 1, 1) := by decide +kernel
theorem dX10_askedRow_22 : decode cX10_askedRow 22 = .ok (.invokevirtual 174, 3) := by decide +kernel
theorem dX10_askedRow_25 : decode cX10_askedRow 25 = .ok (.goto 4, 3) := by decide +kernel
theorem dX10_askedRow_28 : decode cX10_askedRow 28 = .ok (.iconst 0, 1) := by decide +kernel
theorem dX10_askedRow_29 : decode cX10_askedRow 29 = .ok (.ireturn, 1) := by decide +kernel
def c_X10_askedRow (F : Nat) (a0 : Nat) (x1 : Int32) (h0 : z_Hp) : Option (Int32 × z_Hp) := (bI (c_X10_isRow F x1 h0) (fun x3 h2 => (if x3 = 0 then (some ((-1), h2)) else (if hT h2 a0 = 10 then (lt_ (hR h2 a0 7) (fun o4 => (nn o4 (fun a5 => (if okA h2 a5 20 x1 = true then (if 0 ≤ (hI h2 a5 (ix x1)) then (some (0, h2)) else (if hT h2 a0 = 10 then (bI (c_X10_meets F a0 1 h2) (fun x7 h6 => (some (x7, h6)))) else none)) else none))))) else none))))
set_option maxRecDepth 20000 in
set_option maxHeartbeats 4000000 in
theorem t_X10_askedRow (F : Nat) (a0 : Nat) (x1 : Int32) (h0 : z_Hp) : z_Ct zi mi_X10_askedRow [vr (some a0), vi x1] h0 (c_X10_askedRow F a0 x1 h0) := by
  refine z_entry (by decide) (Nat.le_of_ble_eq_true rfl) [(0, vr (some a0)), (1, vi x1)] rfl ?_
  unfold c_X10_askedRow
  refine z_iload_n (pc := 0) dX10_askedRow_0 rfl 1 rfl (z_callS_I (pc := 1) (avs := [vi x1]) (st := []) rfl (t_X10_isRow F x1 h0) ky_X10_isRow ws_X10_isRow wz_RX10_170 (rm_X10_askedRow_X10_isRow) (Nat.le_of_ble_eq_true rfl) dX10_askedRow_1 (fun x3 h2 => (?_)))
  refine z_if_ne (pc := 4) (tgt := 11) dX10_askedRow_4 (by decide) ?_ ?_
  · refine z_aload_n (pc := 11) dX10_askedRow_11 rfl 0 rfl (z_getRl (pc := 12) fl_RX10_17 rfl dX10_askedRow_12 (fun o4 => (z_iload_n (pc := 15) dX10_askedRow_15 rfl 1 rfl (?_))))
    refine z_nn (fun a5 ea5 => ?_)
    subst ea5
    refine z_iaload (pc := 16) dX10_askedRow_16 (?_)
    refine z_if_ge (pc := 17) (tgt := 28) dX10_askedRow_17 (by decide) ?_ ?_
    · refine z_iconst (pc := 28) dX10_askedRow_28 ic_0 (?_)
      exact z_iret (pc := 29) dX10_askedRow_29 rfl rfl
    · refine z_aload_n (pc := 20) dX10_askedRow_20 rfl 0 rfl (z_iconst (pc := 21) dX10_askedRow_21 ic_1 (z_callV_I (pc := 22) (avs := [vi 1]) (st := []) rfl (q := (RX10, TX10, 62)) rfl rfl (t_X10_meets F a0 1 h2) ky_X10_meets wm_X10_meets we_X10_meets wz_RX10_174 (rm_X10_askedRow_X10_meets) (Nat.le_of_ble_eq_true rfl) dX10_askedRow_22 (fun x7 h6 => (?_))))
      refine z_goto (pc := 25) (tgt := 29) dX10_askedRow_25 (by decide) (?_)
      exact z_iret (pc := 29) dX10_askedRow_29 rfl rfl
  · refine z_iconst (pc := 7) dX10_askedRow_7 ic_m1 (z_goto (pc := 8) (tgt := 29) dX10_askedRow_8 (by decide) (?_))
    exact z_iret (pc := 29) dX10_askedRow_29 rfl rfl
theorem dX10_askedText_0 : decode cX10_askedText 0 = .ok (.iload_n 1, 1) := by decide +kernel
theorem dX10_askedText_1 : decode cX10_askedText 1 = .ok (.invokestatic 178, 3) := by decide +kernel
theorem dX10_askedText_4 : decode cX10_askedText 4 = .ok (.ifCond .ne 7, 3) := by decide +kernel
theorem dX10_askedText_7 : decode cX10_askedText 7 = .ok (.iconst (-1), 1) := by decide +kernel
theorem dX10_askedText_8 : decode cX10_askedText 8 = .ok (.goto 21, 3) := by decide +kernel
theorem dX10_askedText_11 : decode cX10_askedText 11 = .ok (.aload_n 0, 1) := by decide +kernel
theorem dX10_askedText_12 : decode cX10_askedText 12 = .ok (.getfield 26, 3) := by decide +kernel
theorem dX10_askedText_15 : decode cX10_askedText 15 = .ok (.iload_n 1, 1) := by decide +kernel
theorem dX10_askedText_16 : decode cX10_askedText 16 = .ok (.iaload, 1) := by decide +kernel
theorem dX10_askedText_17 : decode cX10_askedText 17 = .ok (.ifCond .ge 11, 3) := by decide +kernel
theorem dX10_askedText_20 : decode cX10_askedText 20 = .ok (.aload_n 0, 1) := by decide +kernel
theorem dX10_askedText_21 : decode cX10_askedText 21 = .ok (.iconst 1, 1) := by decide +kernel
theorem dX10_askedText_22 : decode cX10_askedText 22 = .ok (.invokevirtual 174, 3) := by decide +kernel
theorem dX10_askedText_25 : decode cX10_askedText 25 = .ok (.goto 4, 3) := by decide +kernel
theorem dX10_askedText_28 : decode cX10_askedText 28 = .ok (.iconst 0, 1) := by decide +kernel
theorem dX10_askedText_29 : decode cX10_askedText 29 = .ok (.ireturn, 1) := by decide +kernel
def c_X10_askedText (F : Nat) (a0 : Nat) (x1 : Int32) (h0 : z_Hp) : Option (Int32 × z_Hp) := (bI (c_X10_isText F x1 h0) (fun x3 h2 => (if x3 = 0 then (some ((-1), h2)) else (if hT h2 a0 = 10 then (lt_ (hR h2 a0 10) (fun o4 => (nn o4 (fun a5 => (if okA h2 a5 20 x1 = true then (if 0 ≤ (hI h2 a5 (ix x1)) then (some (0, h2)) else (if hT h2 a0 = 10 then (bI (c_X10_meets F a0 1 h2) (fun x7 h6 => (some (x7, h6)))) else none)) else none))))) else none))))
set_option maxRecDepth 20000 in
set_option maxHeartbeats 4000000 in
theorem t_X10_askedText (F : Nat) (a0 : Nat) (x1 : Int32) (h0 : z_Hp) : z_Ct zi mi_X10_askedText [vr (some a0), vi x1] h0 (c_X10_askedText F a0 x1 h0) := by
  refine z_entry (by decide) (Nat.le_of_ble_eq_true rfl) [(0, vr (some a0)), (1, vi x1)] rfl ?_
  unfold c_X10_askedText
  refine z_iload_n (pc := 0) dX10_askedText_0 rfl 1 rfl (z_callS_I (pc := 1) (avs := [vi x1]) (st := []) rfl (t_X10_isText F x1 h0) ky_X10_isText ws_X10_isText wz_RX10_178 (rm_X10_askedText_X10_isText) (Nat.le_of_ble_eq_true rfl) dX10_askedText_1 (fun x3 h2 => (?_)))
  refine z_if_ne (pc := 4) (tgt := 11) dX10_askedText_4 (by decide) ?_ ?_
  · refine z_aload_n (pc := 11) dX10_askedText_11 rfl 0 rfl (z_getRl (pc := 12) fl_RX10_26 rfl dX10_askedText_12 (fun o4 => (z_iload_n (pc := 15) dX10_askedText_15 rfl 1 rfl (?_))))
    refine z_nn (fun a5 ea5 => ?_)
    subst ea5
    refine z_iaload (pc := 16) dX10_askedText_16 (?_)
    refine z_if_ge (pc := 17) (tgt := 28) dX10_askedText_17 (by decide) ?_ ?_
    · refine z_iconst (pc := 28) dX10_askedText_28 ic_0 (?_)
      exact z_iret (pc := 29) dX10_askedText_29 rfl rfl
    · refine z_aload_n (pc := 20) dX10_askedText_20 rfl 0 rfl (z_iconst (pc := 21) dX10_askedText_21 ic_1 (z_callV_I (pc := 22) (avs := [vi 1]) (st := []) rfl (q := (RX10, TX10, 62)) rfl rfl (t_X10_meets F a0 1 h2) ky_X10_meets wm_X10_meets we_X10_meets wz_RX10_174 (rm_X10_askedText_X10_meets) (Nat.le_of_ble_eq_true rfl) dX10_askedText_22 (fun x7 h6 => (?_))))
      refine z_goto (pc := 25) (tgt := 29) dX10_askedText_25 (by decide) (?_)
      exact z_iret (pc := 29) dX10_askedText_29 rfl rfl
  · refine z_iconst (pc := 7) dX10_askedText_7 ic_m1 (z_goto (pc := 8) (tgt := 29) dX10_askedText_8 (by decide) (?_))
    exact z_iret (pc := 29) dX10_askedText_29 rfl rfl
theorem dX10_row_0 : decode cX10_row 0 = .ok (.iload_n 1, 1) := by decide +kernel
theorem dX10_row_1 : decode cX10_row 1 = .ok (.invokestatic 170, 3) := by decide +kernel
theorem dX10_row_4 : decode cX10_row 4 = .ok (.ifCond .eq 9, 3) := by decide +kernel
theorem dX10_row_7 : decode cX10_row 7 = .ok (.iload_n 2, 1) := by decide +kernel
theorem dX10_row_8 : decode cX10_row 8 = .ok (.bipush 40, 2) := by decide +kernel
theorem dX10_row_10 : decode cX10_row 10 = .ok (.if_icmp .le 5, 3) := by decide +kernel
theorem dX10_row_13 : decode cX10_row 13 = .ok (.iconst (-1), 1) := by decide +kernel
theorem dX10_row_14 : decode cX10_row 14 = .ok (.ireturn, 1) := by decide +kernel
theorem dX10_row_15 : decode cX10_row 15 = .ok (.iload_n 2, 1) := by decide +kernel
theorem dX10_row_16 : decode cX10_row 16 = .ok (.ifCond .ge 9, 3) := by decide +kernel
theorem dX10_row_19 : decode cX10_row 19 = .ok (.aload_n 0, 1) := by decide +kernel
theorem dX10_row_20 : decode cX10_row 20 = .ok (.iconst 5, 1) := by decide +kernel
theorem dX10_row_21 : decode cX10_row 21 = .ok (.invokevirtual 174, 3) := by decide +kernel
theorem dX10_row_24 : decode cX10_row 24 = .ok (.ireturn, 1) := by decide +kernel
theorem dX10_row_25 : decode cX10_row 25 = .ok (.aload_n 0, 1) := by decide +kernel
theorem dX10_row_26 : decode cX10_row 26 = .ok (.getfield 17, 3) := by decide +kernel
theorem dX10_row_29 : decode cX10_row 29 = .ok (.iload_n 1, 1) := by decide +kernel
theorem dX10_row_30 : decode cX10_row 30 = .ok (.iload_n 2, 1) := by decide +kernel
theorem dX10_row_31 : decode cX10_row 31 = .ok (.iastore, 1) := by decide +kernel
theorem dX10_row_32 : decode cX10_row 32 = .ok (.iconst 0, 1) := by decide +kernel
theorem dX10_row_33 : decode cX10_row 33 = .ok (.istore_n 3, 1) := by decide +kernel
theorem dX10_row_34 : decode cX10_row 34 = .ok (.iload_n 3, 1) := by decide +kernel
theorem dX10_row_35 : decode cX10_row 35 = .ok (.bipush 40, 2) := by decide +kernel
theorem dX10_row_37 : decode cX10_row 37 = .ok (.if_icmp .ge 21, 3) := by decide +kernel
theorem dX10_row_40 : decode cX10_row 40 = .ok (.aload_n 0, 1) := by decide +kernel
theorem dX10_row_41 : decode cX10_row 41 = .ok (.getfield 20, 3) := by decide +kernel
theorem dX10_row_44 : decode cX10_row 44 = .ok (.bipush 40, 2) := by decide +kernel
theorem dX10_row_46 : decode cX10_row 46 = .ok (.iload_n 1, 1) := by decide +kernel
theorem dX10_row_47 : decode cX10_row 47 = .ok (.imul, 1) := by decide +kernel
theorem dX10_row_48 : decode cX10_row 48 = .ok (.iload_n 3, 1) := by decide +kernel
theorem dX10_row_49 : decode cX10_row 49 = .ok (.iadd, 1) := by decide +kernel
theorem dX10_row_50 : decode cX10_row 50 = .ok (.iconst 0, 1) := by decide +kernel
theorem dX10_row_51 : decode cX10_row 51 = .ok (.iastore, 1) := by decide +kernel
theorem dX10_row_52 : decode cX10_row 52 = .ok (.iinc 3 1, 3) := by decide +kernel
theorem dX10_row_55 : decode cX10_row 55 = .ok (.goto (-21), 3) := by decide +kernel
theorem dX10_row_58 : decode cX10_row 58 = .ok (.iload_n 2, 1) := by decide +kernel
theorem dX10_row_59 : decode cX10_row 59 = .ok (.ireturn, 1) := by decide +kernel
def c_X10_row_L34 (F : Nat) (a8 : Nat) (x9 : Int32) (x10 : Int32) : Nat → Int32 → z_Hp → Option (Int32 × z_Hp)
  | 0, _, _ => none
  | n + 1, x11, h12 => (if 40 ≤ x11 then (some (x10, h12)) else (if hT h12 a8 = 10 then (lt_ (hR h12 a8 8) (fun o13 => (nn o13 (fun a14 => (if okA h12 a14 20 ((40 * x9) + x11) = true then (lt_ (sI h12 a14 (ix ((40 * x9) + x11)) 0) (fun h15 => (lt_ (x11 + 1) (fun x16 => (c_X10_row_L34 F a8 x9 x10 n x16 h15))))) else none))))) else none))
def c_X10_row (F : Nat) (a0 : Nat) (x1 : Int32) (x2 : Int32) (h0 : z_Hp) : Option (Int32 × z_Hp) := (bI (c_X10_isRow F x1 h0) (fun x4 h3 => (if x4 = 0 then (some ((-1), h3)) else (if x2 ≤ 40 then (if 0 ≤ x2 then (if hT h3 a0 = 10 then (lt_ (hR h3 a0 7) (fun o5 => (nn o5 (fun a6 => (if okA h3 a6 20 x1 = true then (lt_ (sI h3 a6 (ix x1) x2) (fun h7 => (c_X10_row_L34 F a0 x1 x2 F 0 h7))) else none))))) else none) else (if hT h3 a0 = 10 then (bI (c_X10_meets F a0 5 h3) (fun x18 h17 => (some (x18, h17)))) else none)) else (some ((-1), h3))))))
set_option maxRecDepth 20000 in
set_option maxHeartbeats 4000000 in
theorem g_X10_row_L34 (F : Nat) (a8 : Nat) (x9 : Int32) (x10 : Int32) : ∀ (n : Nat) (x11 : Int32) (h12 : z_Hp), z_G zi mi_X10_row 34 [(0, vr (some a8)), (1, vi x9), (2, vi x10), (3, vi x11)] [] h12 (c_X10_row_L34 F a8 x9 x10 n x11 h12) := by
  intro n
  induction n with
  | zero => intro x11 h12; rw [c_X10_row_L34]; exact z_none
  | succ n ih =>
    intro x11 h12
    rw [c_X10_row_L34]
    refine z_iload_n (pc := 34) dX10_row_34 rfl 3 rfl (z_bipush (pc := 35) dX10_row_35 bp_40 (?_))
    refine z_icmp_ge (pc := 37) (tgt := 58) dX10_row_37 (by decide) ?_ ?_
    · refine z_iload_n (pc := 58) dX10_row_58 rfl 2 rfl (?_)
      exact z_iret (pc := 59) dX10_row_59 rfl rfl
    · refine z_aload_n (pc := 40) dX10_row_40 rfl 0 rfl (z_getRl (pc := 41) fl_RX10_20 rfl dX10_row_41 (fun o13 => (z_bipush (pc := 44) dX10_row_44 bp_40 (z_iload_n (pc := 46) dX10_row_46 rfl 1 rfl (z_imul (pc := 47) dX10_row_47 (z_iload_n (pc := 48) dX10_row_48 rfl 3 rfl (z_iadd (pc := 49) dX10_row_49 (z_iconst (pc := 50) dX10_row_50 ic_0 (?_)))))))))
      refine z_nn (fun a14 ea14 => ?_)
      subst ea14
      refine z_iastorel (pc := 51) dX10_row_51 (fun h15 => (z_iincl (pc := 52) (L' := fun x16 => [(0, vr (some a8)), (1, vi x9), (2, vi x10), (3, vi x16)]) dX10_row_52 3 rfl ic_1 (Nat.le_of_ble_eq_true rfl) (fun _ => rfl) (fun x16 => (z_goto (pc := 55) (tgt := 34) dX10_row_55 (by decide) (?_)))))
      exact ih x16 h15
set_option maxRecDepth 20000 in
set_option maxHeartbeats 4000000 in
theorem t_X10_row (F : Nat) (a0 : Nat) (x1 : Int32) (x2 : Int32) (h0 : z_Hp) : z_Ct zi mi_X10_row [vr (some a0), vi x1, vi x2] h0 (c_X10_row F a0 x1 x2 h0) := by
  refine z_entry (by decide) (Nat.le_of_ble_eq_true rfl) [(0, vr (some a0)), (1, vi x1), (2, vi x2)] rfl ?_
  unfold c_X10_row
  refine z_iload_n (pc := 0) dX10_row_0 rfl 1 rfl (z_callS_I (pc := 1) (avs := [vi x1]) (st := []) rfl (t_X10_isRow F x1 h0) ky_X10_isRow ws_X10_isRow wz_RX10_170 (rm_X10_row_X10_isRow) (Nat.le_of_ble_eq_true rfl) dX10_row_1 (fun x4 h3 => (?_)))
  refine z_if_eq (pc := 4) (tgt := 13) dX10_row_4 (by decide) ?_ ?_
  · refine z_iconst (pc := 13) dX10_row_13 ic_m1 (?_)
    exact z_iret (pc := 14) dX10_row_14 rfl rfl
  · refine z_iload_n (pc := 7) dX10_row_7 rfl 2 rfl (z_bipush (pc := 8) dX10_row_8 bp_40 (?_))
    refine z_icmp_le (pc := 10) (tgt := 15) dX10_row_10 (by decide) ?_ ?_
    · refine z_iload_n (pc := 15) dX10_row_15 rfl 2 rfl (?_)
      refine z_if_ge (pc := 16) (tgt := 25) dX10_row_16 (by decide) ?_ ?_
      · refine z_aload_n (pc := 25) dX10_row_25 rfl 0 rfl (z_getRl (pc := 26) fl_RX10_17 rfl dX10_row_26 (fun o5 => (z_iload_n (pc := 29) dX10_row_29 rfl 1 rfl (z_iload_n (pc := 30) dX10_row_30 rfl 2 rfl (?_)))))
        refine z_nn (fun a6 ea6 => ?_)
        subst ea6
        refine z_iastorel (pc := 31) dX10_row_31 (fun h7 => (z_iconst (pc := 32) dX10_row_32 ic_0 (z_istore_n (pc := 33) (L' := [(0, vr (some a0)), (1, vi x1), (2, vi x2), (3, vi 0)]) dX10_row_33 rfl (Nat.le_of_ble_eq_true rfl) rfl (?_))))
        refine g_X10_row_L34 F a0 x1 x2 F 0 h7
      · refine z_aload_n (pc := 19) dX10_row_19 rfl 0 rfl (z_iconst (pc := 20) dX10_row_20 ic_5 (z_callV_I (pc := 21) (avs := [vi 5]) (st := []) rfl (q := (RX10, TX10, 62)) rfl rfl (t_X10_meets F a0 5 h3) ky_X10_meets wm_X10_meets we_X10_meets wz_RX10_174 (rm_X10_row_X10_meets) (Nat.le_of_ble_eq_true rfl) dX10_row_21 (fun x18 h17 => (?_))))
        exact z_iret (pc := 24) dX10_row_24 rfl rfl
    · refine z_iconst (pc := 13) dX10_row_13 ic_m1 (?_)
      exact z_iret (pc := 14) dX10_row_14 rfl rfl
theorem dX10_lay_0 : decode cX10_lay 0 = .ok (.aload_n 0, 1) := by decide +kernel
theorem dX10_lay_1 : decode cX10_lay 1 = .ok (.iload_n 1, 1) := by decide +kernel
theorem dX10_lay_2 : decode cX10_lay 2 = .ok (.invokevirtual 181, 3) := by decide +kernel
theorem dX10_lay_5 : decode cX10_lay 5 = .ok (.istore 4, 2) := by decide +kernel
theorem dX10_lay_7 : decode cX10_lay 7 = .ok (.iload 4, 2) := by decide +kernel
theorem dX10_lay_9 : decode cX10_lay 9 = .ok (.ifCond .ge 6, 3) := by decide +kernel
theorem dX10_lay_12 : decode cX10_lay 12 = .ok (.iload 4, 2) := by decide +kernel
theorem dX10_lay_14 : decode cX10_lay 14 = .ok (.ireturn, 1) := by decide +kernel
theorem dX10_lay_15 : decode cX10_lay 15 = .ok (.iload_n 2, 1) := by decide +kernel
theorem dX10_lay_16 : decode cX10_lay 16 = .ok (.iconst 0, 1) := by decide +kernel
theorem dX10_lay_17 : decode cX10_lay 17 = .ok (.aload_n 0, 1) := by decide +kernel
theorem dX10_lay_18 : decode cX10_lay 18 = .ok (.getfield 17, 3) := by decide +kernel
theorem dX10_lay_21 : decode cX10_lay 21 = .ok (.iload_n 1, 1) := by decide +kernel
theorem dX10_lay_22 : decode cX10_lay 22 = .ok (.iaload, 1) := by decide +kernel
theorem dX10_lay_23 : decode cX10_lay 23 = .ok (.iconst 1, 1) := by decide +kernel
theorem dX10_lay_24 : decode cX10_lay 24 = .ok (.isub, 1) := by decide +kernel
theorem dX10_lay_25 : decode cX10_lay 25 = .ok (.invokestatic 166, 3) := by decide +kernel
theorem dX10_lay_28 : decode cX10_lay 28 = .ok (.ifCond .ne 9, 3) := by decide +kernel
theorem dX10_lay_31 : decode cX10_lay 31 = .ok (.aload_n 0, 1) := by decide +kernel
theorem dX10_lay_32 : decode cX10_lay 32 = .ok (.iconst 2, 1) := by decide +kernel
theorem dX10_lay_33 : decode cX10_lay 33 = .ok (.invokevirtual 174, 3) := by decide +kernel
theorem dX10_lay_36 : decode cX10_lay 36 = .ok (.ireturn, 1) := by decide +kernel
theorem dX10_lay_37 : decode cX10_lay 37 = .ok (.aload_n 0, 1) := by decide +kernel
theorem dX10_lay_38 : decode cX10_lay 38 = .ok (.aload_n 0, 1) := by decide +kernel
theorem dX10_lay_39 : decode cX10_lay 39 = .ok (.getfield 20, 3) := by decide +kernel
theorem dX10_lay_42 : decode cX10_lay 42 = .ok (.bipush 40, 2) := by decide +kernel
theorem dX10_lay_44 : decode cX10_lay 44 = .ok (.iload_n 1, 1) := by decide +kernel
theorem dX10_lay_45 : decode cX10_lay 45 = .ok (.imul, 1) := by decide +kernel
theorem dX10_lay_46 : decode cX10_lay 46 = .ok (.iload_n 2, 1) := by decide +kernel
theorem dX10_lay_47 : decode cX10_lay 47 = .ok (.iadd, 1) := by decide +kernel
theorem dX10_lay_48 : decode cX10_lay 48 = .ok (.iaload, 1) := by decide +kernel
theorem dX10_lay_49 : decode cX10_lay 49 = .ok (.putfield 160, 3) := by decide +kernel
theorem dX10_lay_52 : decode cX10_lay 52 = .ok (.aload_n 0, 1) := by decide +kernel
theorem dX10_lay_53 : decode cX10_lay 53 = .ok (.getfield 20, 3) := by decide +kernel
theorem dX10_lay_56 : decode cX10_lay 56 = .ok (.bipush 40, 2) := by decide +kernel
theorem dX10_lay_58 : decode cX10_lay 58 = .ok (.iload_n 1, 1) := by decide +kernel
theorem dX10_lay_59 : decode cX10_lay 59 = .ok (.imul, 1) := by decide +kernel
theorem dX10_lay_60 : decode cX10_lay 60 = .ok (.iload_n 2, 1) := by decide +kernel
theorem dX10_lay_61 : decode cX10_lay 61 = .ok (.iadd, 1) := by decide +kernel
theorem dX10_lay_62 : decode cX10_lay 62 = .ok (.iload_n 3, 1) := by decide +kernel
theorem dX10_lay_63 : decode cX10_lay 63 = .ok (.iastore, 1) := by decide +kernel
theorem dX10_lay_64 : decode cX10_lay 64 = .ok (.iconst 1, 1) := by decide +kernel
theorem dX10_lay_65 : decode cX10_lay 65 = .ok (.ireturn, 1) := by decide +kernel
def c_X10_lay (F : Nat) (a0 : Nat) (x1 : Int32) (x2 : Int32) (x3 : Int32) (h0 : z_Hp) : Option (Int32 × z_Hp) := (if hT h0 a0 = 10 then (bI (c_X10_askedRow F a0 x1 h0) (fun x5 h4 => (if 0 ≤ x5 then (if hT h4 a0 = 10 then (lt_ (hR h4 a0 7) (fun o6 => (nn o6 (fun a7 => (if okA h4 a7 20 x1 = true then (bI (c_X10_in F x2 0 ((hI h4 a7 (ix x1)) - 1) h4) (fun x9 h8 => (if x9 = 0 then (if hT h8 a0 = 10 then (bI (c_X10_meets F a0 2 h8) (fun x17 h16 => (some (x17, h16)))) else none) else (if hT h8 a0 = 10 then (lt_ (hR h8 a0 8) (fun o10 => (nn o10 (fun a11 => (if okA h8 a11 20 ((40 * x1) + x2) = true then (if hT h8 a0 = 10 then (lt_ (sI h8 a0 2 (hI h8 a11 (ix ((40 * x1) + x2)))) (fun h12 => (if hT h12 a0 = 10 then (lt_ (hR h12 a0 8) (fun o13 => (nn o13 (fun a14 => (if okA h12 a14 20 ((40 * x1) + x2) = true then (lt_ (sI h12 a14 (ix ((40 * x1) + x2)) x3) (fun h15 => (some (1, h15)))) else none))))) else none))) else none) else none))))) else none)))) else none))))) else none) else (some (x5, h4))))) else none)
set_option maxRecDepth 20000 in
set_option maxHeartbeats 4000000 in
theorem t_X10_lay (F : Nat) (a0 : Nat) (x1 : Int32) (x2 : Int32) (x3 : Int32) (h0 : z_Hp) : z_Ct zi mi_X10_lay [vr (some a0), vi x1, vi x2, vi x3] h0 (c_X10_lay F a0 x1 x2 x3 h0) := by
  refine z_entry (by decide) (Nat.le_of_ble_eq_true rfl) [(0, vr (some a0)), (1, vi x1), (2, vi x2), (3, vi x3)] rfl ?_
  unfold c_X10_lay
  refine z_aload_n (pc := 0) dX10_lay_0 rfl 0 rfl (z_iload_n (pc := 1) dX10_lay_1 rfl 1 rfl (z_callV_I (pc := 2) (avs := [vi x1]) (st := []) rfl (q := (RX10, TX10, 62)) rfl rfl (t_X10_askedRow F a0 x1 h0) ky_X10_askedRow wm_X10_askedRow we_X10_askedRow wz_RX10_181 (rm_X10_lay_X10_askedRow) (Nat.le_of_ble_eq_true rfl) dX10_lay_2 (fun x5 h4 => (?_))))
  refine z_istore (pc := 5) (L' := [(0, vr (some a0)), (1, vi x1), (2, vi x2), (3, vi x3), (4, vi x5)]) dX10_lay_5 (Nat.le_of_ble_eq_true rfl) rfl (z_iload (pc := 7) dX10_lay_7 4 rfl (?_))
  refine z_if_ge (pc := 9) (tgt := 15) dX10_lay_9 (by decide) ?_ ?_
  · refine z_iload_n (pc := 15) dX10_lay_15 rfl 2 rfl (z_iconst (pc := 16) dX10_lay_16 ic_0 (z_aload_n (pc := 17) dX10_lay_17 rfl 0 rfl (z_getRl (pc := 18) fl_RX10_17 rfl dX10_lay_18 (fun o6 => (z_iload_n (pc := 21) dX10_lay_21 rfl 1 rfl (?_))))))
    refine z_nn (fun a7 ea7 => ?_)
    subst ea7
    refine z_iaload (pc := 22) dX10_lay_22 (z_iconst (pc := 23) dX10_lay_23 ic_1 (z_isub (pc := 24) dX10_lay_24 (z_callS_I (pc := 25) (avs := [vi x2, vi 0, vi ((hI h4 a7 (ix x1)) - 1)]) (st := []) rfl (t_X10_in F x2 0 ((hI h4 a7 (ix x1)) - 1) h4) ky_X10_in ws_X10_in wz_RX10_166 (rm_X10_lay_X10_in) (Nat.le_of_ble_eq_true rfl) dX10_lay_25 (fun x9 h8 => (?_)))))
    refine z_if_ne (pc := 28) (tgt := 37) dX10_lay_28 (by decide) ?_ ?_
    · refine z_aload_n (pc := 37) dX10_lay_37 rfl 0 rfl (z_aload_n (pc := 38) dX10_lay_38 rfl 0 rfl (z_getRl (pc := 39) fl_RX10_20 rfl dX10_lay_39 (fun o10 => (z_bipush (pc := 42) dX10_lay_42 bp_40 (z_iload_n (pc := 44) dX10_lay_44 rfl 1 rfl (z_imul (pc := 45) dX10_lay_45 (z_iload_n (pc := 46) dX10_lay_46 rfl 2 rfl (z_iadd (pc := 47) dX10_lay_47 (?_)))))))))
      refine z_nn (fun a11 ea11 => ?_)
      subst ea11
      refine z_iaload (pc := 48) dX10_lay_48 (z_putIl (pc := 49) fl_RX10_160 (fin_X_10_2 _) rfl dX10_lay_49 (fun h12 => (z_aload_n (pc := 52) dX10_lay_52 rfl 0 rfl (z_getRl (pc := 53) fl_RX10_20 rfl dX10_lay_53 (fun o13 => (z_bipush (pc := 56) dX10_lay_56 bp_40 (z_iload_n (pc := 58) dX10_lay_58 rfl 1 rfl (z_imul (pc := 59) dX10_lay_59 (z_iload_n (pc := 60) dX10_lay_60 rfl 2 rfl (?_))))))))))
      refine z_iadd (pc := 61) dX10_lay_61 (z_iload_n (pc := 62) dX10_lay_62 rfl 3 rfl (?_))
      refine z_nn (fun a14 ea14 => ?_)
      subst ea14
      refine z_iastorel (pc := 63) dX10_lay_63 (fun h15 => (z_iconst (pc := 64) dX10_lay_64 ic_1 (?_)))
      exact z_iret (pc := 65) dX10_lay_65 rfl rfl
    · refine z_aload_n (pc := 31) dX10_lay_31 rfl 0 rfl (z_iconst (pc := 32) dX10_lay_32 ic_2 (z_callV_I (pc := 33) (avs := [vi 2]) (st := []) rfl (q := (RX10, TX10, 62)) rfl rfl (t_X10_meets F a0 2 h8) ky_X10_meets wm_X10_meets we_X10_meets wz_RX10_174 (rm_X10_lay_X10_meets) (Nat.le_of_ble_eq_true rfl) dX10_lay_33 (fun x17 h16 => (?_))))
      exact z_iret (pc := 36) dX10_lay_36 rfl rfl
  · refine z_iload (pc := 12) dX10_lay_12 4 rfl (?_)
    exact z_iret (pc := 14) dX10_lay_14 rfl rfl
theorem dX10_tear_0 : decode cX10_tear 0 = .ok (.aload_n 0, 1) := by decide +kernel
theorem dX10_tear_1 : decode cX10_tear 1 = .ok (.iload_n 1, 1) := by decide +kernel
theorem dX10_tear_2 : decode cX10_tear 2 = .ok (.invokevirtual 181, 3) := by decide +kernel
theorem dX10_tear_5 : decode cX10_tear 5 = .ok (.istore_n 2, 1) := by decide +kernel
theorem dX10_tear_6 : decode cX10_tear 6 = .ok (.iload_n 2, 1) := by decide +kernel
theorem dX10_tear_7 : decode cX10_tear 7 = .ok (.ifCond .ge 5, 3) := by decide +kernel
theorem dX10_tear_10 : decode cX10_tear 10 = .ok (.iload_n 2, 1) := by decide +kernel
theorem dX10_tear_11 : decode cX10_tear 11 = .ok (.ireturn, 1) := by decide +kernel
theorem dX10_tear_12 : decode cX10_tear 12 = .ok (.aload_n 0, 1) := by decide +kernel
theorem dX10_tear_13 : decode cX10_tear 13 = .ok (.getfield 17, 3) := by decide +kernel
theorem dX10_tear_16 : decode cX10_tear 16 = .ok (.iload_n 1, 1) := by decide +kernel
theorem dX10_tear_17 : decode cX10_tear 17 = .ok (.bipush (-9), 2) := by decide +kernel
theorem dX10_tear_19 : decode cX10_tear 19 = .ok (.iastore, 1) := by decide +kernel
theorem dX10_tear_20 : decode cX10_tear 20 = .ok (.iconst 1, 1) := by decide +kernel
theorem dX10_tear_21 : decode cX10_tear 21 = .ok (.ireturn, 1) := by decide +kernel
def c_X10_tear (F : Nat) (a0 : Nat) (x1 : Int32) (h0 : z_Hp) : Option (Int32 × z_Hp) := (if hT h0 a0 = 10 then (bI (c_X10_askedRow F a0 x1 h0) (fun x3 h2 => (if 0 ≤ x3 then (if hT h2 a0 = 10 then (lt_ (hR h2 a0 7) (fun o4 => (nn o4 (fun a5 => (if okA h2 a5 20 x1 = true then (lt_ (sI h2 a5 (ix x1) (-9)) (fun h6 => (some (1, h6)))) else none))))) else none) else (some (x3, h2))))) else none)
set_option maxRecDepth 20000 in
set_option maxHeartbeats 4000000 in
theorem t_X10_tear (F : Nat) (a0 : Nat) (x1 : Int32) (h0 : z_Hp) : z_Ct zi mi_X10_tear [vr (some a0), vi x1] h0 (c_X10_tear F a0 x1 h0) := by
  refine z_entry (by decide) (Nat.le_of_ble_eq_true rfl) [(0, vr (some a0)), (1, vi x1)] rfl ?_
  unfold c_X10_tear
  refine z_aload_n (pc := 0) dX10_tear_0 rfl 0 rfl (z_iload_n (pc := 1) dX10_tear_1 rfl 1 rfl (z_callV_I (pc := 2) (avs := [vi x1]) (st := []) rfl (q := (RX10, TX10, 62)) rfl rfl (t_X10_askedRow F a0 x1 h0) ky_X10_askedRow wm_X10_askedRow we_X10_askedRow wz_RX10_181 (rm_X10_tear_X10_askedRow) (Nat.le_of_ble_eq_true rfl) dX10_tear_2 (fun x3 h2 => (?_))))
  refine z_istore_n (pc := 5) (L' := [(0, vr (some a0)), (1, vi x1), (2, vi x3)]) dX10_tear_5 rfl (Nat.le_of_ble_eq_true rfl) rfl (z_iload_n (pc := 6) dX10_tear_6 rfl 2 rfl (?_))
  refine z_if_ge (pc := 7) (tgt := 12) dX10_tear_7 (by decide) ?_ ?_
  · refine z_aload_n (pc := 12) dX10_tear_12 rfl 0 rfl (z_getRl (pc := 13) fl_RX10_17 rfl dX10_tear_13 (fun o4 => (z_iload_n (pc := 16) dX10_tear_16 rfl 1 rfl (z_bipush (pc := 17) dX10_tear_17 bp_m9 (?_)))))
    refine z_nn (fun a5 ea5 => ?_)
    subst ea5
    refine z_iastorel (pc := 19) dX10_tear_19 (fun h6 => (z_iconst (pc := 20) dX10_tear_20 ic_1 (?_)))
    exact z_iret (pc := 21) dX10_tear_21 rfl rfl
  · refine z_iload_n (pc := 10) dX10_tear_10 rfl 2 rfl (?_)
    exact z_iret (pc := 11) dX10_tear_11 rfl rfl
theorem dX10_copy_0 : decode cX10_copy 0 = .ok (.iload_n 1, 1) := by decide +kernel
theorem dX10_copy_1 : decode cX10_copy 1 = .ok (.invokestatic 170, 3) := by decide +kernel
theorem dX10_copy_4 : decode cX10_copy 4 = .ok (.ifCond .eq 10, 3) := by decide +kernel
theorem dX10_copy_7 : decode cX10_copy 7 = .ok (.iload_n 3, 1) := by decide +kernel
theorem dX10_copy_8 : decode cX10_copy 8 = .ok (.invokestatic 170, 3) := by decide +kernel
theorem dX10_copy_11 : decode cX10_copy 11 = .ok (.ifCond .ne 5, 3) := by decide +kernel
theorem dX10_copy_14 : decode cX10_copy 14 = .ok (.iconst (-1), 1) := by decide +kernel
theorem dX10_copy_15 : decode cX10_copy 15 = .ok (.ireturn, 1) := by decide +kernel
theorem dX10_copy_16 : decode cX10_copy 16 = .ok (.iload 5, 2) := by decide +kernel
theorem dX10_copy_18 : decode cX10_copy 18 = .ok (.ifCond .ge 9, 3) := by decide +kernel
theorem dX10_copy_21 : decode cX10_copy 21 = .ok (.aload_n 0, 1) := by decide +kernel
theorem dX10_copy_22 : decode cX10_copy 22 = .ok (.iconst 5, 1) := by decide +kernel
theorem dX10_copy_23 : decode cX10_copy 23 = .ok (.invokevirtual 174, 3) := by decide +kernel
theorem dX10_copy_26 : decode cX10_copy 26 = .ok (.ireturn, 1) := by decide +kernel
theorem dX10_copy_27 : decode cX10_copy 27 = .ok (.aload_n 0, 1) := by decide +kernel
theorem dX10_copy_28 : decode cX10_copy 28 = .ok (.getfield 17, 3) := by decide +kernel
theorem dX10_copy_31 : decode cX10_copy 31 = .ok (.iload_n 1, 1) := by decide +kernel
theorem dX10_copy_32 : decode cX10_copy 32 = .ok (.iaload, 1) := by decide +kernel
theorem dX10_copy_33 : decode cX10_copy 33 = .ok (.ifCond .lt 12, 3) := by decide +kernel
theorem dX10_copy_36 : decode cX10_copy 36 = .ok (.aload_n 0, 1) := by decide +kernel
theorem dX10_copy_37 : decode cX10_copy 37 = .ok (.getfield 17, 3) := by decide +kernel
theorem dX10_copy_40 : decode cX10_copy 40 = .ok (.iload_n 3, 1) := by decide +kernel
theorem dX10_copy_41 : decode cX10_copy 41 = .ok (.iaload, 1) := by decide +kernel
theorem dX10_copy_42 : decode cX10_copy 42 = .ok (.ifCond .ge 9, 3) := by decide +kernel
theorem dX10_copy_45 : decode cX10_copy 45 = .ok (.aload_n 0, 1) := by decide +kernel
theorem dX10_copy_46 : decode cX10_copy 46 = .ok (.iconst 1, 1) := by decide +kernel
theorem dX10_copy_47 : decode cX10_copy 47 = .ok (.invokevirtual 174, 3) := by decide +kernel
theorem dX10_copy_50 : decode cX10_copy 50 = .ok (.ireturn, 1) := by decide +kernel
theorem dX10_copy_51 : decode cX10_copy 51 = .ok (.iload_n 2, 1) := by decide +kernel
theorem dX10_copy_52 : decode cX10_copy 52 = .ok (.ifCond .lt 43, 3) := by decide +kernel
theorem dX10_copy_55 : decode cX10_copy 55 = .ok (.iload 4, 2) := by decide +kernel
theorem dX10_copy_57 : decode cX10_copy 57 = .ok (.ifCond .lt 38, 3) := by decide +kernel
theorem dX10_copy_60 : decode cX10_copy 60 = .ok (.iload_n 2, 1) := by decide +kernel
theorem dX10_copy_61 : decode cX10_copy 61 = .ok (.i2l, 1) := by decide +kernel
theorem dX10_copy_62 : decode cX10_copy 62 = .ok (.iload 5, 2) := by decide +kernel
theorem dX10_copy_64 : decode cX10_copy 64 = .ok (.i2l, 1) := by decide +kernel
theorem dX10_copy_65 : decode cX10_copy 65 = .ok (.ladd, 1) := by decide +kernel
theorem dX10_copy_66 : decode cX10_copy 66 = .ok (.aload_n 0, 1) := by decide +kernel
theorem dX10_copy_67 : decode cX10_copy 67 = .ok (.getfield 17, 3) := by decide +kernel
theorem dX10_copy_70 : decode cX10_copy 70 = .ok (.iload_n 1, 1) := by decide +kernel
theorem dX10_copy_71 : decode cX10_copy 71 = .ok (.iaload, 1) := by decide +kernel
theorem dX10_copy_72 : decode cX10_copy 72 = .ok (.i2l, 1) := by decide +kernel
theorem dX10_copy_73 : decode cX10_copy 73 = .ok (.lcmp, 1) := by decide +kernel
theorem dX10_copy_74 : decode cX10_copy 74 = .ok (.ifCond .gt 21, 3) := by decide +kernel
theorem dX10_copy_77 : decode cX10_copy 77 = .ok (.iload 4, 2) := by decide +kernel
theorem dX10_copy_79 : decode cX10_copy 79 = .ok (.i2l, 1) := by decide +kernel
theorem dX10_copy_80 : decode cX10_copy 80 = .ok (.iload 5, 2) := by decide +kernel
theorem dX10_copy_82 : decode cX10_copy 82 = .ok (.i2l, 1) := by decide +kernel
theorem dX10_copy_83 : decode cX10_copy 83 = .ok (.ladd, 1) := by decide +kernel
theorem dX10_copy_84 : decode cX10_copy 84 = .ok (.aload_n 0, 1) := by decide +kernel
theorem dX10_copy_85 : decode cX10_copy 85 = .ok (.getfield 17, 3) := by decide +kernel
theorem dX10_copy_88 : decode cX10_copy 88 = .ok (.iload_n 3, 1) := by decide +kernel
theorem dX10_copy_89 : decode cX10_copy 89 = .ok (.iaload, 1) := by decide +kernel
theorem dX10_copy_90 : decode cX10_copy 90 = .ok (.i2l, 1) := by decide +kernel
theorem dX10_copy_91 : decode cX10_copy 91 = .ok (.lcmp, 1) := by decide +kernel
theorem dX10_copy_92 : decode cX10_copy 92 = .ok (.ifCond .le 9, 3) := by decide +kernel
theorem dX10_copy_95 : decode cX10_copy 95 = .ok (.aload_n 0, 1) := by decide +kernel
theorem dX10_copy_96 : decode cX10_copy 96 = .ok (.iconst 2, 1) := by decide +kernel
theorem dX10_copy_97 : decode cX10_copy 97 = .ok (.invokevirtual 174, 3) := by decide +kernel
theorem dX10_copy_100 : decode cX10_copy 100 = .ok (.ireturn, 1) := by decide +kernel
theorem dX10_copy_101 : decode cX10_copy 101 = .ok (.iconst 0, 1) := by decide +kernel
theorem dX10_copy_102 : decode cX10_copy 102 = .ok (.istore 6, 2) := by decide +kernel
theorem dX10_copy_104 : decode cX10_copy 104 = .ok (.iload 6, 2) := by decide +kernel
theorem dX10_copy_106 : decode cX10_copy 106 = .ok (.iload 5, 2) := by decide +kernel
theorem dX10_copy_108 : decode cX10_copy 108 = .ok (.if_icmp .ge 30, 3) := by decide +kernel
theorem dX10_copy_111 : decode cX10_copy 111 = .ok (.aload_n 0, 1) := by decide +kernel
theorem dX10_copy_112 : decode cX10_copy 112 = .ok (.getfield 23, 3) := by decide +kernel
theorem dX10_copy_115 : decode cX10_copy 115 = .ok (.iload 6, 2) := by decide +kernel
theorem dX10_copy_117 : decode cX10_copy 117 = .ok (.aload_n 0, 1) := by decide +kernel
theorem dX10_copy_118 : decode cX10_copy 118 = .ok (.getfield 20, 3) := by decide +kernel
theorem dX10_copy_121 : decode cX10_copy 121 = .ok (.bipush 40, 2) := by decide +kernel
theorem dX10_copy_123 : decode cX10_copy 123 = .ok (.iload_n 1, 1) := by decide +kernel
theorem dX10_copy_124 : decode cX10_copy 124 = .ok (.imul, 1) := by decide +kernel
theorem dX10_copy_125 : decode cX10_copy 125 = .ok (.iload_n 2, 1) := by decide +kernel
theorem dX10_copy_126 : decode cX10_copy 126 = .ok (.iadd, 1) := by decide +kernel
theorem dX10_copy_127 : decode cX10_copy 127 = .ok (.iload 6, 2) := by decide +kernel
theorem dX10_copy_129 : decode cX10_copy 129 = .ok (.iadd, 1) := by decide +kernel
theorem dX10_copy_130 : decode cX10_copy 130 = .ok (.iaload, 1) := by decide +kernel
theorem dX10_copy_131 : decode cX10_copy 131 = .ok (.iastore, 1) := by decide +kernel
theorem dX10_copy_132 : decode cX10_copy 132 = .ok (.iinc 6 1, 3) := by decide +kernel
theorem dX10_copy_135 : decode cX10_copy 135 = .ok (.goto (-31), 3) := by decide +kernel
theorem dX10_copy_138 : decode cX10_copy 138 = .ok (.iconst 0, 1) := by decide +kernel
theorem dX10_copy_139 : decode cX10_copy 139 = .ok (.istore 6, 2) := by decide +kernel
theorem dX10_copy_141 : decode cX10_copy 141 = .ok (.iload 6, 2) := by decide +kernel
theorem dX10_copy_143 : decode cX10_copy 143 = .ok (.iload 5, 2) := by decide +kernel
theorem dX10_copy_145 : decode cX10_copy 145 = .ok (.if_icmp .ge 31, 3) := by decide +kernel
theorem dX10_copy_148 : decode cX10_copy 148 = .ok (.aload_n 0, 1) := by decide +kernel
theorem dX10_copy_149 : decode cX10_copy 149 = .ok (.getfield 20, 3) := by decide +kernel
theorem dX10_copy_152 : decode cX10_copy 152 = .ok (.bipush 40, 2) := by decide +kernel
theorem dX10_copy_154 : decode cX10_copy 154 = .ok (.iload_n 3, 1) := by decide +kernel
theorem dX10_copy_155 : decode cX10_copy 155 = .ok (.imul, 1) := by decide +kernel
theorem dX10_copy_156 : decode cX10_copy 156 = .ok (.iload 4, 2) := by decide +kernel
theorem dX10_copy_158 : decode cX10_copy 158 = .ok (.iadd, 1) := by decide +kernel
theorem dX10_copy_159 : decode cX10_copy 159 = .ok (.iload 6, 2) := by decide +kernel
theorem dX10_copy_161 : decode cX10_copy 161 = .ok (.iadd, 1) := by decide +kernel
theorem dX10_copy_162 : decode cX10_copy 162 = .ok (.aload_n 0, 1) := by decide +kernel
theorem dX10_copy_163 : decode cX10_copy 163 = .ok (.getfield 23, 3) := by decide +kernel
theorem dX10_copy_166 : decode cX10_copy 166 = .ok (.iload 6, 2) := by decide +kernel
theorem dX10_copy_168 : decode cX10_copy 168 = .ok (.iaload, 1) := by decide +kernel
theorem dX10_copy_169 : decode cX10_copy 169 = .ok (.iastore, 1) := by decide +kernel
theorem dX10_copy_170 : decode cX10_copy 170 = .ok (.iinc 6 1, 3) := by decide +kernel
theorem dX10_copy_173 : decode cX10_copy 173 = .ok (.goto (-32), 3) := by decide +kernel
theorem dX10_copy_176 : decode cX10_copy 176 = .ok (.iconst 1, 1) := by decide +kernel
theorem dX10_copy_177 : decode cX10_copy 177 = .ok (.ireturn, 1) := by decide +kernel
def c_X10_copy_L104 (F : Nat) (a26 : Nat) (x27 : Int32) (x28 : Int32) (x29 : Int32) (x30 : Int32) (x31 : Int32) (k138 : z_Hp → Option (Int32 × z_Hp)) : Nat → Int32 → z_Hp → Option (Int32 × z_Hp)
  | 0, _, _ => none
  | n + 1, x32, h33 => (if x31 ≤ x32 then (k138 h33) else (if hT h33 a26 = 10 then (lt_ (hR h33 a26 9) (fun o35 => (if hT h33 a26 = 10 then (lt_ (hR h33 a26 8) (fun o36 => (nn o36 (fun a37 => (if okA h33 a37 20 (((40 * x27) + x28) + x32) = true then (nn o35 (fun a38 => (if okA h33 a38 20 x32 = true then (lt_ (sI h33 a38 (ix x32) (hI h33 a37 (ix (((40 * x27) + x28) + x32)))) (fun h39 => (lt_ (x32 + 1) (fun x40 => (c_X10_copy_L104 F a26 x27 x28 x29 x30 x31 k138 n x40 h39))))) else none))) else none))))) else none))) else none))
def c_X10_copy_L141 (F : Nat) (a42 : Nat) (x43 : Int32) (x44 : Int32) (x45 : Int32) : Nat → Int32 → z_Hp → Option (Int32 × z_Hp)
  | 0, _, _ => none
  | n + 1, x46, h47 => (if x45 ≤ x46 then (some (1, h47)) else (if hT h47 a42 = 10 then (lt_ (hR h47 a42 8) (fun o48 => (if hT h47 a42 = 10 then (lt_ (hR h47 a42 9) (fun o49 => (nn o49 (fun a50 => (if okA h47 a50 20 x46 = true then (nn o48 (fun a51 => (if okA h47 a51 20 (((40 * x43) + x44) + x46) = true then (lt_ (sI h47 a51 (ix (((40 * x43) + x44) + x46)) (hI h47 a50 (ix x46))) (fun h52 => (lt_ (x46 + 1) (fun x53 => (c_X10_copy_L141 F a42 x43 x44 x45 n x53 h52))))) else none))) else none))))) else none))) else none))
def c_X10_copy (F : Nat) (a0 : Nat) (x1 : Int32) (x2 : Int32) (x3 : Int32) (x4 : Int32) (x5 : Int32) (h0 : z_Hp) : Option (Int32 × z_Hp) := (bI (c_X10_isRow F x1 h0) (fun x7 h6 => (if x7 = 0 then (some ((-1), h6)) else (bI (c_X10_isRow F x3 h6) (fun x9 h8 => (if x9 = 0 then (some ((-1), h8)) else (if 0 ≤ x5 then (if hT h8 a0 = 10 then (lt_ (hR h8 a0 7) (fun o10 => (nn o10 (fun a11 => (if okA h8 a11 20 x1 = true then (lt_ (fun (h13 : z_Hp) => (if hT h13 a0 = 10 then (bI (c_X10_meets F a0 1 h13) (fun x15 h14 => (some (x15, h14)))) else none)) (fun (j45_12 : z_Hp → Option (Int32 × z_Hp)) => (if (hI h8 a11 (ix x1)) < 0 then (j45_12 h8) else (if hT h8 a0 = 10 then (lt_ (hR h8 a0 7) (fun o16 => (nn o16 (fun a17 => (if okA h8 a17 20 x3 = true then (if 0 ≤ (hI h8 a17 (ix x3)) then (lt_ (fun (h19 : z_Hp) => (if hT h19 a0 = 10 then (bI (c_X10_meets F a0 2 h19) (fun x21 h20 => (some (x21, h20)))) else none)) (fun (j95_18 : z_Hp → Option (Int32 × z_Hp)) => (if x2 < 0 then (j95_18 h8) else (if x4 < 0 then (j95_18 h8) else (if hT h8 a0 = 10 then (lt_ (hR h8 a0 7) (fun o22 => (nn o22 (fun a23 => (if okA h8 a23 20 x1 = true then (if 0 < (lg_cmp (((x2 : Int32).toInt64) + ((x5 : Int32).toInt64)) ((hI h8 a23 (ix x1) : Int32).toInt64)) then (j95_18 h8) else (if hT h8 a0 = 10 then (lt_ (hR h8 a0 7) (fun o24 => (nn o24 (fun a25 => (if okA h8 a25 20 x3 = true then (if (lg_cmp (((x4 : Int32).toInt64) + ((x5 : Int32).toInt64)) ((hI h8 a25 (ix x3) : Int32).toInt64)) ≤ 0 then (c_X10_copy_L104 F a0 x1 x2 x3 x4 x5 (fun h41 => (c_X10_copy_L141 F a0 x3 x4 x5 F 0 h41)) F 0 h8) else (j95_18 h8)) else none))))) else none)) else none))))) else none))))) else (j45_12 h8)) else none))))) else none)))) else none))))) else none) else (if hT h8 a0 = 10 then (bI (c_X10_meets F a0 5 h8) (fun x55 h54 => (some (x55, h54)))) else none))))))))
set_option maxRecDepth 20000 in
set_option maxHeartbeats 4000000 in
theorem g_X10_copy_L104 (F : Nat) (a26 : Nat) (x27 : Int32) (x28 : Int32) (x29 : Int32) (x30 : Int32) (x31 : Int32) (k138 : z_Hp → Option (Int32 × z_Hp)) (qk138 : ∀ (h34 : z_Hp), z_G zi mi_X10_copy 138 [(0, vr (some a26)), (3, vi x29), (4, vi x30), (5, vi x31)] [] h34 (k138 h34)) : ∀ (n : Nat) (x32 : Int32) (h33 : z_Hp), z_G zi mi_X10_copy 104 [(0, vr (some a26)), (1, vi x27), (2, vi x28), (3, vi x29), (4, vi x30), (5, vi x31), (6, vi x32)] [] h33 (c_X10_copy_L104 F a26 x27 x28 x29 x30 x31 k138 n x32 h33) := by
  intro n
  induction n with
  | zero => intro x32 h33; rw [c_X10_copy_L104]; exact z_none
  | succ n ih =>
    intro x32 h33
    rw [c_X10_copy_L104]
    refine z_iload (pc := 104) dX10_copy_104 6 rfl (z_iload (pc := 106) dX10_copy_106 5 rfl (?_))
    refine z_icmp_ge (pc := 108) (tgt := 138) dX10_copy_108 (by decide) ?_ ?_
    · exact z_sub [0, 3, 4, 5] rfl (qk138 h33)
    · refine z_aload_n (pc := 111) dX10_copy_111 rfl 0 rfl (z_getRl (pc := 112) fl_RX10_23 rfl dX10_copy_112 (fun o35 => (z_iload (pc := 115) dX10_copy_115 6 rfl (z_aload_n (pc := 117) dX10_copy_117 rfl 0 rfl (z_getRl (pc := 118) fl_RX10_20 rfl dX10_copy_118 (fun o36 => (z_bipush (pc := 121) dX10_copy_121 bp_40 (z_iload_n (pc := 123) dX10_copy_123 rfl 1 rfl (z_imul (pc := 124) dX10_copy_124 (?_))))))))))
      refine z_iload_n (pc := 125) dX10_copy_125 rfl 2 rfl (z_iadd (pc := 126) dX10_copy_126 (z_iload (pc := 127) dX10_copy_127 6 rfl (z_iadd (pc := 129) dX10_copy_129 (?_))))
      refine z_nn (fun a37 ea37 => ?_)
      subst ea37
      refine z_iaload (pc := 130) dX10_copy_130 (?_)
      refine z_nn (fun a38 ea38 => ?_)
      subst ea38
      refine z_iastorel (pc := 131) dX10_copy_131 (fun h39 => (z_iincl (pc := 132) (L' := fun x40 => [(0, vr (some a26)), (1, vi x27), (2, vi x28), (3, vi x29), (4, vi x30), (5, vi x31), (6, vi x40)]) dX10_copy_132 6 rfl ic_1 (Nat.le_of_ble_eq_true rfl) (fun _ => rfl) (fun x40 => (z_goto (pc := 135) (tgt := 104) dX10_copy_135 (by decide) (?_)))))
      exact ih x40 h39
set_option maxRecDepth 20000 in
set_option maxHeartbeats 4000000 in
theorem g_X10_copy_L141 (F : Nat) (a42 : Nat) (x43 : Int32) (x44 : Int32) (x45 : Int32) : ∀ (n : Nat) (x46 : Int32) (h47 : z_Hp), z_G zi mi_X10_copy 141 [(0, vr (some a42)), (3, vi x43), (4, vi x44), (5, vi x45), (6, vi x46)] [] h47 (c_X10_copy_L141 F a42 x43 x44 x45 n x46 h47) := by
  intro n
  induction n with
  | zero => intro x46 h47; rw [c_X10_copy_L141]; exact z_none
  | succ n ih =>
    intro x46 h47
    rw [c_X10_copy_L141]
    refine z_iload (pc := 141) dX10_copy_141 4 rfl (z_iload (pc := 143) dX10_copy_143 3 rfl (?_))
    refine z_icmp_ge (pc := 145) (tgt := 176) dX10_copy_145 (by decide) ?_ ?_
    · refine z_iconst (pc := 176) dX10_copy_176 ic_1 (?_)
      exact z_iret (pc := 177) dX10_copy_177 rfl rfl
    · refine z_aload_n (pc := 148) dX10_copy_148 rfl 0 rfl (z_getRl (pc := 149) fl_RX10_20 rfl dX10_copy_149 (fun o48 => (z_bipush (pc := 152) dX10_copy_152 bp_40 (z_iload_n (pc := 154) dX10_copy_154 rfl 1 rfl (z_imul (pc := 155) dX10_copy_155 (z_iload (pc := 156) dX10_copy_156 2 rfl (z_iadd (pc := 158) dX10_copy_158 (z_iload (pc := 159) dX10_copy_159 4 rfl (?_)))))))))
      refine z_iadd (pc := 161) dX10_copy_161 (z_aload_n (pc := 162) dX10_copy_162 rfl 0 rfl (z_getRl (pc := 163) fl_RX10_23 rfl dX10_copy_163 (fun o49 => (z_iload (pc := 166) dX10_copy_166 4 rfl (?_)))))
      refine z_nn (fun a50 ea50 => ?_)
      subst ea50
      refine z_iaload (pc := 168) dX10_copy_168 (?_)
      refine z_nn (fun a51 ea51 => ?_)
      subst ea51
      refine z_iastorel (pc := 169) dX10_copy_169 (fun h52 => (z_iincl (pc := 170) (L' := fun x53 => [(0, vr (some a42)), (3, vi x43), (4, vi x44), (5, vi x45), (6, vi x53)]) dX10_copy_170 4 rfl ic_1 (Nat.le_of_ble_eq_true rfl) (fun _ => rfl) (fun x53 => (z_goto (pc := 173) (tgt := 141) dX10_copy_173 (by decide) (?_)))))
      exact ih x53 h52
set_option maxRecDepth 20000 in
set_option maxHeartbeats 4000000 in
theorem t_X10_copy (F : Nat) (a0 : Nat) (x1 : Int32) (x2 : Int32) (x3 : Int32) (x4 : Int32) (x5 : Int32) (h0 : z_Hp) : z_Ct zi mi_X10_copy [vr (some a0), vi x1, vi x2, vi x3, vi x4, vi x5] h0 (c_X10_copy F a0 x1 x2 x3 x4 x5 h0) := by
  refine z_entry (by decide) (Nat.le_of_ble_eq_true rfl) [(0, vr (some a0)), (1, vi x1), (2, vi x2), (3, vi x3), (4, vi x4), (5, vi x5)] rfl ?_
  unfold c_X10_copy
  refine z_iload_n (pc := 0) dX10_copy_0 rfl 1 rfl (z_callS_I (pc := 1) (avs := [vi x1]) (st := []) rfl (t_X10_isRow F x1 h0) ky_X10_isRow ws_X10_isRow wz_RX10_170 (rm_X10_copy_X10_isRow) (Nat.le_of_ble_eq_true rfl) dX10_copy_1 (fun x7 h6 => (?_)))
  refine z_if_eq (pc := 4) (tgt := 14) dX10_copy_4 (by decide) ?_ ?_
  · refine z_iconst (pc := 14) dX10_copy_14 ic_m1 (?_)
    exact z_iret (pc := 15) dX10_copy_15 rfl rfl
  · refine z_iload_n (pc := 7) dX10_copy_7 rfl 3 rfl (z_callS_I (pc := 8) (avs := [vi x3]) (st := []) rfl (t_X10_isRow F x3 h6) ky_X10_isRow ws_X10_isRow wz_RX10_170 (rm_X10_copy_X10_isRow) (Nat.le_of_ble_eq_true rfl) dX10_copy_8 (fun x9 h8 => (?_)))
    refine z_if_ne (pc := 11) (tgt := 16) dX10_copy_11 (by decide) ?_ ?_
    · refine z_iload (pc := 16) dX10_copy_16 5 rfl (?_)
      refine z_if_ge (pc := 18) (tgt := 27) dX10_copy_18 (by decide) ?_ ?_
      · refine z_aload_n (pc := 27) dX10_copy_27 rfl 0 rfl (z_getRl (pc := 28) fl_RX10_17 rfl dX10_copy_28 (fun o10 => (z_iload_n (pc := 31) dX10_copy_31 rfl 1 rfl (?_))))
        refine z_nn (fun a11 ea11 => ?_)
        subst ea11
        refine z_iaload (pc := 32) dX10_copy_32 (?_)
        refine z_jn (P := fun (j : z_Hp → Option (Int32 × z_Hp)) => ∀ (h13 : z_Hp), z_G zi mi_X10_copy 45 [(0, vr (some a0))] [] h13 (j h13)) (fun h13 => ?_) (fun j45_12 qj45_12 => ?_)
        · refine z_aload_n (pc := 45) dX10_copy_45 rfl 0 rfl (z_iconst (pc := 46) dX10_copy_46 ic_1 (z_callV_I (pc := 47) (avs := [vi 1]) (st := []) rfl (q := (RX10, TX10, 62)) rfl rfl (t_X10_meets F a0 1 h13) ky_X10_meets wm_X10_meets we_X10_meets wz_RX10_174 (rm_X10_copy_X10_meets) (Nat.le_of_ble_eq_true rfl) dX10_copy_47 (fun x15 h14 => (?_))))
          exact z_iret (pc := 50) dX10_copy_50 rfl rfl
        refine z_if_lt (pc := 33) (tgt := 45) dX10_copy_33 (by decide) ?_ ?_
        · exact z_sub [0] rfl (qj45_12 h8)
        · refine z_aload_n (pc := 36) dX10_copy_36 rfl 0 rfl (z_getRl (pc := 37) fl_RX10_17 rfl dX10_copy_37 (fun o16 => (z_iload_n (pc := 40) dX10_copy_40 rfl 3 rfl (?_))))
          refine z_nn (fun a17 ea17 => ?_)
          subst ea17
          refine z_iaload (pc := 41) dX10_copy_41 (?_)
          refine z_if_ge (pc := 42) (tgt := 51) dX10_copy_42 (by decide) ?_ ?_
          · refine z_iload_n (pc := 51) dX10_copy_51 rfl 2 rfl (?_)
            refine z_jn (P := fun (j : z_Hp → Option (Int32 × z_Hp)) => ∀ (h19 : z_Hp), z_G zi mi_X10_copy 95 [(0, vr (some a0))] [] h19 (j h19)) (fun h19 => ?_) (fun j95_18 qj95_18 => ?_)
            · refine z_aload_n (pc := 95) dX10_copy_95 rfl 0 rfl (z_iconst (pc := 96) dX10_copy_96 ic_2 (z_callV_I (pc := 97) (avs := [vi 2]) (st := []) rfl (q := (RX10, TX10, 62)) rfl rfl (t_X10_meets F a0 2 h19) ky_X10_meets wm_X10_meets we_X10_meets wz_RX10_174 (rm_X10_copy_X10_meets) (Nat.le_of_ble_eq_true rfl) dX10_copy_97 (fun x21 h20 => (?_))))
              exact z_iret (pc := 100) dX10_copy_100 rfl rfl
            refine z_if_lt (pc := 52) (tgt := 95) dX10_copy_52 (by decide) ?_ ?_
            · exact z_sub [0] rfl (qj95_18 h8)
            · refine z_iload (pc := 55) dX10_copy_55 4 rfl (?_)
              refine z_if_lt (pc := 57) (tgt := 95) dX10_copy_57 (by decide) ?_ ?_
              · exact z_sub [0] rfl (qj95_18 h8)
              · refine z_iload_n (pc := 60) dX10_copy_60 rfl 2 rfl (z_i2l (pc := 61) dX10_copy_61 (z_iload (pc := 62) dX10_copy_62 5 rfl (z_i2l (pc := 64) dX10_copy_64 (z_ladd (pc := 65) dX10_copy_65 (z_aload_n (pc := 66) dX10_copy_66 rfl 0 rfl (z_getRl (pc := 67) fl_RX10_17 rfl dX10_copy_67 (fun o22 => (z_iload_n (pc := 70) dX10_copy_70 rfl 1 rfl (?_)))))))))
                refine z_nn (fun a23 ea23 => ?_)
                subst ea23
                refine z_iaload (pc := 71) dX10_copy_71 (z_i2l (pc := 72) dX10_copy_72 (z_lcmp (pc := 73) dX10_copy_73 (?_)))
                refine z_if_gt (pc := 74) (tgt := 95) dX10_copy_74 (by decide) ?_ ?_
                · exact z_sub [0] rfl (qj95_18 h8)
                · refine z_iload (pc := 77) dX10_copy_77 4 rfl (z_i2l (pc := 79) dX10_copy_79 (z_iload (pc := 80) dX10_copy_80 5 rfl (z_i2l (pc := 82) dX10_copy_82 (z_ladd (pc := 83) dX10_copy_83 (z_aload_n (pc := 84) dX10_copy_84 rfl 0 rfl (z_getRl (pc := 85) fl_RX10_17 rfl dX10_copy_85 (fun o24 => (z_iload_n (pc := 88) dX10_copy_88 rfl 3 rfl (?_)))))))))
                  refine z_nn (fun a25 ea25 => ?_)
                  subst ea25
                  refine z_iaload (pc := 89) dX10_copy_89 (z_i2l (pc := 90) dX10_copy_90 (z_lcmp (pc := 91) dX10_copy_91 (?_)))
                  refine z_if_le (pc := 92) (tgt := 101) dX10_copy_92 (by decide) ?_ ?_
                  · refine z_iconst (pc := 101) dX10_copy_101 ic_0 (z_istore (pc := 102) (L' := [(0, vr (some a0)), (1, vi x1), (2, vi x2), (3, vi x3), (4, vi x4), (5, vi x5), (6, vi 0)]) dX10_copy_102 (Nat.le_of_ble_eq_true rfl) rfl (?_))
                    refine g_X10_copy_L104 F a0 x1 x2 x3 x4 x5 _ (fun h41 => ?_) F 0 h8
                    refine z_iconst (pc := 138) dX10_copy_138 ic_0 (z_istore (pc := 139) (L' := [(0, vr (some a0)), (3, vi x3), (4, vi x4), (5, vi x5), (6, vi 0)]) dX10_copy_139 (Nat.le_of_ble_eq_true rfl) rfl (?_))
                    refine g_X10_copy_L141 F a0 x3 x4 x5 F 0 h41
                  · exact z_sub [0] rfl (qj95_18 h8)
          · exact z_sub [0] rfl (qj45_12 h8)
      · refine z_aload_n (pc := 21) dX10_copy_21 rfl 0 rfl (z_iconst (pc := 22) dX10_copy_22 ic_5 (z_callV_I (pc := 23) (avs := [vi 5]) (st := []) rfl (q := (RX10, TX10, 62)) rfl rfl (t_X10_meets F a0 5 h8) ky_X10_meets wm_X10_meets we_X10_meets wz_RX10_174 (rm_X10_copy_X10_meets) (Nat.le_of_ble_eq_true rfl) dX10_copy_23 (fun x55 h54 => (?_))))
        exact z_iret (pc := 26) dX10_copy_26 rfl rfl
    · refine z_iconst (pc := 14) dX10_copy_14 ic_m1 (?_)
      exact z_iret (pc := 15) dX10_copy_15 rfl rfl
theorem dX10_mean_0 : decode cX10_mean 0 = .ok (.aload_n 0, 1) := by decide +kernel
theorem dX10_mean_1 : decode cX10_mean 1 = .ok (.iload_n 1, 1) := by decide +kernel
theorem dX10_mean_2 : decode cX10_mean 2 = .ok (.invokevirtual 181, 3) := by decide +kernel
theorem dX10_mean_5 : decode cX10_mean 5 = .ok (.istore_n 2, 1) := by decide +kernel
theorem dX10_mean_6 : decode cX10_mean 6 = .ok (.iload_n 2, 1) := by decide +kernel
theorem dX10_mean_7 : decode cX10_mean 7 = .ok (.ifCond .ge 5, 3) := by decide +kernel
theorem dX10_mean_10 : decode cX10_mean 10 = .ok (.iload_n 2, 1) := by decide +kernel
theorem dX10_mean_11 : decode cX10_mean 11 = .ok (.ireturn, 1) := by decide +kernel
theorem dX10_mean_12 : decode cX10_mean 12 = .ok (.lconst 0, 1) := by decide +kernel
theorem dX10_mean_13 : decode cX10_mean 13 = .ok (.lstore_n 3, 1) := by decide +kernel
theorem dX10_mean_14 : decode cX10_mean 14 = .ok (.iconst 0, 1) := by decide +kernel
theorem dX10_mean_15 : decode cX10_mean 15 = .ok (.istore 5, 2) := by decide +kernel
theorem dX10_mean_17 : decode cX10_mean 17 = .ok (.iload 5, 2) := by decide +kernel
theorem dX10_mean_19 : decode cX10_mean 19 = .ok (.aload_n 0, 1) := by decide +kernel
theorem dX10_mean_20 : decode cX10_mean 20 = .ok (.getfield 17, 3) := by decide +kernel
theorem dX10_mean_23 : decode cX10_mean 23 = .ok (.iload_n 1, 1) := by decide +kernel
theorem dX10_mean_24 : decode cX10_mean 24 = .ok (.iaload, 1) := by decide +kernel
theorem dX10_mean_25 : decode cX10_mean 25 = .ok (.if_icmp .ge 25, 3) := by decide +kernel
theorem dX10_mean_28 : decode cX10_mean 28 = .ok (.lload_n 3, 1) := by decide +kernel
theorem dX10_mean_29 : decode cX10_mean 29 = .ok (.aload_n 0, 1) := by decide +kernel
theorem dX10_mean_30 : decode cX10_mean 30 = .ok (.getfield 20, 3) := by decide +kernel
theorem dX10_mean_33 : decode cX10_mean 33 = .ok (.bipush 40, 2) := by decide +kernel
theorem dX10_mean_35 : decode cX10_mean 35 = .ok (.iload_n 1, 1) := by decide +kernel
theorem dX10_mean_36 : decode cX10_mean 36 = .ok (.imul, 1) := by decide +kernel
theorem dX10_mean_37 : decode cX10_mean 37 = .ok (.iload 5, 2) := by decide +kernel
theorem dX10_mean_39 : decode cX10_mean 39 = .ok (.iadd, 1) := by decide +kernel
theorem dX10_mean_40 : decode cX10_mean 40 = .ok (.iaload, 1) := by decide +kernel
theorem dX10_mean_41 : decode cX10_mean 41 = .ok (.i2l, 1) := by decide +kernel
theorem dX10_mean_42 : decode cX10_mean 42 = .ok (.ladd, 1) := by decide +kernel
theorem dX10_mean_43 : decode cX10_mean 43 = .ok (.lstore_n 3, 1) := by decide +kernel
theorem dX10_mean_44 : decode cX10_mean 44 = .ok (.iinc 5 1, 3) := by decide +kernel
theorem dX10_mean_47 : decode cX10_mean 47 = .ok (.goto (-30), 3) := by decide +kernel
theorem dX10_mean_50 : decode cX10_mean 50 = .ok (.aload_n 0, 1) := by decide +kernel
theorem dX10_mean_51 : decode cX10_mean 51 = .ok (.getfield 17, 3) := by decide +kernel
theorem dX10_mean_54 : decode cX10_mean 54 = .ok (.iload_n 1, 1) := by decide +kernel
theorem dX10_mean_55 : decode cX10_mean 55 = .ok (.iaload, 1) := by decide +kernel
theorem dX10_mean_56 : decode cX10_mean 56 = .ok (.ifCond .ne 11, 3) := by decide +kernel
theorem dX10_mean_59 : decode cX10_mean 59 = .ok (.aload_n 0, 1) := by decide +kernel
theorem dX10_mean_60 : decode cX10_mean 60 = .ok (.iconst 4, 1) := by decide +kernel
theorem dX10_mean_61 : decode cX10_mean 61 = .ok (.invokevirtual 174, 3) := by decide +kernel
theorem dX10_mean_64 : decode cX10_mean 64 = .ok (.goto 18, 3) := by decide +kernel
theorem dX10_mean_67 : decode cX10_mean 67 = .ok (.aload_n 0, 1) := by decide +kernel
theorem dX10_mean_68 : decode cX10_mean 68 = .ok (.lload_n 3, 1) := by decide +kernel
theorem dX10_mean_69 : decode cX10_mean 69 = .ok (.aload_n 0, 1) := by decide +kernel
theorem dX10_mean_70 : decode cX10_mean 70 = .ok (.getfield 17, 3) := by decide +kernel
theorem dX10_mean_73 : decode cX10_mean 73 = .ok (.iload_n 1, 1) := by decide +kernel
theorem dX10_mean_74 : decode cX10_mean 74 = .ok (.iaload, 1) := by decide +kernel
theorem dX10_mean_75 : decode cX10_mean 75 = .ok (.i2l, 1) := by decide +kernel
theorem dX10_mean_76 : decode cX10_mean 76 = .ok (.ldiv, 1) := by decide +kernel
theorem dX10_mean_77 : decode cX10_mean 77 = .ok (.l2i, 1) := by decide +kernel
theorem dX10_mean_78 : decode cX10_mean 78 = .ok (.iconst 1, 1) := by decide +kernel
theorem dX10_mean_79 : decode cX10_mean 79 = .ok (.invokevirtual 184, 3) := by decide +kernel
theorem dX10_mean_82 : decode cX10_mean 82 = .ok (.ireturn, 1) := by decide +kernel
def c_X10_mean_L17 (F : Nat) (a4 : Nat) (x5 : Int32) (k50 : Int64 → z_Hp → Option (Int32 × z_Hp)) : Nat → Int64 → Int32 → z_Hp → Option (Int32 × z_Hp)
  | 0, _, _, _ => none
  | n + 1, y6, x7, h8 => (if hT h8 a4 = 10 then (lt_ (hR h8 a4 7) (fun o11 => (nn o11 (fun a12 => (if okA h8 a12 20 x5 = true then (if (hI h8 a12 (ix x5)) ≤ x7 then (k50 y6 h8) else (if hT h8 a4 = 10 then (lt_ (hR h8 a4 8) (fun o13 => (nn o13 (fun a14 => (if okA h8 a14 20 ((40 * x5) + x7) = true then (lt_ (y6 + ((hI h8 a14 (ix ((40 * x5) + x7)) : Int32).toInt64)) (fun y15 => (lt_ (x7 + 1) (fun x16 => (c_X10_mean_L17 F a4 x5 k50 n y15 x16 h8))))) else none))))) else none)) else none))))) else none)
def c_X10_mean (F : Nat) (a0 : Nat) (x1 : Int32) (h0 : z_Hp) : Option (Int32 × z_Hp) := (if hT h0 a0 = 10 then (bI (c_X10_askedRow F a0 x1 h0) (fun x3 h2 => (if 0 ≤ x3 then (c_X10_mean_L17 F a0 x1 (fun y17 h18 => (if hT h18 a0 = 10 then (lt_ (hR h18 a0 7) (fun o19 => (nn o19 (fun a20 => (if okA h18 a20 20 x1 = true then (if (hI h18 a20 (ix x1)) = 0 then (if hT h18 a0 = 10 then (bI (c_X10_meets F a0 4 h18) (fun x26 h25 => (some (x26, h25)))) else none) else (if hT h18 a0 = 10 then (lt_ (hR h18 a0 7) (fun o21 => (nn o21 (fun a22 => (if okA h18 a22 20 x1 = true then (if ((hI h18 a22 (ix x1) : Int32).toInt64) = 0 then none else (if hT h18 a0 = 10 then (bI (c_X10_ask F a0 ((y17 / ((hI h18 a22 (ix x1) : Int32).toInt64) : Int64).toInt32) 1 h18) (fun x24 h23 => (some (x24, h23)))) else none)) else none))))) else none)) else none))))) else none)) F 0 0 h2) else (some (x3, h2))))) else none)
set_option maxRecDepth 20000 in
set_option maxHeartbeats 4000000 in
theorem g_X10_mean_L17 (F : Nat) (a4 : Nat) (x5 : Int32) (k50 : Int64 → z_Hp → Option (Int32 × z_Hp)) (qk50 : ∀ (y9 : Int64) (h10 : z_Hp), z_G zi mi_X10_mean 50 [(0, vr (some a4)), (1, vi x5), (3, vl y9)] [] h10 (k50 y9 h10)) : ∀ (n : Nat) (y6 : Int64) (x7 : Int32) (h8 : z_Hp), z_G zi mi_X10_mean 17 [(0, vr (some a4)), (1, vi x5), (3, vl y6), (5, vi x7)] [] h8 (c_X10_mean_L17 F a4 x5 k50 n y6 x7 h8) := by
  intro n
  induction n with
  | zero => intro y6 x7 h8; rw [c_X10_mean_L17]; exact z_none
  | succ n ih =>
    intro y6 x7 h8
    rw [c_X10_mean_L17]
    refine z_iload (pc := 17) dX10_mean_17 3 rfl (z_aload_n (pc := 19) dX10_mean_19 rfl 0 rfl (z_getRl (pc := 20) fl_RX10_17 rfl dX10_mean_20 (fun o11 => (z_iload_n (pc := 23) dX10_mean_23 rfl 1 rfl (?_)))))
    refine z_nn (fun a12 ea12 => ?_)
    subst ea12
    refine z_iaload (pc := 24) dX10_mean_24 (?_)
    refine z_icmp_ge (pc := 25) (tgt := 50) dX10_mean_25 (by decide) ?_ ?_
    · exact z_sub [0, 1, 2] rfl (qk50 y6 h8)
    · refine z_lload_n (pc := 28) dX10_mean_28 rfl 2 rfl (z_aload_n (pc := 29) dX10_mean_29 rfl 0 rfl (z_getRl (pc := 30) fl_RX10_20 rfl dX10_mean_30 (fun o13 => (z_bipush (pc := 33) dX10_mean_33 bp_40 (z_iload_n (pc := 35) dX10_mean_35 rfl 1 rfl (z_imul (pc := 36) dX10_mean_36 (z_iload (pc := 37) dX10_mean_37 3 rfl (z_iadd (pc := 39) dX10_mean_39 (?_)))))))))
      refine z_nn (fun a14 ea14 => ?_)
      subst ea14
      refine z_iaload (pc := 40) dX10_mean_40 (z_i2l (pc := 41) dX10_mean_41 (z_ladd (pc := 42) dX10_mean_42 (z_lstorel_n (pc := 43) (L' := fun y15 => [(0, vr (some a4)), (1, vi x5), (3, vl y15), (5, vi x7)]) dX10_mean_43 rfl (Nat.le_of_ble_eq_true rfl) (fun _ => rfl) (fun y15 => (z_iincl (pc := 44) (L' := fun x16 => [(0, vr (some a4)), (1, vi x5), (3, vl y15), (5, vi x16)]) dX10_mean_44 3 rfl ic_1 (Nat.le_of_ble_eq_true rfl) (fun _ => rfl) (fun x16 => (z_goto (pc := 47) (tgt := 17) dX10_mean_47 (by decide) (?_))))))))
      exact ih y15 x16 h8
set_option maxRecDepth 20000 in
set_option maxHeartbeats 4000000 in
theorem t_X10_mean (F : Nat) (a0 : Nat) (x1 : Int32) (h0 : z_Hp) : z_Ct zi mi_X10_mean [vr (some a0), vi x1] h0 (c_X10_mean F a0 x1 h0) := by
  refine z_entry (by decide) (Nat.le_of_ble_eq_true rfl) [(0, vr (some a0)), (1, vi x1)] rfl ?_
  unfold c_X10_mean
  refine z_aload_n (pc := 0) dX10_mean_0 rfl 0 rfl (z_iload_n (pc := 1) dX10_mean_1 rfl 1 rfl (z_callV_I (pc := 2) (avs := [vi x1]) (st := []) rfl (q := (RX10, TX10, 62)) rfl rfl (t_X10_askedRow F a0 x1 h0) ky_X10_askedRow wm_X10_askedRow we_X10_askedRow wz_RX10_181 (rm_X10_mean_X10_askedRow) (Nat.le_of_ble_eq_true rfl) dX10_mean_2 (fun x3 h2 => (?_))))
  refine z_istore_n (pc := 5) (L' := [(0, vr (some a0)), (1, vi x1), (2, vi x3)]) dX10_mean_5 rfl (Nat.le_of_ble_eq_true rfl) rfl (z_iload_n (pc := 6) dX10_mean_6 rfl 2 rfl (?_))
  refine z_if_ge (pc := 7) (tgt := 12) dX10_mean_7 (by decide) ?_ ?_
  · refine z_lconst (pc := 12) dX10_mean_12 lc_0 (z_lstore_n (pc := 13) (L' := [(0, vr (some a0)), (1, vi x1), (2, vi x3), (3, vl 0)]) dX10_mean_13 rfl (Nat.le_of_ble_eq_true rfl) rfl (z_iconst (pc := 14) dX10_mean_14 ic_0 (z_istore (pc := 15) (L' := [(0, vr (some a0)), (1, vi x1), (2, vi x3), (3, vl 0), (5, vi 0)]) dX10_mean_15 (Nat.le_of_ble_eq_true rfl) rfl (?_))))
    refine z_sub [0, 1, 3, 4] rfl (g_X10_mean_L17 F a0 x1 _ (fun y17 h18 => ?_) F 0 0 h2)
    refine z_aload_n (pc := 50) dX10_mean_50 rfl 0 rfl (z_getRl (pc := 51) fl_RX10_17 rfl dX10_mean_51 (fun o19 => (z_iload_n (pc := 54) dX10_mean_54 rfl 1 rfl (?_))))
    refine z_nn (fun a20 ea20 => ?_)
    subst ea20
    refine z_iaload (pc := 55) dX10_mean_55 (?_)
    refine z_if_ne (pc := 56) (tgt := 67) dX10_mean_56 (by decide) ?_ ?_
    · refine z_aload_n (pc := 67) dX10_mean_67 rfl 0 rfl (z_lload_n (pc := 68) dX10_mean_68 rfl 2 rfl (z_aload_n (pc := 69) dX10_mean_69 rfl 0 rfl (z_getRl (pc := 70) fl_RX10_17 rfl dX10_mean_70 (fun o21 => (z_iload_n (pc := 73) dX10_mean_73 rfl 1 rfl (?_))))))
      refine z_nn (fun a22 ea22 => ?_)
      subst ea22
      refine z_iaload (pc := 74) dX10_mean_74 (z_i2l (pc := 75) dX10_mean_75 (z_ldiv (pc := 76) dX10_mean_76 (z_l2i (pc := 77) dX10_mean_77 (z_iconst (pc := 78) dX10_mean_78 ic_1 (z_callV_I (pc := 79) (avs := [vi ((y17 / ((hI h18 a22 (ix x1) : Int32).toInt64) : Int64).toInt32), vi 1]) (st := []) rfl (q := (RX10, TX10, 62)) rfl rfl (t_X10_ask F a0 ((y17 / ((hI h18 a22 (ix x1) : Int32).toInt64) : Int64).toInt32) 1 h18) ky_X10_ask wm_X10_ask we_X10_ask wz_RX10_184 (rm_X10_mean_X10_ask) (Nat.le_of_ble_eq_true rfl) dX10_mean_79 (fun x24 h23 => (?_)))))))
      exact z_iret (pc := 82) dX10_mean_82 rfl rfl
    · refine z_aload_n (pc := 59) dX10_mean_59 rfl 0 rfl (z_iconst (pc := 60) dX10_mean_60 ic_4 (z_callV_I (pc := 61) (avs := [vi 4]) (st := []) rfl (q := (RX10, TX10, 62)) rfl rfl (t_X10_meets F a0 4 h18) ky_X10_meets wm_X10_meets we_X10_meets wz_RX10_174 (rm_X10_mean_X10_meets) (Nat.le_of_ble_eq_true rfl) dX10_mean_61 (fun x26 h25 => (?_))))
      refine z_goto (pc := 64) (tgt := 82) dX10_mean_64 (by decide) (?_)
      exact z_iret (pc := 82) dX10_mean_82 rfl rfl
  · refine z_iload_n (pc := 10) dX10_mean_10 rfl 2 rfl (?_)
    exact z_iret (pc := 11) dX10_mean_11 rfl rfl
theorem dX10_text_0 : decode cX10_text 0 = .ok (.iload_n 1, 1) := by decide +kernel
theorem dX10_text_1 : decode cX10_text 1 = .ok (.invokestatic 178, 3) := by decide +kernel
theorem dX10_text_4 : decode cX10_text 4 = .ok (.ifCond .eq 9, 3) := by decide +kernel
theorem dX10_text_7 : decode cX10_text 7 = .ok (.iload_n 2, 1) := by decide +kernel
theorem dX10_text_8 : decode cX10_text 8 = .ok (.bipush 60, 2) := by decide +kernel
theorem dX10_text_10 : decode cX10_text 10 = .ok (.if_icmp .le 5, 3) := by decide +kernel
theorem dX10_text_13 : decode cX10_text 13 = .ok (.iconst (-1), 1) := by decide +kernel
theorem dX10_text_14 : decode cX10_text 14 = .ok (.ireturn, 1) := by decide +kernel
theorem dX10_text_15 : decode cX10_text 15 = .ok (.iload_n 2, 1) := by decide +kernel
theorem dX10_text_16 : decode cX10_text 16 = .ok (.ifCond .ge 9, 3) := by decide +kernel
theorem dX10_text_19 : decode cX10_text 19 = .ok (.aload_n 0, 1) := by decide +kernel
theorem dX10_text_20 : decode cX10_text 20 = .ok (.iconst 5, 1) := by decide +kernel
theorem dX10_text_21 : decode cX10_text 21 = .ok (.invokevirtual 174, 3) := by decide +kernel
theorem dX10_text_24 : decode cX10_text 24 = .ok (.ireturn, 1) := by decide +kernel
theorem dX10_text_25 : decode cX10_text 25 = .ok (.aload_n 0, 1) := by decide +kernel
theorem dX10_text_26 : decode cX10_text 26 = .ok (.getfield 26, 3) := by decide +kernel
theorem dX10_text_29 : decode cX10_text 29 = .ok (.iload_n 1, 1) := by decide +kernel
theorem dX10_text_30 : decode cX10_text 30 = .ok (.iload_n 2, 1) := by decide +kernel
theorem dX10_text_31 : decode cX10_text 31 = .ok (.iastore, 1) := by decide +kernel
theorem dX10_text_32 : decode cX10_text 32 = .ok (.iconst 0, 1) := by decide +kernel
theorem dX10_text_33 : decode cX10_text 33 = .ok (.istore_n 3, 1) := by decide +kernel
theorem dX10_text_34 : decode cX10_text 34 = .ok (.iload_n 3, 1) := by decide +kernel
theorem dX10_text_35 : decode cX10_text 35 = .ok (.bipush 60, 2) := by decide +kernel
theorem dX10_text_37 : decode cX10_text 37 = .ok (.if_icmp .ge 22, 3) := by decide +kernel
theorem dX10_text_40 : decode cX10_text 40 = .ok (.aload_n 0, 1) := by decide +kernel
theorem dX10_text_41 : decode cX10_text 41 = .ok (.getfield 29, 3) := by decide +kernel
theorem dX10_text_44 : decode cX10_text 44 = .ok (.bipush 60, 2) := by decide +kernel
theorem dX10_text_46 : decode cX10_text 46 = .ok (.iload_n 1, 1) := by decide +kernel
theorem dX10_text_47 : decode cX10_text 47 = .ok (.imul, 1) := by decide +kernel
theorem dX10_text_48 : decode cX10_text 48 = .ok (.iload_n 3, 1) := by decide +kernel
theorem dX10_text_49 : decode cX10_text 49 = .ok (.iadd, 1) := by decide +kernel
theorem dX10_text_50 : decode cX10_text 50 = .ok (.bipush 32, 2) := by decide +kernel
theorem dX10_text_52 : decode cX10_text 52 = .ok (.iastore, 1) := by decide +kernel
theorem dX10_text_53 : decode cX10_text 53 = .ok (.iinc 3 1, 3) := by decide +kernel
theorem dX10_text_56 : decode cX10_text 56 = .ok (.goto (-22), 3) := by decide +kernel
theorem dX10_text_59 : decode cX10_text 59 = .ok (.iload_n 2, 1) := by decide +kernel
theorem dX10_text_60 : decode cX10_text 60 = .ok (.ireturn, 1) := by decide +kernel
def c_X10_text_L34 (F : Nat) (a8 : Nat) (x9 : Int32) (x10 : Int32) : Nat → Int32 → z_Hp → Option (Int32 × z_Hp)
  | 0, _, _ => none
  | n + 1, x11, h12 => (if 60 ≤ x11 then (some (x10, h12)) else (if hT h12 a8 = 10 then (lt_ (hR h12 a8 11) (fun o13 => (nn o13 (fun a14 => (if okA h12 a14 20 ((60 * x9) + x11) = true then (lt_ (sI h12 a14 (ix ((60 * x9) + x11)) 32) (fun h15 => (lt_ (x11 + 1) (fun x16 => (c_X10_text_L34 F a8 x9 x10 n x16 h15))))) else none))))) else none))
def c_X10_text (F : Nat) (a0 : Nat) (x1 : Int32) (x2 : Int32) (h0 : z_Hp) : Option (Int32 × z_Hp) := (bI (c_X10_isText F x1 h0) (fun x4 h3 => (if x4 = 0 then (some ((-1), h3)) else (if x2 ≤ 60 then (if 0 ≤ x2 then (if hT h3 a0 = 10 then (lt_ (hR h3 a0 10) (fun o5 => (nn o5 (fun a6 => (if okA h3 a6 20 x1 = true then (lt_ (sI h3 a6 (ix x1) x2) (fun h7 => (c_X10_text_L34 F a0 x1 x2 F 0 h7))) else none))))) else none) else (if hT h3 a0 = 10 then (bI (c_X10_meets F a0 5 h3) (fun x18 h17 => (some (x18, h17)))) else none)) else (some ((-1), h3))))))
set_option maxRecDepth 20000 in
set_option maxHeartbeats 4000000 in
theorem g_X10_text_L34 (F : Nat) (a8 : Nat) (x9 : Int32) (x10 : Int32) : ∀ (n : Nat) (x11 : Int32) (h12 : z_Hp), z_G zi mi_X10_text 34 [(0, vr (some a8)), (1, vi x9), (2, vi x10), (3, vi x11)] [] h12 (c_X10_text_L34 F a8 x9 x10 n x11 h12) := by
  intro n
  induction n with
  | zero => intro x11 h12; rw [c_X10_text_L34]; exact z_none
  | succ n ih =>
    intro x11 h12
    rw [c_X10_text_L34]
    refine z_iload_n (pc := 34) dX10_text_34 rfl 3 rfl (z_bipush (pc := 35) dX10_text_35 bp_60 (?_))
    refine z_icmp_ge (pc := 37) (tgt := 59) dX10_text_37 (by decide) ?_ ?_
    · refine z_iload_n (pc := 59) dX10_text_59 rfl 2 rfl (?_)
      exact z_iret (pc := 60) dX10_text_60 rfl rfl
    · refine z_aload_n (pc := 40) dX10_text_40 rfl 0 rfl (z_getRl (pc := 41) fl_RX10_29 rfl dX10_text_41 (fun o13 => (z_bipush (pc := 44) dX10_text_44 bp_60 (z_iload_n (pc := 46) dX10_text_46 rfl 1 rfl (z_imul (pc := 47) dX10_text_47 (z_iload_n (pc := 48) dX10_text_48 rfl 3 rfl (z_iadd (pc := 49) dX10_text_49 (z_bipush (pc := 50) dX10_text_50 bp_32 (?_)))))))))
      refine z_nn (fun a14 ea14 => ?_)
      subst ea14
      refine z_iastorel (pc := 52) dX10_text_52 (fun h15 => (z_iincl (pc := 53) (L' := fun x16 => [(0, vr (some a8)), (1, vi x9), (2, vi x10), (3, vi x16)]) dX10_text_53 3 rfl ic_1 (Nat.le_of_ble_eq_true rfl) (fun _ => rfl) (fun x16 => (z_goto (pc := 56) (tgt := 34) dX10_text_56 (by decide) (?_)))))
      exact ih x16 h15
set_option maxRecDepth 20000 in
set_option maxHeartbeats 4000000 in
theorem t_X10_text (F : Nat) (a0 : Nat) (x1 : Int32) (x2 : Int32) (h0 : z_Hp) : z_Ct zi mi_X10_text [vr (some a0), vi x1, vi x2] h0 (c_X10_text F a0 x1 x2 h0) := by
  refine z_entry (by decide) (Nat.le_of_ble_eq_true rfl) [(0, vr (some a0)), (1, vi x1), (2, vi x2)] rfl ?_
  unfold c_X10_text
  refine z_iload_n (pc := 0) dX10_text_0 rfl 1 rfl (z_callS_I (pc := 1) (avs := [vi x1]) (st := []) rfl (t_X10_isText F x1 h0) ky_X10_isText ws_X10_isText wz_RX10_178 (rm_X10_text_X10_isText) (Nat.le_of_ble_eq_true rfl) dX10_text_1 (fun x4 h3 => (?_)))
  refine z_if_eq (pc := 4) (tgt := 13) dX10_text_4 (by decide) ?_ ?_
  · refine z_iconst (pc := 13) dX10_text_13 ic_m1 (?_)
    exact z_iret (pc := 14) dX10_text_14 rfl rfl
  · refine z_iload_n (pc := 7) dX10_text_7 rfl 2 rfl (z_bipush (pc := 8) dX10_text_8 bp_60 (?_))
    refine z_icmp_le (pc := 10) (tgt := 15) dX10_text_10 (by decide) ?_ ?_
    · refine z_iload_n (pc := 15) dX10_text_15 rfl 2 rfl (?_)
      refine z_if_ge (pc := 16) (tgt := 25) dX10_text_16 (by decide) ?_ ?_
      · refine z_aload_n (pc := 25) dX10_text_25 rfl 0 rfl (z_getRl (pc := 26) fl_RX10_26 rfl dX10_text_26 (fun o5 => (z_iload_n (pc := 29) dX10_text_29 rfl 1 rfl (z_iload_n (pc := 30) dX10_text_30 rfl 2 rfl (?_)))))
        refine z_nn (fun a6 ea6 => ?_)
        subst ea6
        refine z_iastorel (pc := 31) dX10_text_31 (fun h7 => (z_iconst (pc := 32) dX10_text_32 ic_0 (z_istore_n (pc := 33) (L' := [(0, vr (some a0)), (1, vi x1), (2, vi x2), (3, vi 0)]) dX10_text_33 rfl (Nat.le_of_ble_eq_true rfl) rfl (?_))))
        refine g_X10_text_L34 F a0 x1 x2 F 0 h7
      · refine z_aload_n (pc := 19) dX10_text_19 rfl 0 rfl (z_iconst (pc := 20) dX10_text_20 ic_5 (z_callV_I (pc := 21) (avs := [vi 5]) (st := []) rfl (q := (RX10, TX10, 62)) rfl rfl (t_X10_meets F a0 5 h3) ky_X10_meets wm_X10_meets we_X10_meets wz_RX10_174 (rm_X10_text_X10_meets) (Nat.le_of_ble_eq_true rfl) dX10_text_21 (fun x18 h17 => (?_))))
        exact z_iret (pc := 24) dX10_text_24 rfl rfl
    · refine z_iconst (pc := 13) dX10_text_13 ic_m1 (?_)
      exact z_iret (pc := 14) dX10_text_14 rfl rfl
theorem dX10_put_0 : decode cX10_put 0 = .ok (.aload_n 0, 1) := by decide +kernel
theorem dX10_put_1 : decode cX10_put 1 = .ok (.iload_n 1, 1) := by decide +kernel
theorem dX10_put_2 : decode cX10_put 2 = .ok (.invokevirtual 188, 3) := by decide +kernel
theorem dX10_put_5 : decode cX10_put 5 = .ok (.istore 4, 2) := by decide +kernel
theorem dX10_put_7 : decode cX10_put 7 = .ok (.iload 4, 2) := by decide +kernel
theorem dX10_put_9 : decode cX10_put 9 = .ok (.ifCond .ge 6, 3) := by decide +kernel
theorem dX10_put_12 : decode cX10_put 12 = .ok (.iload 4, 2) := by decide +kernel
theorem dX10_put_14 : decode cX10_put 14 = .ok (.ireturn, 1) := by decide +kernel
theorem dX10_put_15 : decode cX10_put 15 = .ok (.iload_n 2, 1) := by decide +kernel
theorem dX10_put_16 : decode cX10_put 16 = .ok (.iconst 0, 1) := by decide +kernel
theorem dX10_put_17 : decode cX10_put 17 = .ok (.aload_n 0, 1) := by decide +kernel
theorem dX10_put_18 : decode cX10_put 18 = .ok (.getfield 26, 3) := by decide +kernel
theorem dX10_put_21 : decode cX10_put 21 = .ok (.iload_n 1, 1) := by decide +kernel
theorem dX10_put_22 : decode cX10_put 22 = .ok (.iaload, 1) := by decide +kernel
theorem dX10_put_23 : decode cX10_put 23 = .ok (.iconst 1, 1) := by decide +kernel
theorem dX10_put_24 : decode cX10_put 24 = .ok (.isub, 1) := by decide +kernel
theorem dX10_put_25 : decode cX10_put 25 = .ok (.invokestatic 166, 3) := by decide +kernel
theorem dX10_put_28 : decode cX10_put 28 = .ok (.ifCond .ne 9, 3) := by decide +kernel
theorem dX10_put_31 : decode cX10_put 31 = .ok (.aload_n 0, 1) := by decide +kernel
theorem dX10_put_32 : decode cX10_put 32 = .ok (.iconst 2, 1) := by decide +kernel
theorem dX10_put_33 : decode cX10_put 33 = .ok (.invokevirtual 174, 3) := by decide +kernel
theorem dX10_put_36 : decode cX10_put 36 = .ok (.ireturn, 1) := by decide +kernel
theorem dX10_put_37 : decode cX10_put 37 = .ok (.aload_n 0, 1) := by decide +kernel
theorem dX10_put_38 : decode cX10_put 38 = .ok (.getfield 29, 3) := by decide +kernel
theorem dX10_put_41 : decode cX10_put 41 = .ok (.bipush 60, 2) := by decide +kernel
theorem dX10_put_43 : decode cX10_put 43 = .ok (.iload_n 1, 1) := by decide +kernel
theorem dX10_put_44 : decode cX10_put 44 = .ok (.imul, 1) := by decide +kernel
theorem dX10_put_45 : decode cX10_put 45 = .ok (.iload_n 2, 1) := by decide +kernel
theorem dX10_put_46 : decode cX10_put 46 = .ok (.iadd, 1) := by decide +kernel
theorem dX10_put_47 : decode cX10_put 47 = .ok (.iaload, 1) := by decide +kernel
theorem dX10_put_48 : decode cX10_put 48 = .ok (.istore 5, 2) := by decide +kernel
theorem dX10_put_50 : decode cX10_put 50 = .ok (.aload_n 0, 1) := by decide +kernel
theorem dX10_put_51 : decode cX10_put 51 = .ok (.getfield 29, 3) := by decide +kernel
theorem dX10_put_54 : decode cX10_put 54 = .ok (.bipush 60, 2) := by decide +kernel
theorem dX10_put_56 : decode cX10_put 56 = .ok (.iload_n 1, 1) := by decide +kernel
theorem dX10_put_57 : decode cX10_put 57 = .ok (.imul, 1) := by decide +kernel
theorem dX10_put_58 : decode cX10_put 58 = .ok (.iload_n 2, 1) := by decide +kernel
theorem dX10_put_59 : decode cX10_put 59 = .ok (.iadd, 1) := by decide +kernel
theorem dX10_put_60 : decode cX10_put 60 = .ok (.iload_n 3, 1) := by decide +kernel
theorem dX10_put_61 : decode cX10_put 61 = .ok (.i2b, 1) := by decide +kernel
theorem dX10_put_62 : decode cX10_put 62 = .ok (.iastore, 1) := by decide +kernel
theorem dX10_put_63 : decode cX10_put 63 = .ok (.iload 5, 2) := by decide +kernel
theorem dX10_put_65 : decode cX10_put 65 = .ok (.sipush 1000, 3) := by decide +kernel
theorem dX10_put_68 : decode cX10_put 68 = .ok (.iadd, 1) := by decide +kernel
theorem dX10_put_69 : decode cX10_put 69 = .ok (.ireturn, 1) := by decide +kernel
def c_X10_put (F : Nat) (a0 : Nat) (x1 : Int32) (x2 : Int32) (x3 : Int32) (h0 : z_Hp) : Option (Int32 × z_Hp) := (if hT h0 a0 = 10 then (bI (c_X10_askedText F a0 x1 h0) (fun x5 h4 => (if 0 ≤ x5 then (if hT h4 a0 = 10 then (lt_ (hR h4 a0 10) (fun o6 => (nn o6 (fun a7 => (if okA h4 a7 20 x1 = true then (bI (c_X10_in F x2 0 ((hI h4 a7 (ix x1)) - 1) h4) (fun x9 h8 => (if x9 = 0 then (if hT h8 a0 = 10 then (bI (c_X10_meets F a0 2 h8) (fun x17 h16 => (some (x17, h16)))) else none) else (if hT h8 a0 = 10 then (lt_ (hR h8 a0 11) (fun o10 => (nn o10 (fun a11 => (if okA h8 a11 20 ((60 * x1) + x2) = true then (lt_ (hI h8 a11 (ix ((60 * x1) + x2))) (fun x12 => (if hT h8 a0 = 10 then (lt_ (hR h8 a0 11) (fun o13 => (nn o13 (fun a14 => (if okA h8 a14 20 ((60 * x1) + x2) = true then (lt_ (sI h8 a14 (ix ((60 * x1) + x2)) ((x3 : Int32).toInt8.toInt32)) (fun h15 => (some (x12 + 1000, h15)))) else none))))) else none))) else none))))) else none)))) else none))))) else none) else (some (x5, h4))))) else none)
set_option maxRecDepth 20000 in
set_option maxHeartbeats 4000000 in
theorem t_X10_put (F : Nat) (a0 : Nat) (x1 : Int32) (x2 : Int32) (x3 : Int32) (h0 : z_Hp) : z_Ct zi mi_X10_put [vr (some a0), vi x1, vi x2, vi x3] h0 (c_X10_put F a0 x1 x2 x3 h0) := by
  refine z_entry (by decide) (Nat.le_of_ble_eq_true rfl) [(0, vr (some a0)), (1, vi x1), (2, vi x2), (3, vi x3)] rfl ?_
  unfold c_X10_put
  refine z_aload_n (pc := 0) dX10_put_0 rfl 0 rfl (z_iload_n (pc := 1) dX10_put_1 rfl 1 rfl (z_callV_I (pc := 2) (avs := [vi x1]) (st := []) rfl (q := (RX10, TX10, 62)) rfl rfl (t_X10_askedText F a0 x1 h0) ky_X10_askedText wm_X10_askedText we_X10_askedText wz_RX10_188 (rm_X10_put_X10_askedText) (Nat.le_of_ble_eq_true rfl) dX10_put_2 (fun x5 h4 => (?_))))
  refine z_istore (pc := 5) (L' := [(0, vr (some a0)), (1, vi x1), (2, vi x2), (3, vi x3), (4, vi x5)]) dX10_put_5 (Nat.le_of_ble_eq_true rfl) rfl (z_iload (pc := 7) dX10_put_7 4 rfl (?_))
  refine z_if_ge (pc := 9) (tgt := 15) dX10_put_9 (by decide) ?_ ?_
  · refine z_iload_n (pc := 15) dX10_put_15 rfl 2 rfl (z_iconst (pc := 16) dX10_put_16 ic_0 (z_aload_n (pc := 17) dX10_put_17 rfl 0 rfl (z_getRl (pc := 18) fl_RX10_26 rfl dX10_put_18 (fun o6 => (z_iload_n (pc := 21) dX10_put_21 rfl 1 rfl (?_))))))
    refine z_nn (fun a7 ea7 => ?_)
    subst ea7
    refine z_iaload (pc := 22) dX10_put_22 (z_iconst (pc := 23) dX10_put_23 ic_1 (z_isub (pc := 24) dX10_put_24 (z_callS_I (pc := 25) (avs := [vi x2, vi 0, vi ((hI h4 a7 (ix x1)) - 1)]) (st := []) rfl (t_X10_in F x2 0 ((hI h4 a7 (ix x1)) - 1) h4) ky_X10_in ws_X10_in wz_RX10_166 (rm_X10_put_X10_in) (Nat.le_of_ble_eq_true rfl) dX10_put_25 (fun x9 h8 => (?_)))))
    refine z_if_ne (pc := 28) (tgt := 37) dX10_put_28 (by decide) ?_ ?_
    · refine z_aload_n (pc := 37) dX10_put_37 rfl 0 rfl (z_getRl (pc := 38) fl_RX10_29 rfl dX10_put_38 (fun o10 => (z_bipush (pc := 41) dX10_put_41 bp_60 (z_iload_n (pc := 43) dX10_put_43 rfl 1 rfl (z_imul (pc := 44) dX10_put_44 (z_iload_n (pc := 45) dX10_put_45 rfl 2 rfl (z_iadd (pc := 46) dX10_put_46 (?_))))))))
      refine z_nn (fun a11 ea11 => ?_)
      subst ea11
      refine z_iaload (pc := 47) dX10_put_47 (z_istorel (pc := 48) (L' := fun x12 => [(0, vr (some a0)), (1, vi x1), (2, vi x2), (3, vi x3), (4, vi x5), (5, vi x12)]) dX10_put_48 (Nat.le_of_ble_eq_true rfl) (fun _ => rfl) (fun x12 => (z_aload_n (pc := 50) dX10_put_50 rfl 0 rfl (z_getRl (pc := 51) fl_RX10_29 rfl dX10_put_51 (fun o13 => (z_bipush (pc := 54) dX10_put_54 bp_60 (z_iload_n (pc := 56) dX10_put_56 rfl 1 rfl (z_imul (pc := 57) dX10_put_57 (z_iload_n (pc := 58) dX10_put_58 rfl 2 rfl (?_))))))))))
      refine z_iadd (pc := 59) dX10_put_59 (z_iload_n (pc := 60) dX10_put_60 rfl 3 rfl (z_i2b (pc := 61) dX10_put_61 (?_)))
      refine z_nn (fun a14 ea14 => ?_)
      subst ea14
      refine z_iastorel (pc := 62) dX10_put_62 (fun h15 => (z_iload (pc := 63) dX10_put_63 5 rfl (z_sipush (pc := 65) dX10_put_65 sp_1000 (z_iadd (pc := 68) dX10_put_68 (?_)))))
      exact z_iret (pc := 69) dX10_put_69 rfl rfl
    · refine z_aload_n (pc := 31) dX10_put_31 rfl 0 rfl (z_iconst (pc := 32) dX10_put_32 ic_2 (z_callV_I (pc := 33) (avs := [vi 2]) (st := []) rfl (q := (RX10, TX10, 62)) rfl rfl (t_X10_meets F a0 2 h8) ky_X10_meets wm_X10_meets we_X10_meets wz_RX10_174 (rm_X10_put_X10_meets) (Nat.le_of_ble_eq_true rfl) dX10_put_33 (fun x17 h16 => (?_))))
      exact z_iret (pc := 36) dX10_put_36 rfl rfl
  · refine z_iload (pc := 12) dX10_put_12 4 rfl (?_)
    exact z_iret (pc := 14) dX10_put_14 rfl rfl
theorem dX10_later_0 : decode cX10_later 0 = .ok (.iload_n 1, 1) := by decide +kernel
theorem dX10_later_1 : decode cX10_later 1 = .ok (.ifCond .lt 15, 3) := by decide +kernel
theorem dX10_later_4 : decode cX10_later 4 = .ok (.iload_n 1, 1) := by decide +kernel
theorem dX10_later_5 : decode cX10_later 5 = .ok (.sipush 999, 3) := by decide +kernel
theorem dX10_later_8 : decode cX10_later 8 = .ok (.aload_n 0, 1) := by decide +kernel
theorem dX10_later_9 : decode cX10_later 9 = .ok (.getfield 191, 3) := by decide +kernel
theorem dX10_later_12 : decode cX10_later 12 = .ok (.isub, 1) := by decide +kernel
theorem dX10_later_13 : decode cX10_later 13 = .ok (.if_icmp .le 5, 3) := by decide +kernel
theorem dX10_later_16 : decode cX10_later 16 = .ok (.iconst (-1), 1) := by decide +kernel
theorem dX10_later_17 : decode cX10_later 17 = .ok (.ireturn, 1) := by decide +kernel
theorem dX10_later_18 : decode cX10_later 18 = .ok (.aload_n 0, 1) := by decide +kernel
theorem dX10_later_19 : decode cX10_later 19 = .ok (.dup, 1) := by decide +kernel
theorem dX10_later_20 : decode cX10_later 20 = .ok (.getfield 191, 3) := by decide +kernel
theorem dX10_later_23 : decode cX10_later 23 = .ok (.iload_n 1, 1) := by decide +kernel
theorem dX10_later_24 : decode cX10_later 24 = .ok (.iadd, 1) := by decide +kernel
theorem dX10_later_25 : decode cX10_later 25 = .ok (.putfield 191, 3) := by decide +kernel
theorem dX10_later_28 : decode cX10_later 28 = .ok (.aload_n 0, 1) := by decide +kernel
theorem dX10_later_29 : decode cX10_later 29 = .ok (.getfield 191, 3) := by decide +kernel
theorem dX10_later_32 : decode cX10_later 32 = .ok (.ireturn, 1) := by decide +kernel
def c_X10_later (F : Nat) (a0 : Nat) (x1 : Int32) (h0 : z_Hp) : Option (Int32 × z_Hp) := (if x1 < 0 then (some ((-1), h0)) else (if hT h0 a0 = 10 then (if x1 ≤ (999 - (hI h0 a0 6)) then (if hT h0 a0 = 10 then (if hT h0 a0 = 10 then (lt_ (sI h0 a0 6 ((hI h0 a0 6) + x1)) (fun h2 => (if hT h2 a0 = 10 then (some (hI h2 a0 6, h2)) else none))) else none) else none) else (some ((-1), h0))) else none))
set_option maxRecDepth 20000 in
set_option maxHeartbeats 4000000 in
theorem t_X10_later (F : Nat) (a0 : Nat) (x1 : Int32) (h0 : z_Hp) : z_Ct zi mi_X10_later [vr (some a0), vi x1] h0 (c_X10_later F a0 x1 h0) := by
  refine z_entry (by decide) (Nat.le_of_ble_eq_true rfl) [(0, vr (some a0)), (1, vi x1)] rfl ?_
  unfold c_X10_later
  refine z_iload_n (pc := 0) dX10_later_0 rfl 1 rfl (?_)
  refine z_if_lt (pc := 1) (tgt := 16) dX10_later_1 (by decide) ?_ ?_
  · refine z_iconst (pc := 16) dX10_later_16 ic_m1 (?_)
    exact z_iret (pc := 17) dX10_later_17 rfl rfl
  · refine z_iload_n (pc := 4) dX10_later_4 rfl 1 rfl (z_sipush (pc := 5) dX10_later_5 sp_999 (z_aload_n (pc := 8) dX10_later_8 rfl 0 rfl (z_getI (pc := 9) fl_RX10_191 rfl dX10_later_9 (z_isub (pc := 12) dX10_later_12 (?_)))))
    refine z_icmp_le (pc := 13) (tgt := 18) dX10_later_13 (by decide) ?_ ?_
    · refine z_aload_n (pc := 18) dX10_later_18 rfl 0 rfl (z_dup (pc := 19) dX10_later_19 rfl (z_getI (pc := 20) fl_RX10_191 rfl dX10_later_20 (z_iload_n (pc := 23) dX10_later_23 rfl 1 rfl (z_iadd (pc := 24) dX10_later_24 (z_putIl (pc := 25) fl_RX10_191 (fin_X_10_6 _) rfl dX10_later_25 (fun h2 => (z_aload_n (pc := 28) dX10_later_28 rfl 0 rfl (z_getI (pc := 29) fl_RX10_191 rfl dX10_later_29 (?_)))))))))
      exact z_iret (pc := 32) dX10_later_32 rfl rfl
    · refine z_iconst (pc := 16) dX10_later_16 ic_m1 (?_)
      exact z_iret (pc := 17) dX10_later_17 rfl rfl
theorem dX10_isSong_0 : decode cX10_isSong 0 = .ok (.iload_n 0, 1) := by decide +kernel
theorem dX10_isSong_1 : decode cX10_isSong 1 = .ok (.iconst 0, 1) := by decide +kernel
theorem dX10_isSong_2 : decode cX10_isSong 2 = .ok (.bipush 9, 2) := by decide +kernel
theorem dX10_isSong_4 : decode cX10_isSong 4 = .ok (.invokestatic 166, 3) := by decide +kernel
theorem dX10_isSong_7 : decode cX10_isSong 7 = .ok (.ireturn, 1) := by decide +kernel
def c_X10_isSong (F : Nat) (x1 : Int32) (h0 : z_Hp) : Option (Int32 × z_Hp) := (bI (c_X10_in F x1 0 9 h0) (fun x3 h2 => (if x3 = 0 ∨ x3 = 1 then some (x3, h2) else none)))
set_option maxRecDepth 20000 in
set_option maxHeartbeats 4000000 in
theorem t_X10_isSong (F : Nat) (x1 : Int32) (h0 : z_Hp) : z_Ct zi mi_X10_isSong [vi x1] h0 (c_X10_isSong F x1 h0) := by
  refine z_entry (by decide) (Nat.le_of_ble_eq_true rfl) [(0, vi x1)] rfl ?_
  unfold c_X10_isSong
  refine z_iload_n (pc := 0) dX10_isSong_0 rfl 0 rfl (z_iconst (pc := 1) dX10_isSong_1 ic_0 (z_bipush (pc := 2) dX10_isSong_2 bp_9 (z_callS_I (pc := 4) (avs := [vi x1, vi 0, vi 9]) (st := []) rfl (t_X10_in F x1 0 9 h0) ky_X10_in ws_X10_in wz_RX10_166 (rm_X10_isSong_X10_in) (Nat.le_of_ble_eq_true rfl) dX10_isSong_4 (fun x3 h2 => (?_)))))
  exact z_zret (pc := 7) dX10_isSong_7 rfl
theorem dX10_askedSong_0 : decode cX10_askedSong 0 = .ok (.iload_n 1, 1) := by decide +kernel
theorem dX10_askedSong_1 : decode cX10_askedSong 1 = .ok (.invokestatic 194, 3) := by decide +kernel
theorem dX10_askedSong_4 : decode cX10_askedSong 4 = .ok (.ifCond .ne 7, 3) := by decide +kernel
theorem dX10_askedSong_7 : decode cX10_askedSong 7 = .ok (.iconst (-1), 1) := by decide +kernel
theorem dX10_askedSong_8 : decode cX10_askedSong 8 = .ok (.goto 21, 3) := by decide +kernel
theorem dX10_askedSong_11 : decode cX10_askedSong 11 = .ok (.aload_n 0, 1) := by decide +kernel
theorem dX10_askedSong_12 : decode cX10_askedSong 12 = .ok (.getfield 32, 3) := by decide +kernel
theorem dX10_askedSong_15 : decode cX10_askedSong 15 = .ok (.iload_n 1, 1) := by decide +kernel
theorem dX10_askedSong_16 : decode cX10_askedSong 16 = .ok (.iaload, 1) := by decide +kernel
theorem dX10_askedSong_17 : decode cX10_askedSong 17 = .ok (.ifCond .ge 11, 3) := by decide +kernel
theorem dX10_askedSong_20 : decode cX10_askedSong 20 = .ok (.aload_n 0, 1) := by decide +kernel
theorem dX10_askedSong_21 : decode cX10_askedSong 21 = .ok (.iconst 1, 1) := by decide +kernel
theorem dX10_askedSong_22 : decode cX10_askedSong 22 = .ok (.invokevirtual 174, 3) := by decide +kernel
theorem dX10_askedSong_25 : decode cX10_askedSong 25 = .ok (.goto 4, 3) := by decide +kernel
theorem dX10_askedSong_28 : decode cX10_askedSong 28 = .ok (.iconst 0, 1) := by decide +kernel
theorem dX10_askedSong_29 : decode cX10_askedSong 29 = .ok (.ireturn, 1) := by decide +kernel
def c_X10_askedSong (F : Nat) (a0 : Nat) (x1 : Int32) (h0 : z_Hp) : Option (Int32 × z_Hp) := (bI (c_X10_isSong F x1 h0) (fun x3 h2 => (if x3 = 0 then (some ((-1), h2)) else (if hT h2 a0 = 10 then (lt_ (hR h2 a0 12) (fun o4 => (nn o4 (fun a5 => (if okA h2 a5 20 x1 = true then (if 0 ≤ (hI h2 a5 (ix x1)) then (some (0, h2)) else (if hT h2 a0 = 10 then (bI (c_X10_meets F a0 1 h2) (fun x7 h6 => (some (x7, h6)))) else none)) else none))))) else none))))
set_option maxRecDepth 20000 in
set_option maxHeartbeats 4000000 in
theorem t_X10_askedSong (F : Nat) (a0 : Nat) (x1 : Int32) (h0 : z_Hp) : z_Ct zi mi_X10_askedSong [vr (some a0), vi x1] h0 (c_X10_askedSong F a0 x1 h0) := by
  refine z_entry (by decide) (Nat.le_of_ble_eq_true rfl) [(0, vr (some a0)), (1, vi x1)] rfl ?_
  unfold c_X10_askedSong
  refine z_iload_n (pc := 0) dX10_askedSong_0 rfl 1 rfl (z_callS_I (pc := 1) (avs := [vi x1]) (st := []) rfl (t_X10_isSong F x1 h0) ky_X10_isSong ws_X10_isSong wz_RX10_194 (rm_X10_askedSong_X10_isSong) (Nat.le_of_ble_eq_true rfl) dX10_askedSong_1 (fun x3 h2 => (?_)))
  refine z_if_ne (pc := 4) (tgt := 11) dX10_askedSong_4 (by decide) ?_ ?_
  · refine z_aload_n (pc := 11) dX10_askedSong_11 rfl 0 rfl (z_getRl (pc := 12) fl_RX10_32 rfl dX10_askedSong_12 (fun o4 => (z_iload_n (pc := 15) dX10_askedSong_15 rfl 1 rfl (?_))))
    refine z_nn (fun a5 ea5 => ?_)
    subst ea5
    refine z_iaload (pc := 16) dX10_askedSong_16 (?_)
    refine z_if_ge (pc := 17) (tgt := 28) dX10_askedSong_17 (by decide) ?_ ?_
    · refine z_iconst (pc := 28) dX10_askedSong_28 ic_0 (?_)
      exact z_iret (pc := 29) dX10_askedSong_29 rfl rfl
    · refine z_aload_n (pc := 20) dX10_askedSong_20 rfl 0 rfl (z_iconst (pc := 21) dX10_askedSong_21 ic_1 (z_callV_I (pc := 22) (avs := [vi 1]) (st := []) rfl (q := (RX10, TX10, 62)) rfl rfl (t_X10_meets F a0 1 h2) ky_X10_meets wm_X10_meets we_X10_meets wz_RX10_174 (rm_X10_askedSong_X10_meets) (Nat.le_of_ble_eq_true rfl) dX10_askedSong_22 (fun x7 h6 => (?_))))
      refine z_goto (pc := 25) (tgt := 29) dX10_askedSong_25 (by decide) (?_)
      exact z_iret (pc := 29) dX10_askedSong_29 rfl rfl
  · refine z_iconst (pc := 7) dX10_askedSong_7 ic_m1 (z_goto (pc := 8) (tgt := 29) dX10_askedSong_8 (by decide) (?_))
    exact z_iret (pc := 29) dX10_askedSong_29 rfl rfl
theorem dX10_isLetter_0 : decode cX10_isLetter 0 = .ok (.iload_n 0, 1) := by decide +kernel
theorem dX10_isLetter_1 : decode cX10_isLetter 1 = .ok (.bipush 97, 2) := by decide +kernel
theorem dX10_isLetter_3 : decode cX10_isLetter 3 = .ok (.bipush 122, 2) := by decide +kernel
theorem dX10_isLetter_5 : decode cX10_isLetter 5 = .ok (.invokestatic 166, 3) := by decide +kernel
theorem dX10_isLetter_8 : decode cX10_isLetter 8 = .ok (.ireturn, 1) := by decide +kernel
def c_X10_isLetter (F : Nat) (x1 : Int32) (h0 : z_Hp) : Option (Int32 × z_Hp) := (bI (c_X10_in F x1 97 122 h0) (fun x3 h2 => (if x3 = 0 ∨ x3 = 1 then some (x3, h2) else none)))
set_option maxRecDepth 20000 in
set_option maxHeartbeats 4000000 in
theorem t_X10_isLetter (F : Nat) (x1 : Int32) (h0 : z_Hp) : z_Ct zi mi_X10_isLetter [vi x1] h0 (c_X10_isLetter F x1 h0) := by
  refine z_entry (by decide) (Nat.le_of_ble_eq_true rfl) [(0, vi x1)] rfl ?_
  unfold c_X10_isLetter
  refine z_iload_n (pc := 0) dX10_isLetter_0 rfl 0 rfl (z_bipush (pc := 1) dX10_isLetter_1 bp_97 (z_bipush (pc := 3) dX10_isLetter_3 bp_122 (z_callS_I (pc := 5) (avs := [vi x1, vi 97, vi 122]) (st := []) rfl (t_X10_in F x1 97 122 h0) ky_X10_in ws_X10_in wz_RX10_166 (rm_X10_isLetter_X10_in) (Nat.le_of_ble_eq_true rfl) dX10_isLetter_5 (fun x3 h2 => (?_)))))
  exact z_zret (pc := 8) dX10_isLetter_8 rfl
theorem dX10_isVowel_0 : decode cX10_isVowel 0 = .ok (.iload_n 0, 1) := by decide +kernel
theorem dX10_isVowel_1 : decode cX10_isVowel 1 = .ok (.bipush 97, 2) := by decide +kernel
theorem dX10_isVowel_3 : decode cX10_isVowel 3 = .ok (.if_icmp .eq 33, 3) := by decide +kernel
theorem dX10_isVowel_6 : decode cX10_isVowel 6 = .ok (.iload_n 0, 1) := by decide +kernel
theorem dX10_isVowel_7 : decode cX10_isVowel 7 = .ok (.bipush 101, 2) := by decide +kernel
theorem dX10_isVowel_9 : decode cX10_isVowel 9 = .ok (.if_icmp .eq 27, 3) := by decide +kernel
theorem dX10_isVowel_12 : decode cX10_isVowel 12 = .ok (.iload_n 0, 1) := by decide +kernel
theorem dX10_isVowel_13 : decode cX10_isVowel 13 = .ok (.bipush 105, 2) := by decide +kernel
theorem dX10_isVowel_15 : decode cX10_isVowel 15 = .ok (.if_icmp .eq 21, 3) := by decide +kernel
theorem dX10_isVowel_18 : decode cX10_isVowel 18 = .ok (.iload_n 0, 1) := by decide +kernel
theorem dX10_isVowel_19 : decode cX10_isVowel 19 = .ok (.bipush 111, 2) := by decide +kernel
theorem dX10_isVowel_21 : decode cX10_isVowel 21 = .ok (.if_icmp .eq 15, 3) := by decide +kernel
theorem dX10_isVowel_24 : decode cX10_isVowel 24 = .ok (.iload_n 0, 1) := by decide +kernel
theorem dX10_isVowel_25 : decode cX10_isVowel 25 = .ok (.bipush 117, 2) := by decide +kernel
theorem dX10_isVowel_27 : decode cX10_isVowel 27 = .ok (.if_icmp .eq 9, 3) := by decide +kernel
theorem dX10_isVowel_30 : decode cX10_isVowel 30 = .ok (.iload_n 0, 1) := by decide +kernel
theorem dX10_isVowel_31 : decode cX10_isVowel 31 = .ok (.bipush 121, 2) := by decide +kernel
theorem dX10_isVowel_33 : decode cX10_isVowel 33 = .ok (.if_icmp .ne 7, 3) := by decide +kernel
theorem dX10_isVowel_36 : decode cX10_isVowel 36 = .ok (.iconst 1, 1) := by decide +kernel
theorem dX10_isVowel_37 : decode cX10_isVowel 37 = .ok (.goto 4, 3) := by decide +kernel
theorem dX10_isVowel_40 : decode cX10_isVowel 40 = .ok (.iconst 0, 1) := by decide +kernel
theorem dX10_isVowel_41 : decode cX10_isVowel 41 = .ok (.ireturn, 1) := by decide +kernel
def c_X10_isVowel (F : Nat) (x1 : Int32) (h0 : z_Hp) : Option (Int32 × z_Hp) := (if x1 = 97 then (some (1, h0)) else (if x1 = 101 then (some (1, h0)) else (if x1 = 105 then (some (1, h0)) else (if x1 = 111 then (some (1, h0)) else (if x1 = 117 then (some (1, h0)) else (if x1 = 121 then (some (1, h0)) else (some (0, h0))))))))
set_option maxRecDepth 20000 in
set_option maxHeartbeats 4000000 in
theorem t_X10_isVowel (F : Nat) (x1 : Int32) (h0 : z_Hp) : z_Ct zi mi_X10_isVowel [vi x1] h0 (c_X10_isVowel F x1 h0) := by
  refine z_entry (by decide) (Nat.le_of_ble_eq_true rfl) [(0, vi x1)] rfl ?_
  unfold c_X10_isVowel
  refine z_iload_n (pc := 0) dX10_isVowel_0 rfl 0 rfl (z_bipush (pc := 1) dX10_isVowel_1 bp_97 (?_))
  refine z_icmp_eq (pc := 3) (tgt := 36) dX10_isVowel_3 (by decide) ?_ ?_
  · refine z_iconst (pc := 36) dX10_isVowel_36 ic_1 (z_goto (pc := 37) (tgt := 41) dX10_isVowel_37 (by decide) (?_))
    exact z_iret (pc := 41) dX10_isVowel_41 rfl rfl
  · refine z_iload_n (pc := 6) dX10_isVowel_6 rfl 0 rfl (z_bipush (pc := 7) dX10_isVowel_7 bp_101 (?_))
    refine z_icmp_eq (pc := 9) (tgt := 36) dX10_isVowel_9 (by decide) ?_ ?_
    · refine z_iconst (pc := 36) dX10_isVowel_36 ic_1 (z_goto (pc := 37) (tgt := 41) dX10_isVowel_37 (by decide) (?_))
      exact z_iret (pc := 41) dX10_isVowel_41 rfl rfl
    · refine z_iload_n (pc := 12) dX10_isVowel_12 rfl 0 rfl (z_bipush (pc := 13) dX10_isVowel_13 bp_105 (?_))
      refine z_icmp_eq (pc := 15) (tgt := 36) dX10_isVowel_15 (by decide) ?_ ?_
      · refine z_iconst (pc := 36) dX10_isVowel_36 ic_1 (z_goto (pc := 37) (tgt := 41) dX10_isVowel_37 (by decide) (?_))
        exact z_iret (pc := 41) dX10_isVowel_41 rfl rfl
      · refine z_iload_n (pc := 18) dX10_isVowel_18 rfl 0 rfl (z_bipush (pc := 19) dX10_isVowel_19 bp_111 (?_))
        refine z_icmp_eq (pc := 21) (tgt := 36) dX10_isVowel_21 (by decide) ?_ ?_
        · refine z_iconst (pc := 36) dX10_isVowel_36 ic_1 (z_goto (pc := 37) (tgt := 41) dX10_isVowel_37 (by decide) (?_))
          exact z_iret (pc := 41) dX10_isVowel_41 rfl rfl
        · refine z_iload_n (pc := 24) dX10_isVowel_24 rfl 0 rfl (z_bipush (pc := 25) dX10_isVowel_25 bp_117 (?_))
          refine z_icmp_eq (pc := 27) (tgt := 36) dX10_isVowel_27 (by decide) ?_ ?_
          · refine z_iconst (pc := 36) dX10_isVowel_36 ic_1 (z_goto (pc := 37) (tgt := 41) dX10_isVowel_37 (by decide) (?_))
            exact z_iret (pc := 41) dX10_isVowel_41 rfl rfl
          · refine z_iload_n (pc := 30) dX10_isVowel_30 rfl 0 rfl (z_bipush (pc := 31) dX10_isVowel_31 bp_121 (?_))
            refine z_icmp_ne (pc := 33) (tgt := 40) dX10_isVowel_33 (by decide) ?_ ?_
            · refine z_iconst (pc := 40) dX10_isVowel_40 ic_0 (?_)
              exact z_iret (pc := 41) dX10_isVowel_41 rfl rfl
            · refine z_iconst (pc := 36) dX10_isVowel_36 ic_1 (z_goto (pc := 37) (tgt := 41) dX10_isVowel_37 (by decide) (?_))
              exact z_iret (pc := 41) dX10_isVowel_41 rfl rfl
theorem dX10_song_0 : decode cX10_song 0 = .ok (.iload_n 1, 1) := by decide +kernel
theorem dX10_song_1 : decode cX10_song 1 = .ok (.invokestatic 194, 3) := by decide +kernel
theorem dX10_song_4 : decode cX10_song 4 = .ok (.ifCond .eq 10, 3) := by decide +kernel
theorem dX10_song_7 : decode cX10_song 7 = .ok (.iload_n 2, 1) := by decide +kernel
theorem dX10_song_8 : decode cX10_song 8 = .ok (.invokestatic 178, 3) := by decide +kernel
theorem dX10_song_11 : decode cX10_song 11 = .ok (.ifCond .ne 5, 3) := by decide +kernel
theorem dX10_song_14 : decode cX10_song 14 = .ok (.iconst (-1), 1) := by decide +kernel
theorem dX10_song_15 : decode cX10_song 15 = .ok (.ireturn, 1) := by decide +kernel
theorem dX10_song_16 : decode cX10_song 16 = .ok (.aload_n 0, 1) := by decide +kernel
theorem dX10_song_17 : decode cX10_song 17 = .ok (.getfield 26, 3) := by decide +kernel
theorem dX10_song_20 : decode cX10_song 20 = .ok (.iload_n 2, 1) := by decide +kernel
theorem dX10_song_21 : decode cX10_song 21 = .ok (.iaload, 1) := by decide +kernel
theorem dX10_song_22 : decode cX10_song 22 = .ok (.ifCond .ge 9, 3) := by decide +kernel
theorem dX10_song_25 : decode cX10_song 25 = .ok (.aload_n 0, 1) := by decide +kernel
theorem dX10_song_26 : decode cX10_song 26 = .ok (.iconst 1, 1) := by decide +kernel
theorem dX10_song_27 : decode cX10_song 27 = .ok (.invokevirtual 174, 3) := by decide +kernel
theorem dX10_song_30 : decode cX10_song 30 = .ok (.ireturn, 1) := by decide +kernel
theorem dX10_song_31 : decode cX10_song 31 = .ok (.iconst 1, 1) := by decide +kernel
theorem dX10_song_32 : decode cX10_song 32 = .ok (.istore_n 3, 1) := by decide +kernel
theorem dX10_song_33 : decode cX10_song 33 = .ok (.iconst 0, 1) := by decide +kernel
theorem dX10_song_34 : decode cX10_song 34 = .ok (.istore 4, 2) := by decide +kernel
theorem dX10_song_36 : decode cX10_song 36 = .ok (.iconst 0, 1) := by decide +kernel
theorem dX10_song_37 : decode cX10_song 37 = .ok (.istore 5, 2) := by decide +kernel
theorem dX10_song_39 : decode cX10_song 39 = .ok (.iconst 0, 1) := by decide +kernel
theorem dX10_song_40 : decode cX10_song 40 = .ok (.istore 6, 2) := by decide +kernel
theorem dX10_song_42 : decode cX10_song 42 = .ok (.iload 6, 2) := by decide +kernel
theorem dX10_song_44 : decode cX10_song 44 = .ok (.aload_n 0, 1) := by decide +kernel
theorem dX10_song_45 : decode cX10_song 45 = .ok (.getfield 26, 3) := by decide +kernel
theorem dX10_song_48 : decode cX10_song 48 = .ok (.iload_n 2, 1) := by decide +kernel
theorem dX10_song_49 : decode cX10_song 49 = .ok (.iaload, 1) := by decide +kernel
theorem dX10_song_50 : decode cX10_song 50 = .ok (.if_icmp .gt 103, 3) := by decide +kernel
theorem dX10_song_53 : decode cX10_song 53 = .ok (.iload_n 3, 1) := by decide +kernel
theorem dX10_song_54 : decode cX10_song 54 = .ok (.ifCond .eq 99, 3) := by decide +kernel
theorem dX10_song_57 : decode cX10_song 57 = .ok (.iload 6, 2) := by decide +kernel
theorem dX10_song_59 : decode cX10_song 59 = .ok (.aload_n 0, 1) := by decide +kernel
theorem dX10_song_60 : decode cX10_song 60 = .ok (.getfield 26, 3) := by decide +kernel
theorem dX10_song_63 : decode cX10_song 63 = .ok (.iload_n 2, 1) := by decide +kernel
theorem dX10_song_64 : decode cX10_song 64 = .ok (.iaload, 1) := by decide +kernel
theorem dX10_song_65 : decode cX10_song 65 = .ok (.if_icmp .ge 18, 3) := by decide +kernel
theorem dX10_song_68 : decode cX10_song 68 = .ok (.aload_n 0, 1) := by decide +kernel
theorem dX10_song_69 : decode cX10_song 69 = .ok (.getfield 29, 3) := by decide +kernel
theorem dX10_song_72 : decode cX10_song 72 = .ok (.bipush 60, 2) := by decide +kernel
theorem dX10_song_74 : decode cX10_song 74 = .ok (.iload_n 2, 1) := by decide +kernel
theorem dX10_song_75 : decode cX10_song 75 = .ok (.imul, 1) := by decide +kernel
theorem dX10_song_76 : decode cX10_song 76 = .ok (.iload 6, 2) := by decide +kernel
theorem dX10_song_78 : decode cX10_song 78 = .ok (.iadd, 1) := by decide +kernel
theorem dX10_song_79 : decode cX10_song 79 = .ok (.iaload, 1) := by decide +kernel
theorem dX10_song_80 : decode cX10_song 80 = .ok (.goto 5, 3) := by decide +kernel
theorem dX10_song_83 : decode cX10_song 83 = .ok (.bipush 47, 2) := by decide +kernel
theorem dX10_song_85 : decode cX10_song 85 = .ok (.istore 7, 2) := by decide +kernel
theorem dX10_song_87 : decode cX10_song 87 = .ok (.iload 7, 2) := by decide +kernel
theorem dX10_song_89 : decode cX10_song 89 = .ok (.bipush 47, 2) := by decide +kernel
theorem dX10_song_91 : decode cX10_song 91 = .ok (.if_icmp .ne 15, 3) := by decide +kernel
theorem dX10_song_94 : decode cX10_song 94 = .ok (.iload 5, 2) := by decide +kernel
theorem dX10_song_96 : decode cX10_song 96 = .ok (.istore_n 3, 1) := by decide +kernel
theorem dX10_song_97 : decode cX10_song 97 = .ok (.iinc 4 1, 3) := by decide +kernel
theorem dX10_song_100 : decode cX10_song 100 = .ok (.iconst 0, 1) := by decide +kernel
theorem dX10_song_101 : decode cX10_song 101 = .ok (.istore 5, 2) := by decide +kernel
theorem dX10_song_103 : decode cX10_song 103 = .ok (.goto 44, 3) := by decide +kernel
theorem dX10_song_106 : decode cX10_song 106 = .ok (.iload 7, 2) := by decide +kernel
theorem dX10_song_108 : decode cX10_song 108 = .ok (.bipush 32, 2) := by decide +kernel
theorem dX10_song_110 : decode cX10_song 110 = .ok (.if_icmp .eq 11, 3) := by decide +kernel
theorem dX10_song_113 : decode cX10_song 113 = .ok (.iload 7, 2) := by decide +kernel
theorem dX10_song_115 : decode cX10_song 115 = .ok (.invokestatic 197, 3) := by decide +kernel
theorem dX10_song_118 : decode cX10_song 118 = .ok (.ifCond .eq 7, 3) := by decide +kernel
theorem dX10_song_121 : decode cX10_song 121 = .ok (.iconst 1, 1) := by decide +kernel
theorem dX10_song_122 : decode cX10_song 122 = .ok (.goto 4, 3) := by decide +kernel
theorem dX10_song_125 : decode cX10_song 125 = .ok (.iconst 0, 1) := by decide +kernel
theorem dX10_song_126 : decode cX10_song 126 = .ok (.istore_n 3, 1) := by decide +kernel
theorem dX10_song_127 : decode cX10_song 127 = .ok (.iload 5, 2) := by decide +kernel
theorem dX10_song_129 : decode cX10_song 129 = .ok (.ifCond .ne 11, 3) := by decide +kernel
theorem dX10_song_132 : decode cX10_song 132 = .ok (.iload 7, 2) := by decide +kernel
theorem dX10_song_134 : decode cX10_song 134 = .ok (.invokestatic 197, 3) := by decide +kernel
theorem dX10_song_137 : decode cX10_song 137 = .ok (.ifCond .eq 7, 3) := by decide +kernel
theorem dX10_song_140 : decode cX10_song 140 = .ok (.iconst 1, 1) := by decide +kernel
theorem dX10_song_141 : decode cX10_song 141 = .ok (.goto 4, 3) := by decide +kernel
theorem dX10_song_144 : decode cX10_song 144 = .ok (.iconst 0, 1) := by decide +kernel
theorem dX10_song_145 : decode cX10_song 145 = .ok (.istore 5, 2) := by decide +kernel
theorem dX10_song_147 : decode cX10_song 147 = .ok (.iinc 6 1, 3) := by decide +kernel
theorem dX10_song_150 : decode cX10_song 150 = .ok (.goto (-108), 3) := by decide +kernel
theorem dX10_song_153 : decode cX10_song 153 = .ok (.iload_n 3, 1) := by decide +kernel
theorem dX10_song_154 : decode cX10_song 154 = .ok (.ifCond .eq 10, 3) := by decide +kernel
theorem dX10_song_157 : decode cX10_song 157 = .ok (.iload 4, 2) := by decide +kernel
theorem dX10_song_159 : decode cX10_song 159 = .ok (.bipush 8, 2) := by decide +kernel
theorem dX10_song_161 : decode cX10_song 161 = .ok (.if_icmp .le 9, 3) := by decide +kernel
theorem dX10_song_164 : decode cX10_song 164 = .ok (.aload_n 0, 1) := by decide +kernel
theorem dX10_song_165 : decode cX10_song 165 = .ok (.iconst 3, 1) := by decide +kernel
theorem dX10_song_166 : decode cX10_song 166 = .ok (.invokevirtual 174, 3) := by decide +kernel
theorem dX10_song_169 : decode cX10_song 169 = .ok (.ireturn, 1) := by decide +kernel
theorem dX10_song_170 : decode cX10_song 170 = .ok (.aload_n 0, 1) := by decide +kernel
theorem dX10_song_171 : decode cX10_song 171 = .ok (.getfield 32, 3) := by decide +kernel
theorem dX10_song_174 : decode cX10_song 174 = .ok (.iload_n 1, 1) := by decide +kernel
theorem dX10_song_175 : decode cX10_song 175 = .ok (.aload_n 0, 1) := by decide +kernel
theorem dX10_song_176 : decode cX10_song 176 = .ok (.getfield 26, 3) := by decide +kernel
theorem dX10_song_179 : decode cX10_song 179 = .ok (.iload_n 2, 1) := by decide +kernel
theorem dX10_song_180 : decode cX10_song 180 = .ok (.iaload, 1) := by decide +kernel
theorem dX10_song_181 : decode cX10_song 181 = .ok (.iastore, 1) := by decide +kernel
theorem dX10_song_182 : decode cX10_song 182 = .ok (.iconst 0, 1) := by decide +kernel
theorem dX10_song_183 : decode cX10_song 183 = .ok (.istore 6, 2) := by decide +kernel
theorem dX10_song_185 : decode cX10_song 185 = .ok (.iload 6, 2) := by decide +kernel
theorem dX10_song_187 : decode cX10_song 187 = .ok (.aload_n 0, 1) := by decide +kernel
theorem dX10_song_188 : decode cX10_song 188 = .ok (.getfield 26, 3) := by decide +kernel
theorem dX10_song_191 : decode cX10_song 191 = .ok (.iload_n 2, 1) := by decide +kernel
theorem dX10_song_192 : decode cX10_song 192 = .ok (.iaload, 1) := by decide +kernel
theorem dX10_song_193 : decode cX10_song 193 = .ok (.if_icmp .ge 33, 3) := by decide +kernel
theorem dX10_song_196 : decode cX10_song 196 = .ok (.aload_n 0, 1) := by decide +kernel
theorem dX10_song_197 : decode cX10_song 197 = .ok (.getfield 35, 3) := by decide +kernel
theorem dX10_song_200 : decode cX10_song 200 = .ok (.bipush 60, 2) := by decide +kernel
theorem dX10_song_202 : decode cX10_song 202 = .ok (.iload_n 1, 1) := by decide +kernel
theorem dX10_song_203 : decode cX10_song 203 = .ok (.imul, 1) := by decide +kernel
theorem dX10_song_204 : decode cX10_song 204 = .ok (.iload 6, 2) := by decide +kernel
theorem dX10_song_206 : decode cX10_song 206 = .ok (.iadd, 1) := by decide +kernel
theorem dX10_song_207 : decode cX10_song 207 = .ok (.aload_n 0, 1) := by decide +kernel
theorem dX10_song_208 : decode cX10_song 208 = .ok (.getfield 29, 3) := by decide +kernel
theorem dX10_song_211 : decode cX10_song 211 = .ok (.bipush 60, 2) := by decide +kernel
theorem dX10_song_213 : decode cX10_song 213 = .ok (.iload_n 2, 1) := by decide +kernel
theorem dX10_song_214 : decode cX10_song 214 = .ok (.imul, 1) := by decide +kernel
theorem dX10_song_215 : decode cX10_song 215 = .ok (.iload 6, 2) := by decide +kernel
theorem dX10_song_217 : decode cX10_song 217 = .ok (.iadd, 1) := by decide +kernel
theorem dX10_song_218 : decode cX10_song 218 = .ok (.iaload, 1) := by decide +kernel
theorem dX10_song_219 : decode cX10_song 219 = .ok (.iastore, 1) := by decide +kernel
theorem dX10_song_220 : decode cX10_song 220 = .ok (.iinc 6 1, 3) := by decide +kernel
theorem dX10_song_223 : decode cX10_song 223 = .ok (.goto (-38), 3) := by decide +kernel
theorem dX10_song_226 : decode cX10_song 226 = .ok (.iload 4, 2) := by decide +kernel
theorem dX10_song_228 : decode cX10_song 228 = .ok (.ireturn, 1) := by decide +kernel
def c_X10_song_L42 (F : Nat) (a9 : Nat) (x10 : Int32) (x11 : Int32) (k153 : Int32 → Int32 → z_Hp → Option (Int32 × z_Hp)) : Nat → Int32 → Int32 → Int32 → Int32 → z_Hp → Option (Int32 × z_Hp)
  | 0, _, _, _, _, _ => none
  | n + 1, x12, x13, x14, x15, h16 => (if hT h16 a9 = 10 then (lt_ (hR h16 a9 10) (fun o20 => (nn o20 (fun a21 => (if okA h16 a21 20 x11 = true then (if (hI h16 a21 (ix x11)) < x15 then (k153 x12 x13 h16) else (if x12 = 0 then (k153 x12 x13 h16) else (if hT h16 a9 = 10 then (lt_ (hR h16 a9 10) (fun o22 => (nn o22 (fun a23 => (if okA h16 a23 20 x11 = true then (lt_ (fun (x25 : Int32) (h26 : z_Hp) => (lt_ (fun (x28 : Int32) (x29 : Int32) (x30 : Int32) (h31 : z_Hp) => (lt_ (x15 + 1) (fun x32 => (c_X10_song_L42 F a9 x10 x11 k153 n x28 x29 x30 x32 h31)))) (fun (j147_27 : Int32 → Int32 → Int32 → z_Hp → Option (Int32 × z_Hp)) => (if x25 = 47 then (lt_ (x13 + 1) (fun x47 => (j147_27 x14 x47 0 h26))) else (lt_ (fun (x34 : Int32) (h35 : z_Hp) => (lt_ (fun (x37 : Int32) (h38 : z_Hp) => (j147_27 x34 x13 x37 h38)) (fun (j145_36 : Int32 → z_Hp → Option (Int32 × z_Hp)) => (lt_ (fun (h40 : z_Hp) => (j145_36 1 h40)) (fun (j140_39 : z_Hp → Option (Int32 × z_Hp)) => (if x14 = 0 then (bI (c_X10_isLetter F x25 h35) (fun x42 h41 => (if x42 = 0 then (j145_36 0 h41) else (j140_39 h41)))) else (j140_39 h35))))))) (fun (j126_33 : Int32 → z_Hp → Option (Int32 × z_Hp)) => (lt_ (fun (h44 : z_Hp) => (j126_33 1 h44)) (fun (j121_43 : z_Hp → Option (Int32 × z_Hp)) => (if x25 = 32 then (j121_43 h26) else (bI (c_X10_isLetter F x25 h26) (fun x46 h45 => (if x46 = 0 then (j126_33 0 h45) else (j121_43 h45))))))))))))) (fun (j85_24 : Int32 → z_Hp → Option (Int32 × z_Hp)) => (if (hI h16 a23 (ix x11)) ≤ x15 then (j85_24 47 h16) else (if hT h16 a9 = 10 then (lt_ (hR h16 a9 11) (fun o48 => (nn o48 (fun a49 => (if okA h16 a49 20 ((60 * x11) + x15) = true then (j85_24 (hI h16 a49 (ix ((60 * x11) + x15))) h16) else none))))) else none)))) else none))))) else none))) else none))))) else none)
def c_X10_song_L185 (F : Nat) (a62 : Nat) (x63 : Int32) (x64 : Int32) (x65 : Int32) : Nat → Int32 → z_Hp → Option (Int32 × z_Hp)
  | 0, _, _ => none
  | n + 1, x66, h67 => (if hT h67 a62 = 10 then (lt_ (hR h67 a62 10) (fun o68 => (nn o68 (fun a69 => (if okA h67 a69 20 x64 = true then (if (hI h67 a69 (ix x64)) ≤ x66 then (some (x65, h67)) else (if hT h67 a62 = 10 then (lt_ (hR h67 a62 13) (fun o70 => (if hT h67 a62 = 10 then (lt_ (hR h67 a62 11) (fun o71 => (nn o71 (fun a72 => (if okA h67 a72 20 ((60 * x64) + x66) = true then (nn o70 (fun a73 => (if okA h67 a73 20 ((60 * x63) + x66) = true then (lt_ (sI h67 a73 (ix ((60 * x63) + x66)) (hI h67 a72 (ix ((60 * x64) + x66)))) (fun h74 => (lt_ (x66 + 1) (fun x75 => (c_X10_song_L185 F a62 x63 x64 x65 n x75 h74))))) else none))) else none))))) else none))) else none)) else none))))) else none)
def c_X10_song (F : Nat) (a0 : Nat) (x1 : Int32) (x2 : Int32) (h0 : z_Hp) : Option (Int32 × z_Hp) := (bI (c_X10_isSong F x1 h0) (fun x4 h3 => (if x4 = 0 then (some ((-1), h3)) else (bI (c_X10_isText F x2 h3) (fun x6 h5 => (if x6 = 0 then (some ((-1), h5)) else (if hT h5 a0 = 10 then (lt_ (hR h5 a0 10) (fun o7 => (nn o7 (fun a8 => (if okA h5 a8 20 x2 = true then (if 0 ≤ (hI h5 a8 (ix x2)) then (c_X10_song_L42 F a0 x1 x2 (fun x50 x51 h52 => (lt_ (fun (h54 : z_Hp) => (if hT h54 a0 = 10 then (bI (c_X10_meets F a0 3 h54) (fun x56 h55 => (some (x56, h55)))) else none)) (fun (j164_53 : z_Hp → Option (Int32 × z_Hp)) => (if x50 = 0 then (j164_53 h52) else (if x51 ≤ 8 then (if hT h52 a0 = 10 then (lt_ (hR h52 a0 12) (fun o57 => (if hT h52 a0 = 10 then (lt_ (hR h52 a0 10) (fun o58 => (nn o58 (fun a59 => (if okA h52 a59 20 x2 = true then (nn o57 (fun a60 => (if okA h52 a60 20 x1 = true then (lt_ (sI h52 a60 (ix x1) (hI h52 a59 (ix x2))) (fun h61 => (c_X10_song_L185 F a0 x1 x2 x51 F 0 h61))) else none))) else none))))) else none))) else none) else (j164_53 h52)))))) F 1 0 0 0 h5) else (if hT h5 a0 = 10 then (bI (c_X10_meets F a0 1 h5) (fun x77 h76 => (some (x77, h76)))) else none)) else none))))) else none)))))))
set_option maxRecDepth 20000 in
set_option maxHeartbeats 4000000 in
theorem g_X10_song_L42 (F : Nat) (a9 : Nat) (x10 : Int32) (x11 : Int32) (k153 : Int32 → Int32 → z_Hp → Option (Int32 × z_Hp)) (qk153 : ∀ (x17 : Int32) (x18 : Int32) (h19 : z_Hp), z_G zi mi_X10_song 153 [(0, vr (some a9)), (1, vi x10), (2, vi x11), (3, vi x17), (4, vi x18)] [] h19 (k153 x17 x18 h19)) : ∀ (n : Nat) (x12 : Int32) (x13 : Int32) (x14 : Int32) (x15 : Int32) (h16 : z_Hp), z_G zi mi_X10_song 42 [(0, vr (some a9)), (1, vi x10), (2, vi x11), (3, vi x12), (4, vi x13), (5, vi x14), (6, vi x15)] [] h16 (c_X10_song_L42 F a9 x10 x11 k153 n x12 x13 x14 x15 h16) := by
  intro n
  induction n with
  | zero => intro x12 x13 x14 x15 h16; rw [c_X10_song_L42]; exact z_none
  | succ n ih =>
    intro x12 x13 x14 x15 h16
    rw [c_X10_song_L42]
    refine z_iload (pc := 42) dX10_song_42 6 rfl (z_aload_n (pc := 44) dX10_song_44 rfl 0 rfl (z_getRl (pc := 45) fl_RX10_26 rfl dX10_song_45 (fun o20 => (z_iload_n (pc := 48) dX10_song_48 rfl 2 rfl (?_)))))
    refine z_nn (fun a21 ea21 => ?_)
    subst ea21
    refine z_iaload (pc := 49) dX10_song_49 (?_)
    refine z_icmp_gt (pc := 50) (tgt := 153) dX10_song_50 (by decide) ?_ ?_
    · exact z_sub [0, 1, 2, 3, 4] rfl (qk153 x12 x13 h16)
    · refine z_iload_n (pc := 53) dX10_song_53 rfl 3 rfl (?_)
      refine z_if_eq (pc := 54) (tgt := 153) dX10_song_54 (by decide) ?_ ?_
      · exact z_sub [0, 1, 2, 3, 4] rfl (qk153 x12 x13 h16)
      · refine z_iload (pc := 57) dX10_song_57 6 rfl (z_aload_n (pc := 59) dX10_song_59 rfl 0 rfl (z_getRl (pc := 60) fl_RX10_26 rfl dX10_song_60 (fun o22 => (z_iload_n (pc := 63) dX10_song_63 rfl 2 rfl (?_)))))
        refine z_nn (fun a23 ea23 => ?_)
        subst ea23
        refine z_iaload (pc := 64) dX10_song_64 (?_)
        refine z_jn (P := fun (j : Int32 → z_Hp → Option (Int32 × z_Hp)) => ∀ (x25 : Int32) (h26 : z_Hp), z_G zi mi_X10_song 85 [(0, vr (some a9)), (1, vi x10), (2, vi x11), (4, vi x13), (5, vi x14), (6, vi x15)] [vi x25] h26 (j x25 h26)) (fun x25 h26 => ?_) (fun j85_24 qj85_24 => ?_)
        · refine z_istore (pc := 85) (L' := [(0, vr (some a9)), (1, vi x10), (2, vi x11), (4, vi x13), (5, vi x14), (6, vi x15), (7, vi x25)]) dX10_song_85 (Nat.le_of_ble_eq_true rfl) rfl (z_iload (pc := 87) dX10_song_87 6 rfl (z_bipush (pc := 89) dX10_song_89 bp_47 (?_)))
          refine z_jn (P := fun (j : Int32 → Int32 → Int32 → z_Hp → Option (Int32 × z_Hp)) => ∀ (x28 : Int32) (x29 : Int32) (x30 : Int32) (h31 : z_Hp), z_G zi mi_X10_song 147 [(0, vr (some a9)), (1, vi x10), (2, vi x11), (3, vi x28), (4, vi x29), (5, vi x30), (6, vi x15)] [] h31 (j x28 x29 x30 h31)) (fun x28 x29 x30 h31 => ?_) (fun j147_27 qj147_27 => ?_)
          · refine z_iincl (pc := 147) (L' := fun x32 => [(0, vr (some a9)), (1, vi x10), (2, vi x11), (3, vi x28), (4, vi x29), (5, vi x30), (6, vi x32)]) dX10_song_147 6 rfl ic_1 (Nat.le_of_ble_eq_true rfl) (fun _ => rfl) (fun x32 => (z_goto (pc := 150) (tgt := 42) dX10_song_150 (by decide) (?_)))
            exact ih x28 x29 x30 x32 h31
          refine z_icmp_ne (pc := 91) (tgt := 106) dX10_song_91 (by decide) ?_ ?_
          · refine z_iload (pc := 106) dX10_song_106 6 rfl (z_bipush (pc := 108) dX10_song_108 bp_32 (?_))
            refine z_jn (P := fun (j : Int32 → z_Hp → Option (Int32 × z_Hp)) => ∀ (x34 : Int32) (h35 : z_Hp), z_G zi mi_X10_song 126 [(0, vr (some a9)), (1, vi x10), (2, vi x11), (4, vi x13), (5, vi x14), (6, vi x15), (7, vi x25)] [vi x34] h35 (j x34 h35)) (fun x34 h35 => ?_) (fun j126_33 qj126_33 => ?_)
            · refine z_istore_n (pc := 126) (L' := [(0, vr (some a9)), (1, vi x10), (2, vi x11), (3, vi x34), (4, vi x13), (5, vi x14), (6, vi x15), (7, vi x25)]) dX10_song_126 rfl (Nat.le_of_ble_eq_true rfl) rfl (z_iload (pc := 127) dX10_song_127 5 rfl (?_))
              refine z_jn (P := fun (j : Int32 → z_Hp → Option (Int32 × z_Hp)) => ∀ (x37 : Int32) (h38 : z_Hp), z_G zi mi_X10_song 145 [(0, vr (some a9)), (1, vi x10), (2, vi x11), (3, vi x34), (4, vi x13), (6, vi x15)] [vi x37] h38 (j x37 h38)) (fun x37 h38 => ?_) (fun j145_36 qj145_36 => ?_)
              · refine z_istore (pc := 145) (L' := [(0, vr (some a9)), (1, vi x10), (2, vi x11), (3, vi x34), (4, vi x13), (5, vi x37), (6, vi x15)]) dX10_song_145 (Nat.le_of_ble_eq_true rfl) rfl (?_)
                exact qj147_27 x34 x13 x37 h38
              refine z_jn (P := fun (j : z_Hp → Option (Int32 × z_Hp)) => ∀ (h40 : z_Hp), z_G zi mi_X10_song 140 [(0, vr (some a9)), (1, vi x10), (2, vi x11), (3, vi x34), (4, vi x13), (6, vi x15)] [] h40 (j h40)) (fun h40 => ?_) (fun j140_39 qj140_39 => ?_)
              · refine z_iconst (pc := 140) dX10_song_140 ic_1 (z_goto (pc := 141) (tgt := 145) dX10_song_141 (by decide) (?_))
                exact qj145_36 1 h40
              refine z_if_ne (pc := 129) (tgt := 140) dX10_song_129 (by decide) ?_ ?_
              · exact z_sub [0, 1, 2, 3, 4, 6] rfl (qj140_39 h35)
              · refine z_iload (pc := 132) dX10_song_132 7 rfl (z_callS_I (pc := 134) (avs := [vi x25]) (st := []) rfl (t_X10_isLetter F x25 h35) ky_X10_isLetter ws_X10_isLetter wz_RX10_197 (rm_X10_song_X10_isLetter) (Nat.le_of_ble_eq_true rfl) dX10_song_134 (fun x42 h41 => (?_)))
                refine z_if_eq (pc := 137) (tgt := 144) dX10_song_137 (by decide) ?_ ?_
                · refine z_iconst (pc := 144) dX10_song_144 ic_0 (?_)
                  exact z_sub [0, 1, 2, 3, 4, 6] rfl (qj145_36 0 h41)
                · exact z_sub [0, 1, 2, 3, 4, 6] rfl (qj140_39 h41)
            refine z_jn (P := fun (j : z_Hp → Option (Int32 × z_Hp)) => ∀ (h44 : z_Hp), z_G zi mi_X10_song 121 [(0, vr (some a9)), (1, vi x10), (2, vi x11), (4, vi x13), (5, vi x14), (6, vi x15), (7, vi x25)] [] h44 (j h44)) (fun h44 => ?_) (fun j121_43 qj121_43 => ?_)
            · refine z_iconst (pc := 121) dX10_song_121 ic_1 (z_goto (pc := 122) (tgt := 126) dX10_song_122 (by decide) (?_))
              exact qj126_33 1 h44
            refine z_icmp_eq (pc := 110) (tgt := 121) dX10_song_110 (by decide) ?_ ?_
            · exact qj121_43 h26
            · refine z_iload (pc := 113) dX10_song_113 6 rfl (z_callS_I (pc := 115) (avs := [vi x25]) (st := []) rfl (t_X10_isLetter F x25 h26) ky_X10_isLetter ws_X10_isLetter wz_RX10_197 (rm_X10_song_X10_isLetter) (Nat.le_of_ble_eq_true rfl) dX10_song_115 (fun x46 h45 => (?_)))
              refine z_if_eq (pc := 118) (tgt := 125) dX10_song_118 (by decide) ?_ ?_
              · refine z_iconst (pc := 125) dX10_song_125 ic_0 (?_)
                exact qj126_33 0 h45
              · exact qj121_43 h45
          · refine z_iload (pc := 94) dX10_song_94 4 rfl (z_istore_n (pc := 96) (L' := [(0, vr (some a9)), (1, vi x10), (2, vi x11), (3, vi x14), (4, vi x13), (5, vi x14), (6, vi x15), (7, vi x25)]) dX10_song_96 rfl (Nat.le_of_ble_eq_true rfl) rfl (z_iincl (pc := 97) (L' := fun x47 => [(0, vr (some a9)), (1, vi x10), (2, vi x11), (3, vi x14), (4, vi x47), (5, vi x14), (6, vi x15), (7, vi x25)]) dX10_song_97 4 rfl ic_1 (Nat.le_of_ble_eq_true rfl) (fun _ => rfl) (fun x47 => (z_iconst (pc := 100) dX10_song_100 ic_0 (z_istore (pc := 101) (L' := [(0, vr (some a9)), (1, vi x10), (2, vi x11), (3, vi x14), (4, vi x47), (5, vi 0), (6, vi x15), (7, vi x25)]) dX10_song_101 (Nat.le_of_ble_eq_true rfl) rfl (z_goto (pc := 103) (tgt := 147) dX10_song_103 (by decide) (?_)))))))
            exact z_sub [0, 1, 2, 3, 4, 5, 6] rfl (qj147_27 x14 x47 0 h26)
        refine z_icmp_ge (pc := 65) (tgt := 83) dX10_song_65 (by decide) ?_ ?_
        · refine z_bipush (pc := 83) dX10_song_83 bp_47 (?_)
          exact z_sub [0, 1, 2, 4, 5, 6] rfl (qj85_24 47 h16)
        · refine z_aload_n (pc := 68) dX10_song_68 rfl 0 rfl (z_getRl (pc := 69) fl_RX10_29 rfl dX10_song_69 (fun o48 => (z_bipush (pc := 72) dX10_song_72 bp_60 (z_iload_n (pc := 74) dX10_song_74 rfl 2 rfl (z_imul (pc := 75) dX10_song_75 (z_iload (pc := 76) dX10_song_76 6 rfl (z_iadd (pc := 78) dX10_song_78 (?_))))))))
          refine z_nn (fun a49 ea49 => ?_)
          subst ea49
          refine z_iaload (pc := 79) dX10_song_79 (z_goto (pc := 80) (tgt := 85) dX10_song_80 (by decide) (?_))
          exact z_sub [0, 1, 2, 4, 5, 6] rfl (qj85_24 (hI h16 a49 (ix ((60 * x11) + x15))) h16)
set_option maxRecDepth 20000 in
set_option maxHeartbeats 4000000 in
theorem g_X10_song_L185 (F : Nat) (a62 : Nat) (x63 : Int32) (x64 : Int32) (x65 : Int32) : ∀ (n : Nat) (x66 : Int32) (h67 : z_Hp), z_G zi mi_X10_song 185 [(0, vr (some a62)), (1, vi x63), (2, vi x64), (4, vi x65), (6, vi x66)] [] h67 (c_X10_song_L185 F a62 x63 x64 x65 n x66 h67) := by
  intro n
  induction n with
  | zero => intro x66 h67; rw [c_X10_song_L185]; exact z_none
  | succ n ih =>
    intro x66 h67
    rw [c_X10_song_L185]
    refine z_iload (pc := 185) dX10_song_185 4 rfl (z_aload_n (pc := 187) dX10_song_187 rfl 0 rfl (z_getRl (pc := 188) fl_RX10_26 rfl dX10_song_188 (fun o68 => (z_iload_n (pc := 191) dX10_song_191 rfl 2 rfl (?_)))))
    refine z_nn (fun a69 ea69 => ?_)
    subst ea69
    refine z_iaload (pc := 192) dX10_song_192 (?_)
    refine z_icmp_ge (pc := 193) (tgt := 226) dX10_song_193 (by decide) ?_ ?_
    · refine z_iload (pc := 226) dX10_song_226 3 rfl (?_)
      exact z_iret (pc := 228) dX10_song_228 rfl rfl
    · refine z_aload_n (pc := 196) dX10_song_196 rfl 0 rfl (z_getRl (pc := 197) fl_RX10_35 rfl dX10_song_197 (fun o70 => (z_bipush (pc := 200) dX10_song_200 bp_60 (z_iload_n (pc := 202) dX10_song_202 rfl 1 rfl (z_imul (pc := 203) dX10_song_203 (z_iload (pc := 204) dX10_song_204 4 rfl (z_iadd (pc := 206) dX10_song_206 (z_aload_n (pc := 207) dX10_song_207 rfl 0 rfl (?_)))))))))
      refine z_getRl (pc := 208) fl_RX10_29 rfl dX10_song_208 (fun o71 => (z_bipush (pc := 211) dX10_song_211 bp_60 (z_iload_n (pc := 213) dX10_song_213 rfl 2 rfl (z_imul (pc := 214) dX10_song_214 (z_iload (pc := 215) dX10_song_215 4 rfl (z_iadd (pc := 217) dX10_song_217 (?_)))))))
      refine z_nn (fun a72 ea72 => ?_)
      subst ea72
      refine z_iaload (pc := 218) dX10_song_218 (?_)
      refine z_nn (fun a73 ea73 => ?_)
      subst ea73
      refine z_iastorel (pc := 219) dX10_song_219 (fun h74 => (z_iincl (pc := 220) (L' := fun x75 => [(0, vr (some a62)), (1, vi x63), (2, vi x64), (4, vi x65), (6, vi x75)]) dX10_song_220 4 rfl ic_1 (Nat.le_of_ble_eq_true rfl) (fun _ => rfl) (fun x75 => (z_goto (pc := 223) (tgt := 185) dX10_song_223 (by decide) (?_)))))
      exact ih x75 h74
set_option maxRecDepth 20000 in
set_option maxHeartbeats 4000000 in
theorem t_X10_song (F : Nat) (a0 : Nat) (x1 : Int32) (x2 : Int32) (h0 : z_Hp) : z_Ct zi mi_X10_song [vr (some a0), vi x1, vi x2] h0 (c_X10_song F a0 x1 x2 h0) := by
  refine z_entry (by decide) (Nat.le_of_ble_eq_true rfl) [(0, vr (some a0)), (1, vi x1), (2, vi x2)] rfl ?_
  unfold c_X10_song
  refine z_iload_n (pc := 0) dX10_song_0 rfl 1 rfl (z_callS_I (pc := 1) (avs := [vi x1]) (st := []) rfl (t_X10_isSong F x1 h0) ky_X10_isSong ws_X10_isSong wz_RX10_194 (rm_X10_song_X10_isSong) (Nat.le_of_ble_eq_true rfl) dX10_song_1 (fun x4 h3 => (?_)))
  refine z_if_eq (pc := 4) (tgt := 14) dX10_song_4 (by decide) ?_ ?_
  · refine z_iconst (pc := 14) dX10_song_14 ic_m1 (?_)
    exact z_iret (pc := 15) dX10_song_15 rfl rfl
  · refine z_iload_n (pc := 7) dX10_song_7 rfl 2 rfl (z_callS_I (pc := 8) (avs := [vi x2]) (st := []) rfl (t_X10_isText F x2 h3) ky_X10_isText ws_X10_isText wz_RX10_178 (rm_X10_song_X10_isText) (Nat.le_of_ble_eq_true rfl) dX10_song_8 (fun x6 h5 => (?_)))
    refine z_if_ne (pc := 11) (tgt := 16) dX10_song_11 (by decide) ?_ ?_
    · refine z_aload_n (pc := 16) dX10_song_16 rfl 0 rfl (z_getRl (pc := 17) fl_RX10_26 rfl dX10_song_17 (fun o7 => (z_iload_n (pc := 20) dX10_song_20 rfl 2 rfl (?_))))
      refine z_nn (fun a8 ea8 => ?_)
      subst ea8
      refine z_iaload (pc := 21) dX10_song_21 (?_)
      refine z_if_ge (pc := 22) (tgt := 31) dX10_song_22 (by decide) ?_ ?_
      · refine z_iconst (pc := 31) dX10_song_31 ic_1 (z_istore_n (pc := 32) (L' := [(0, vr (some a0)), (1, vi x1), (2, vi x2), (3, vi 1)]) dX10_song_32 rfl (Nat.le_of_ble_eq_true rfl) rfl (z_iconst (pc := 33) dX10_song_33 ic_0 (z_istore (pc := 34) (L' := [(0, vr (some a0)), (1, vi x1), (2, vi x2), (3, vi 1), (4, vi 0)]) dX10_song_34 (Nat.le_of_ble_eq_true rfl) rfl (z_iconst (pc := 36) dX10_song_36 ic_0 (z_istore (pc := 37) (L' := [(0, vr (some a0)), (1, vi x1), (2, vi x2), (3, vi 1), (4, vi 0), (5, vi 0)]) dX10_song_37 (Nat.le_of_ble_eq_true rfl) rfl (z_iconst (pc := 39) dX10_song_39 ic_0 (z_istore (pc := 40) (L' := [(0, vr (some a0)), (1, vi x1), (2, vi x2), (3, vi 1), (4, vi 0), (5, vi 0), (6, vi 0)]) dX10_song_40 (Nat.le_of_ble_eq_true rfl) rfl (?_))))))))
        refine g_X10_song_L42 F a0 x1 x2 _ (fun x50 x51 h52 => ?_) F 1 0 0 0 h5
        refine z_iload_n (pc := 153) dX10_song_153 rfl 3 rfl (?_)
        refine z_jn (P := fun (j : z_Hp → Option (Int32 × z_Hp)) => ∀ (h54 : z_Hp), z_G zi mi_X10_song 164 [(0, vr (some a0))] [] h54 (j h54)) (fun h54 => ?_) (fun j164_53 qj164_53 => ?_)
        · refine z_aload_n (pc := 164) dX10_song_164 rfl 0 rfl (z_iconst (pc := 165) dX10_song_165 ic_3 (z_callV_I (pc := 166) (avs := [vi 3]) (st := []) rfl (q := (RX10, TX10, 62)) rfl rfl (t_X10_meets F a0 3 h54) ky_X10_meets wm_X10_meets we_X10_meets wz_RX10_174 (rm_X10_song_X10_meets) (Nat.le_of_ble_eq_true rfl) dX10_song_166 (fun x56 h55 => (?_))))
          exact z_iret (pc := 169) dX10_song_169 rfl rfl
        refine z_if_eq (pc := 154) (tgt := 164) dX10_song_154 (by decide) ?_ ?_
        · exact z_sub [0] rfl (qj164_53 h52)
        · refine z_iload (pc := 157) dX10_song_157 4 rfl (z_bipush (pc := 159) dX10_song_159 bp_8 (?_))
          refine z_icmp_le (pc := 161) (tgt := 170) dX10_song_161 (by decide) ?_ ?_
          · refine z_aload_n (pc := 170) dX10_song_170 rfl 0 rfl (z_getRl (pc := 171) fl_RX10_32 rfl dX10_song_171 (fun o57 => (z_iload_n (pc := 174) dX10_song_174 rfl 1 rfl (z_aload_n (pc := 175) dX10_song_175 rfl 0 rfl (z_getRl (pc := 176) fl_RX10_26 rfl dX10_song_176 (fun o58 => (z_iload_n (pc := 179) dX10_song_179 rfl 2 rfl (?_))))))))
            refine z_nn (fun a59 ea59 => ?_)
            subst ea59
            refine z_iaload (pc := 180) dX10_song_180 (?_)
            refine z_nn (fun a60 ea60 => ?_)
            subst ea60
            refine z_iastorel (pc := 181) dX10_song_181 (fun h61 => (z_iconst (pc := 182) dX10_song_182 ic_0 (z_istore (pc := 183) (L' := [(0, vr (some a0)), (1, vi x1), (2, vi x2), (3, vi x50), (4, vi x51), (6, vi 0)]) dX10_song_183 (Nat.le_of_ble_eq_true rfl) rfl (?_))))
            refine z_sub [0, 1, 2, 4, 5] rfl (g_X10_song_L185 F a0 x1 x2 x51 F 0 h61)
          · exact z_sub [0] rfl (qj164_53 h52)
      · refine z_aload_n (pc := 25) dX10_song_25 rfl 0 rfl (z_iconst (pc := 26) dX10_song_26 ic_1 (z_callV_I (pc := 27) (avs := [vi 1]) (st := []) rfl (q := (RX10, TX10, 62)) rfl rfl (t_X10_meets F a0 1 h5) ky_X10_meets wm_X10_meets we_X10_meets wz_RX10_174 (rm_X10_song_X10_meets) (Nat.le_of_ble_eq_true rfl) dX10_song_27 (fun x77 h76 => (?_))))
        exact z_iret (pc := 30) dX10_song_30 rfl rfl
    · refine z_iconst (pc := 14) dX10_song_14 ic_m1 (?_)
      exact z_iret (pc := 15) dX10_song_15 rfl rfl
theorem dX10_setWords_0 : decode cX10_setWords 0 = .ok (.aload_n 0, 1) := by decide +kernel
theorem dX10_setWords_1 : decode cX10_setWords 1 = .ok (.iconst 0, 1) := by decide +kernel
theorem dX10_setWords_2 : decode cX10_setWords 2 = .ok (.putfield 200, 3) := by decide +kernel
theorem dX10_setWords_5 : decode cX10_setWords 5 = .ok (.iconst 0, 1) := by decide +kernel
theorem dX10_setWords_6 : decode cX10_setWords 6 = .ok (.istore_n 2, 1) := by decide +kernel
theorem dX10_setWords_7 : decode cX10_setWords 7 = .ok (.iload_n 2, 1) := by decide +kernel
theorem dX10_setWords_8 : decode cX10_setWords 8 = .ok (.aload_n 0, 1) := by decide +kernel
theorem dX10_setWords_9 : decode cX10_setWords 9 = .ok (.getfield 32, 3) := by decide +kernel
theorem dX10_setWords_12 : decode cX10_setWords 12 = .ok (.iload_n 1, 1) := by decide +kernel
theorem dX10_setWords_13 : decode cX10_setWords 13 = .ok (.iaload, 1) := by decide +kernel
theorem dX10_setWords_14 : decode cX10_setWords 14 = .ok (.if_icmp .ge 114, 3) := by decide +kernel
theorem dX10_setWords_17 : decode cX10_setWords 17 = .ok (.aload_n 0, 1) := by decide +kernel
theorem dX10_setWords_18 : decode cX10_setWords 18 = .ok (.getfield 35, 3) := by decide +kernel
theorem dX10_setWords_21 : decode cX10_setWords 21 = .ok (.bipush 60, 2) := by decide +kernel
theorem dX10_setWords_23 : decode cX10_setWords 23 = .ok (.iload_n 1, 1) := by decide +kernel
theorem dX10_setWords_24 : decode cX10_setWords 24 = .ok (.imul, 1) := by decide +kernel
theorem dX10_setWords_25 : decode cX10_setWords 25 = .ok (.iload_n 2, 1) := by decide +kernel
theorem dX10_setWords_26 : decode cX10_setWords 26 = .ok (.iadd, 1) := by decide +kernel
theorem dX10_setWords_27 : decode cX10_setWords 27 = .ok (.iaload, 1) := by decide +kernel
theorem dX10_setWords_28 : decode cX10_setWords 28 = .ok (.istore_n 3, 1) := by decide +kernel
theorem dX10_setWords_29 : decode cX10_setWords 29 = .ok (.iload_n 2, 1) := by decide +kernel
theorem dX10_setWords_30 : decode cX10_setWords 30 = .ok (.istore 4, 2) := by decide +kernel
theorem dX10_setWords_32 : decode cX10_setWords 32 = .ok (.iload_n 2, 1) := by decide +kernel
theorem dX10_setWords_33 : decode cX10_setWords 33 = .ok (.aload_n 0, 1) := by decide +kernel
theorem dX10_setWords_34 : decode cX10_setWords 34 = .ok (.getfield 32, 3) := by decide +kernel
theorem dX10_setWords_37 : decode cX10_setWords 37 = .ok (.iload_n 1, 1) := by decide +kernel
theorem dX10_setWords_38 : decode cX10_setWords 38 = .ok (.iaload, 1) := by decide +kernel
theorem dX10_setWords_39 : decode cX10_setWords 39 = .ok (.if_icmp .ge 26, 3) := by decide +kernel
theorem dX10_setWords_42 : decode cX10_setWords 42 = .ok (.aload_n 0, 1) := by decide +kernel
theorem dX10_setWords_43 : decode cX10_setWords 43 = .ok (.getfield 35, 3) := by decide +kernel
theorem dX10_setWords_46 : decode cX10_setWords 46 = .ok (.bipush 60, 2) := by decide +kernel
theorem dX10_setWords_48 : decode cX10_setWords 48 = .ok (.iload_n 1, 1) := by decide +kernel
theorem dX10_setWords_49 : decode cX10_setWords 49 = .ok (.imul, 1) := by decide +kernel
theorem dX10_setWords_50 : decode cX10_setWords 50 = .ok (.iload_n 2, 1) := by decide +kernel
theorem dX10_setWords_51 : decode cX10_setWords 51 = .ok (.iadd, 1) := by decide +kernel
theorem dX10_setWords_52 : decode cX10_setWords 52 = .ok (.iaload, 1) := by decide +kernel
theorem dX10_setWords_53 : decode cX10_setWords 53 = .ok (.invokestatic 197, 3) := by decide +kernel
theorem dX10_setWords_56 : decode cX10_setWords 56 = .ok (.ifCond .eq 9, 3) := by decide +kernel
theorem dX10_setWords_59 : decode cX10_setWords 59 = .ok (.iinc 2 1, 3) := by decide +kernel
theorem dX10_setWords_62 : decode cX10_setWords 62 = .ok (.goto (-30), 3) := by decide +kernel
theorem dX10_setWords_65 : decode cX10_setWords 65 = .ok (.iload_n 2, 1) := by decide +kernel
theorem dX10_setWords_66 : decode cX10_setWords 66 = .ok (.iload 4, 2) := by decide +kernel
theorem dX10_setWords_68 : decode cX10_setWords 68 = .ok (.if_icmp .gt 9, 3) := by decide +kernel
theorem dX10_setWords_71 : decode cX10_setWords 71 = .ok (.iload_n 3, 1) := by decide +kernel
theorem dX10_setWords_72 : decode cX10_setWords 72 = .ok (.bipush 47, 2) := by decide +kernel
theorem dX10_setWords_74 : decode cX10_setWords 74 = .ok (.if_icmp .ne 37, 3) := by decide +kernel
theorem dX10_setWords_77 : decode cX10_setWords 77 = .ok (.aload_n 0, 1) := by decide +kernel
theorem dX10_setWords_78 : decode cX10_setWords 78 = .ok (.getfield 38, 3) := by decide +kernel
theorem dX10_setWords_81 : decode cX10_setWords 81 = .ok (.aload_n 0, 1) := by decide +kernel
theorem dX10_setWords_82 : decode cX10_setWords 82 = .ok (.getfield 200, 3) := by decide +kernel
theorem dX10_setWords_85 : decode cX10_setWords 85 = .ok (.iload 4, 2) := by decide +kernel
theorem dX10_setWords_87 : decode cX10_setWords 87 = .ok (.iastore, 1) := by decide +kernel
theorem dX10_setWords_88 : decode cX10_setWords 88 = .ok (.aload_n 0, 1) := by decide +kernel
theorem dX10_setWords_89 : decode cX10_setWords 89 = .ok (.getfield 41, 3) := by decide +kernel
theorem dX10_setWords_92 : decode cX10_setWords 92 = .ok (.aload_n 0, 1) := by decide +kernel
theorem dX10_setWords_93 : decode cX10_setWords 93 = .ok (.getfield 200, 3) := by decide +kernel
theorem dX10_setWords_96 : decode cX10_setWords 96 = .ok (.iload_n 2, 1) := by decide +kernel
theorem dX10_setWords_97 : decode cX10_setWords 97 = .ok (.iload 4, 2) := by decide +kernel
theorem dX10_setWords_99 : decode cX10_setWords 99 = .ok (.isub, 1) := by decide +kernel
theorem dX10_setWords_100 : decode cX10_setWords 100 = .ok (.iastore, 1) := by decide +kernel
theorem dX10_setWords_101 : decode cX10_setWords 101 = .ok (.aload_n 0, 1) := by decide +kernel
theorem dX10_setWords_102 : decode cX10_setWords 102 = .ok (.dup, 1) := by decide +kernel
theorem dX10_setWords_103 : decode cX10_setWords 103 = .ok (.getfield 200, 3) := by decide +kernel
theorem dX10_setWords_106 : decode cX10_setWords 106 = .ok (.iconst 1, 1) := by decide +kernel
theorem dX10_setWords_107 : decode cX10_setWords 107 = .ok (.iadd, 1) := by decide +kernel
theorem dX10_setWords_108 : decode cX10_setWords 108 = .ok (.putfield 200, 3) := by decide +kernel
theorem dX10_setWords_111 : decode cX10_setWords 111 = .ok (.iload_n 2, 1) := by decide +kernel
theorem dX10_setWords_112 : decode cX10_setWords 112 = .ok (.iload_n 2, 1) := by decide +kernel
theorem dX10_setWords_113 : decode cX10_setWords 113 = .ok (.iload 4, 2) := by decide +kernel
theorem dX10_setWords_115 : decode cX10_setWords 115 = .ok (.if_icmp .ne 7, 3) := by decide +kernel
theorem dX10_setWords_118 : decode cX10_setWords 118 = .ok (.iconst 1, 1) := by decide +kernel
theorem dX10_setWords_119 : decode cX10_setWords 119 = .ok (.goto 4, 3) := by decide +kernel
theorem dX10_setWords_122 : decode cX10_setWords 122 = .ok (.iconst 0, 1) := by decide +kernel
theorem dX10_setWords_123 : decode cX10_setWords 123 = .ok (.iadd, 1) := by decide +kernel
theorem dX10_setWords_124 : decode cX10_setWords 124 = .ok (.istore_n 2, 1) := by decide +kernel
theorem dX10_setWords_125 : decode cX10_setWords 125 = .ok (.goto (-118), 3) := by decide +kernel
theorem dX10_setWords_128 : decode cX10_setWords 128 = .ok (.return_, 1) := by decide +kernel
def c_X10_setWords_L32 (F : Nat) (a12 : Nat) (x13 : Int32) (x14 : Int32) (x15 : Int32) (k65 : Int32 → z_Hp → Option (z_Hp)) : Nat → Int32 → z_Hp → Option (z_Hp)
  | 0, _, _ => none
  | n + 1, x16, h17 => (if hT h17 a12 = 10 then (lt_ (hR h17 a12 12) (fun o20 => (nn o20 (fun a21 => (if okA h17 a21 20 x13 = true then (if (hI h17 a21 (ix x13)) ≤ x16 then (k65 x16 h17) else (if hT h17 a12 = 10 then (lt_ (hR h17 a12 13) (fun o22 => (nn o22 (fun a23 => (if okA h17 a23 20 ((60 * x13) + x16) = true then (bI (c_X10_isLetter F (hI h17 a23 (ix ((60 * x13) + x16))) h17) (fun x25 h24 => (if x25 = 0 then (k65 x16 h24) else (lt_ (x16 + 1) (fun x26 => (c_X10_setWords_L32 F a12 x13 x14 x15 k65 n x26 h24)))))) else none))))) else none)) else none))))) else none)
def c_X10_setWords_L7 (F : Nat) (a3 : Nat) (x4 : Int32) : Nat → Int32 → z_Hp → Option (z_Hp)
  | 0, _, _ => none
  | n + 1, x5, h6 => (if hT h6 a3 = 10 then (lt_ (hR h6 a3 12) (fun o7 => (nn o7 (fun a8 => (if okA h6 a8 20 x4 = true then (if (hI h6 a8 (ix x4)) ≤ x5 then (some h6) else (if hT h6 a3 = 10 then (lt_ (hR h6 a3 13) (fun o9 => (nn o9 (fun a10 => (if okA h6 a10 20 ((60 * x4) + x5) = true then (lt_ (hI h6 a10 (ix ((60 * x4) + x5))) (fun x11 => (c_X10_setWords_L32 F a3 x4 x11 x5 (fun x27 h28 => (lt_ (fun (h30 : z_Hp) => (lt_ (fun (x32 : Int32) (h33 : z_Hp) => (lt_ (x27 + x32) (fun x34 => (c_X10_setWords_L7 F a3 x4 n x34 h33)))) (fun (j123_31 : Int32 → z_Hp → Option (z_Hp)) => (if x27 = x5 then (j123_31 1 h30) else (j123_31 0 h30))))) (fun (j111_29 : z_Hp → Option (z_Hp)) => (lt_ (fun (h36 : z_Hp) => (if hT h36 a3 = 10 then (lt_ (hR h36 a3 15) (fun o37 => (if hT h36 a3 = 10 then (nn o37 (fun a38 => (if okA h36 a38 20 (hI h36 a3 14) = true then (lt_ (sI h36 a38 (ix (hI h36 a3 14)) x5) (fun h39 => (if hT h39 a3 = 10 then (lt_ (hR h39 a3 16) (fun o40 => (if hT h39 a3 = 10 then (nn o40 (fun a41 => (if okA h39 a41 20 (hI h39 a3 14) = true then (lt_ (sI h39 a41 (ix (hI h39 a3 14)) (x27 - x5)) (fun h42 => (if hT h42 a3 = 10 then (if hT h42 a3 = 10 then (lt_ (sI h42 a3 14 ((hI h42 a3 14) + 1)) (fun h43 => (j111_29 h43))) else none) else none))) else none))) else none))) else none))) else none))) else none))) else none)) (fun (j77_35 : z_Hp → Option (z_Hp)) => (if x5 < x27 then (j77_35 h28) else (if x11 = 47 then (j77_35 h28) else (j111_29 h28)))))))) F x5 h6))) else none))))) else none)) else none))))) else none)
def c_X10_setWords (F : Nat) (a0 : Nat) (x1 : Int32) (h0 : z_Hp) : Option (z_Hp) := (if hT h0 a0 = 10 then (lt_ (sI h0 a0 14 0) (fun h2 => (c_X10_setWords_L7 F a0 x1 F 0 h2))) else none)
set_option maxRecDepth 20000 in
set_option maxHeartbeats 4000000 in
theorem g_X10_setWords_L32 (F : Nat) (a12 : Nat) (x13 : Int32) (x14 : Int32) (x15 : Int32) (k65 : Int32 → z_Hp → Option (z_Hp)) (qk65 : ∀ (x18 : Int32) (h19 : z_Hp), z_G zv mi_X10_setWords 65 [(0, vr (some a12)), (1, vi x13), (2, vi x18), (3, vi x14), (4, vi x15)] [] h19 (k65 x18 h19)) : ∀ (n : Nat) (x16 : Int32) (h17 : z_Hp), z_G zv mi_X10_setWords 32 [(0, vr (some a12)), (1, vi x13), (2, vi x16), (3, vi x14), (4, vi x15)] [] h17 (c_X10_setWords_L32 F a12 x13 x14 x15 k65 n x16 h17) := by
  intro n
  induction n with
  | zero => intro x16 h17; rw [c_X10_setWords_L32]; exact z_none
  | succ n ih =>
    intro x16 h17
    rw [c_X10_setWords_L32]
    refine z_iload_n (pc := 32) dX10_setWords_32 rfl 2 rfl (z_aload_n (pc := 33) dX10_setWords_33 rfl 0 rfl (z_getRl (pc := 34) fl_RX10_32 rfl dX10_setWords_34 (fun o20 => (z_iload_n (pc := 37) dX10_setWords_37 rfl 1 rfl (?_)))))
    refine z_nn (fun a21 ea21 => ?_)
    subst ea21
    refine z_iaload (pc := 38) dX10_setWords_38 (?_)
    refine z_icmp_ge (pc := 39) (tgt := 65) dX10_setWords_39 (by decide) ?_ ?_
    · exact qk65 x16 h17
    · refine z_aload_n (pc := 42) dX10_setWords_42 rfl 0 rfl (z_getRl (pc := 43) fl_RX10_35 rfl dX10_setWords_43 (fun o22 => (z_bipush (pc := 46) dX10_setWords_46 bp_60 (z_iload_n (pc := 48) dX10_setWords_48 rfl 1 rfl (z_imul (pc := 49) dX10_setWords_49 (z_iload_n (pc := 50) dX10_setWords_50 rfl 2 rfl (z_iadd (pc := 51) dX10_setWords_51 (?_))))))))
      refine z_nn (fun a23 ea23 => ?_)
      subst ea23
      refine z_iaload (pc := 52) dX10_setWords_52 (z_callS_I (pc := 53) (avs := [vi (hI h17 a23 (ix ((60 * x13) + x16)))]) (st := []) rfl (t_X10_isLetter F (hI h17 a23 (ix ((60 * x13) + x16))) h17) ky_X10_isLetter ws_X10_isLetter wz_RX10_197 (rm_X10_setWords_X10_isLetter) (Nat.le_of_ble_eq_true rfl) dX10_setWords_53 (fun x25 h24 => (?_)))
      refine z_if_eq (pc := 56) (tgt := 65) dX10_setWords_56 (by decide) ?_ ?_
      · exact qk65 x16 h24
      · refine z_iincl (pc := 59) (L' := fun x26 => [(0, vr (some a12)), (1, vi x13), (2, vi x26), (3, vi x14), (4, vi x15)]) dX10_setWords_59 2 rfl ic_1 (Nat.le_of_ble_eq_true rfl) (fun _ => rfl) (fun x26 => (z_goto (pc := 62) (tgt := 32) dX10_setWords_62 (by decide) (?_)))
        exact ih x26 h24
set_option maxRecDepth 20000 in
set_option maxHeartbeats 4000000 in
theorem g_X10_setWords_L7 (F : Nat) (a3 : Nat) (x4 : Int32) : ∀ (n : Nat) (x5 : Int32) (h6 : z_Hp), z_G zv mi_X10_setWords 7 [(0, vr (some a3)), (1, vi x4), (2, vi x5)] [] h6 (c_X10_setWords_L7 F a3 x4 n x5 h6) := by
  intro n
  induction n with
  | zero => intro x5 h6; rw [c_X10_setWords_L7]; exact z_none
  | succ n ih =>
    intro x5 h6
    rw [c_X10_setWords_L7]
    refine z_iload_n (pc := 7) dX10_setWords_7 rfl 2 rfl (z_aload_n (pc := 8) dX10_setWords_8 rfl 0 rfl (z_getRl (pc := 9) fl_RX10_32 rfl dX10_setWords_9 (fun o7 => (z_iload_n (pc := 12) dX10_setWords_12 rfl 1 rfl (?_)))))
    refine z_nn (fun a8 ea8 => ?_)
    subst ea8
    refine z_iaload (pc := 13) dX10_setWords_13 (?_)
    refine z_icmp_ge (pc := 14) (tgt := 128) dX10_setWords_14 (by decide) ?_ ?_
    · exact z_vret (pc := 128) dX10_setWords_128 rfl
    · refine z_aload_n (pc := 17) dX10_setWords_17 rfl 0 rfl (z_getRl (pc := 18) fl_RX10_35 rfl dX10_setWords_18 (fun o9 => (z_bipush (pc := 21) dX10_setWords_21 bp_60 (z_iload_n (pc := 23) dX10_setWords_23 rfl 1 rfl (z_imul (pc := 24) dX10_setWords_24 (z_iload_n (pc := 25) dX10_setWords_25 rfl 2 rfl (z_iadd (pc := 26) dX10_setWords_26 (?_))))))))
      refine z_nn (fun a10 ea10 => ?_)
      subst ea10
      refine z_iaload (pc := 27) dX10_setWords_27 (z_istorel_n (pc := 28) (L' := fun x11 => [(0, vr (some a3)), (1, vi x4), (2, vi x5), (3, vi x11)]) dX10_setWords_28 rfl (Nat.le_of_ble_eq_true rfl) (fun _ => rfl) (fun x11 => (z_iload_n (pc := 29) dX10_setWords_29 rfl 2 rfl (z_istore (pc := 30) (L' := [(0, vr (some a3)), (1, vi x4), (2, vi x5), (3, vi x11), (4, vi x5)]) dX10_setWords_30 (Nat.le_of_ble_eq_true rfl) rfl (?_)))))
      refine g_X10_setWords_L32 F a3 x4 x11 x5 _ (fun x27 h28 => ?_) F x5 h6
      refine z_iload_n (pc := 65) dX10_setWords_65 rfl 2 rfl (z_iload (pc := 66) dX10_setWords_66 4 rfl (?_))
      refine z_jn (P := fun (j : z_Hp → Option (z_Hp)) => ∀ (h30 : z_Hp), z_G zv mi_X10_setWords 111 [(0, vr (some a3)), (1, vi x4), (2, vi x27), (4, vi x5)] [] h30 (j h30)) (fun h30 => ?_) (fun j111_29 qj111_29 => ?_)
      · refine z_iload_n (pc := 111) dX10_setWords_111 rfl 2 rfl (z_iload_n (pc := 112) dX10_setWords_112 rfl 2 rfl (z_iload (pc := 113) dX10_setWords_113 3 rfl (?_)))
        refine z_jn (P := fun (j : Int32 → z_Hp → Option (z_Hp)) => ∀ (x32 : Int32) (h33 : z_Hp), z_G zv mi_X10_setWords 123 [(0, vr (some a3)), (1, vi x4)] [vi x32, vi x27] h33 (j x32 h33)) (fun x32 h33 => ?_) (fun j123_31 qj123_31 => ?_)
        · refine z_iadd (pc := 123) dX10_setWords_123 (z_istorel_n (pc := 124) (L' := fun x34 => [(0, vr (some a3)), (1, vi x4), (2, vi x34)]) dX10_setWords_124 rfl (Nat.le_of_ble_eq_true rfl) (fun _ => rfl) (fun x34 => (z_goto (pc := 125) (tgt := 7) dX10_setWords_125 (by decide) (?_))))
          exact ih x34 h33
        refine z_icmp_ne (pc := 115) (tgt := 122) dX10_setWords_115 (by decide) ?_ ?_
        · refine z_iconst (pc := 122) dX10_setWords_122 ic_0 (?_)
          exact z_sub [0, 1] rfl (qj123_31 0 h30)
        · refine z_iconst (pc := 118) dX10_setWords_118 ic_1 (z_goto (pc := 119) (tgt := 123) dX10_setWords_119 (by decide) (?_))
          exact z_sub [0, 1] rfl (qj123_31 1 h30)
      refine z_jn (P := fun (j : z_Hp → Option (z_Hp)) => ∀ (h36 : z_Hp), z_G zv mi_X10_setWords 77 [(0, vr (some a3)), (1, vi x4), (2, vi x27), (4, vi x5)] [] h36 (j h36)) (fun h36 => ?_) (fun j77_35 qj77_35 => ?_)
      · refine z_aload_n (pc := 77) dX10_setWords_77 rfl 0 rfl (z_getRl (pc := 78) fl_RX10_38 rfl dX10_setWords_78 (fun o37 => (z_aload_n (pc := 81) dX10_setWords_81 rfl 0 rfl (z_getI (pc := 82) fl_RX10_200 rfl dX10_setWords_82 (z_iload (pc := 85) dX10_setWords_85 3 rfl (?_))))))
        refine z_nn (fun a38 ea38 => ?_)
        subst ea38
        refine z_iastorel (pc := 87) dX10_setWords_87 (fun h39 => (z_aload_n (pc := 88) dX10_setWords_88 rfl 0 rfl (z_getRl (pc := 89) fl_RX10_41 rfl dX10_setWords_89 (fun o40 => (z_aload_n (pc := 92) dX10_setWords_92 rfl 0 rfl (z_getI (pc := 93) fl_RX10_200 rfl dX10_setWords_93 (z_iload_n (pc := 96) dX10_setWords_96 rfl 2 rfl (z_iload (pc := 97) dX10_setWords_97 3 rfl (z_isub (pc := 99) dX10_setWords_99 (?_))))))))))
        refine z_nn (fun a41 ea41 => ?_)
        subst ea41
        refine z_iastorel (pc := 100) dX10_setWords_100 (fun h42 => (z_aload_n (pc := 101) dX10_setWords_101 rfl 0 rfl (z_dup (pc := 102) dX10_setWords_102 rfl (z_getI (pc := 103) fl_RX10_200 rfl dX10_setWords_103 (z_iconst (pc := 106) dX10_setWords_106 ic_1 (z_iadd (pc := 107) dX10_setWords_107 (z_putIl (pc := 108) fl_RX10_200 (fin_X_10_14 _) rfl dX10_setWords_108 (fun h43 => (?_)))))))))
        exact qj111_29 h43
      refine z_icmp_gt (pc := 68) (tgt := 77) dX10_setWords_68 (by decide) ?_ ?_
      · exact z_sub [0, 1, 2, 4] rfl (qj77_35 h28)
      · refine z_iload_n (pc := 71) dX10_setWords_71 rfl 3 rfl (z_bipush (pc := 72) dX10_setWords_72 bp_47 (?_))
        refine z_icmp_ne (pc := 74) (tgt := 111) dX10_setWords_74 (by decide) ?_ ?_
        · exact z_sub [0, 1, 2, 4] rfl (qj111_29 h28)
        · exact z_sub [0, 1, 2, 4] rfl (qj77_35 h28)
set_option maxRecDepth 20000 in
set_option maxHeartbeats 4000000 in
theorem t_X10_setWords (F : Nat) (a0 : Nat) (x1 : Int32) (h0 : z_Hp) : z_Ct zv mi_X10_setWords [vr (some a0), vi x1] h0 (c_X10_setWords F a0 x1 h0) := by
  refine z_entry (by decide) (Nat.le_of_ble_eq_true rfl) [(0, vr (some a0)), (1, vi x1)] rfl ?_
  unfold c_X10_setWords
  refine z_aload_n (pc := 0) dX10_setWords_0 rfl 0 rfl (z_iconst (pc := 1) dX10_setWords_1 ic_0 (z_putIl (pc := 2) fl_RX10_200 (fin_X_10_14 _) rfl dX10_setWords_2 (fun h2 => (z_iconst (pc := 5) dX10_setWords_5 ic_0 (z_istore_n (pc := 6) (L' := [(0, vr (some a0)), (1, vi x1), (2, vi 0)]) dX10_setWords_6 rfl (Nat.le_of_ble_eq_true rfl) rfl (?_))))))
  refine g_X10_setWords_L7 F a0 x1 F 0 h2
theorem dX10_linesOf_0 : decode cX10_linesOf 0 = .ok (.aload_n 0, 1) := by decide +kernel
theorem dX10_linesOf_1 : decode cX10_linesOf 1 = .ok (.iload_n 1, 1) := by decide +kernel
theorem dX10_linesOf_2 : decode cX10_linesOf 2 = .ok (.invokevirtual 203, 3) := by decide +kernel
theorem dX10_linesOf_5 : decode cX10_linesOf 5 = .ok (.iconst 1, 1) := by decide +kernel
theorem dX10_linesOf_6 : decode cX10_linesOf 6 = .ok (.istore_n 2, 1) := by decide +kernel
theorem dX10_linesOf_7 : decode cX10_linesOf 7 = .ok (.iconst 0, 1) := by decide +kernel
theorem dX10_linesOf_8 : decode cX10_linesOf 8 = .ok (.istore_n 3, 1) := by decide +kernel
theorem dX10_linesOf_9 : decode cX10_linesOf 9 = .ok (.iload_n 3, 1) := by decide +kernel
theorem dX10_linesOf_10 : decode cX10_linesOf 10 = .ok (.aload_n 0, 1) := by decide +kernel
theorem dX10_linesOf_11 : decode cX10_linesOf 11 = .ok (.getfield 200, 3) := by decide +kernel
theorem dX10_linesOf_14 : decode cX10_linesOf 14 = .ok (.if_icmp .ge 26, 3) := by decide +kernel
theorem dX10_linesOf_17 : decode cX10_linesOf 17 = .ok (.iload_n 2, 1) := by decide +kernel
theorem dX10_linesOf_18 : decode cX10_linesOf 18 = .ok (.aload_n 0, 1) := by decide +kernel
theorem dX10_linesOf_19 : decode cX10_linesOf 19 = .ok (.getfield 41, 3) := by decide +kernel
theorem dX10_linesOf_22 : decode cX10_linesOf 22 = .ok (.iload_n 3, 1) := by decide +kernel
theorem dX10_linesOf_23 : decode cX10_linesOf 23 = .ok (.iaload, 1) := by decide +kernel
theorem dX10_linesOf_24 : decode cX10_linesOf 24 = .ok (.ifCond .ne 7, 3) := by decide +kernel
theorem dX10_linesOf_27 : decode cX10_linesOf 27 = .ok (.iconst 1, 1) := by decide +kernel
theorem dX10_linesOf_28 : decode cX10_linesOf 28 = .ok (.goto 4, 3) := by decide +kernel
theorem dX10_linesOf_31 : decode cX10_linesOf 31 = .ok (.iconst 0, 1) := by decide +kernel
theorem dX10_linesOf_32 : decode cX10_linesOf 32 = .ok (.iadd, 1) := by decide +kernel
theorem dX10_linesOf_33 : decode cX10_linesOf 33 = .ok (.istore_n 2, 1) := by decide +kernel
theorem dX10_linesOf_34 : decode cX10_linesOf 34 = .ok (.iinc 3 1, 3) := by decide +kernel
theorem dX10_linesOf_37 : decode cX10_linesOf 37 = .ok (.goto (-28), 3) := by decide +kernel
theorem dX10_linesOf_40 : decode cX10_linesOf 40 = .ok (.iload_n 2, 1) := by decide +kernel
theorem dX10_linesOf_41 : decode cX10_linesOf 41 = .ok (.ireturn, 1) := by decide +kernel
def c_X10_linesOf_L9 (F : Nat) (a3 : Nat) : Nat → Int32 → Int32 → z_Hp → Option (Int32 × z_Hp)
  | 0, _, _, _ => none
  | n + 1, x4, x5, h6 => (if hT h6 a3 = 10 then (if (hI h6 a3 14) ≤ x5 then (some (x4, h6)) else (if hT h6 a3 = 10 then (lt_ (hR h6 a3 16) (fun o7 => (nn o7 (fun a8 => (if okA h6 a8 20 x5 = true then (lt_ (fun (x10 : Int32) (h11 : z_Hp) => (lt_ (x4 + x10) (fun x12 => (lt_ (x5 + 1) (fun x13 => (c_X10_linesOf_L9 F a3 n x12 x13 h11)))))) (fun (j32_9 : Int32 → z_Hp → Option (Int32 × z_Hp)) => (if (hI h6 a8 (ix x5)) = 0 then (j32_9 1 h6) else (j32_9 0 h6)))) else none))))) else none)) else none)
def c_X10_linesOf (F : Nat) (a0 : Nat) (x1 : Int32) (h0 : z_Hp) : Option (Int32 × z_Hp) := (if hT h0 a0 = 10 then (bV (c_X10_setWords F a0 x1 h0) (fun h2 => (c_X10_linesOf_L9 F a0 F 1 0 h2))) else none)
set_option maxRecDepth 20000 in
set_option maxHeartbeats 4000000 in
theorem g_X10_linesOf_L9 (F : Nat) (a3 : Nat) : ∀ (n : Nat) (x4 : Int32) (x5 : Int32) (h6 : z_Hp), z_G zi mi_X10_linesOf 9 [(0, vr (some a3)), (2, vi x4), (3, vi x5)] [] h6 (c_X10_linesOf_L9 F a3 n x4 x5 h6) := by
  intro n
  induction n with
  | zero => intro x4 x5 h6; rw [c_X10_linesOf_L9]; exact z_none
  | succ n ih =>
    intro x4 x5 h6
    rw [c_X10_linesOf_L9]
    refine z_iload_n (pc := 9) dX10_linesOf_9 rfl 2 rfl (z_aload_n (pc := 10) dX10_linesOf_10 rfl 0 rfl (z_getI (pc := 11) fl_RX10_200 rfl dX10_linesOf_11 (?_)))
    refine z_icmp_ge (pc := 14) (tgt := 40) dX10_linesOf_14 (by decide) ?_ ?_
    · refine z_iload_n (pc := 40) dX10_linesOf_40 rfl 1 rfl (?_)
      exact z_iret (pc := 41) dX10_linesOf_41 rfl rfl
    · refine z_iload_n (pc := 17) dX10_linesOf_17 rfl 1 rfl (z_aload_n (pc := 18) dX10_linesOf_18 rfl 0 rfl (z_getRl (pc := 19) fl_RX10_41 rfl dX10_linesOf_19 (fun o7 => (z_iload_n (pc := 22) dX10_linesOf_22 rfl 2 rfl (?_)))))
      refine z_nn (fun a8 ea8 => ?_)
      subst ea8
      refine z_iaload (pc := 23) dX10_linesOf_23 (?_)
      refine z_jn (P := fun (j : Int32 → z_Hp → Option (Int32 × z_Hp)) => ∀ (x10 : Int32) (h11 : z_Hp), z_G zi mi_X10_linesOf 32 [(0, vr (some a3)), (3, vi x5)] [vi x10, vi x4] h11 (j x10 h11)) (fun x10 h11 => ?_) (fun j32_9 qj32_9 => ?_)
      · refine z_iadd (pc := 32) dX10_linesOf_32 (z_istorel_n (pc := 33) (L' := fun x12 => [(0, vr (some a3)), (2, vi x12), (3, vi x5)]) dX10_linesOf_33 rfl (Nat.le_of_ble_eq_true rfl) (fun _ => rfl) (fun x12 => (z_iincl (pc := 34) (L' := fun x13 => [(0, vr (some a3)), (2, vi x12), (3, vi x13)]) dX10_linesOf_34 2 rfl ic_1 (Nat.le_of_ble_eq_true rfl) (fun _ => rfl) (fun x13 => (z_goto (pc := 37) (tgt := 9) dX10_linesOf_37 (by decide) (?_))))))
        exact ih x12 x13 h11
      refine z_if_ne (pc := 24) (tgt := 31) dX10_linesOf_24 (by decide) ?_ ?_
      · refine z_iconst (pc := 31) dX10_linesOf_31 ic_0 (?_)
        exact z_sub [0, 2] rfl (qj32_9 0 h6)
      · refine z_iconst (pc := 27) dX10_linesOf_27 ic_1 (z_goto (pc := 28) (tgt := 32) dX10_linesOf_28 (by decide) (?_))
        exact z_sub [0, 2] rfl (qj32_9 1 h6)
set_option maxRecDepth 20000 in
set_option maxHeartbeats 4000000 in
theorem t_X10_linesOf (F : Nat) (a0 : Nat) (x1 : Int32) (h0 : z_Hp) : z_Ct zi mi_X10_linesOf [vr (some a0), vi x1] h0 (c_X10_linesOf F a0 x1 h0) := by
  refine z_entry (by decide) (Nat.le_of_ble_eq_true rfl) [(0, vr (some a0)), (1, vi x1)] rfl ?_
  unfold c_X10_linesOf
  refine z_aload_n (pc := 0) dX10_linesOf_0 rfl 0 rfl (z_iload_n (pc := 1) dX10_linesOf_1 rfl 1 rfl (z_callV_V (pc := 2) (avs := [vi x1]) (st := []) rfl (q := (RX10, TX10, 62)) rfl rfl (t_X10_setWords F a0 x1 h0) ky_X10_setWords wm_X10_setWords we_X10_setWords wz_RX10_203 (rm_X10_linesOf_X10_setWords) (Nat.le_of_ble_eq_true rfl) dX10_linesOf_2 (fun h2 => (?_))))
  refine z_iconst (pc := 5) dX10_linesOf_5 ic_1 (z_istore_n (pc := 6) (L' := [(0, vr (some a0)), (1, vi x1), (2, vi 1)]) dX10_linesOf_6 rfl (Nat.le_of_ble_eq_true rfl) rfl (z_iconst (pc := 7) dX10_linesOf_7 ic_0 (z_istore_n (pc := 8) (L' := [(0, vr (some a0)), (1, vi x1), (2, vi 1), (3, vi 0)]) dX10_linesOf_8 rfl (Nat.le_of_ble_eq_true rfl) rfl (?_))))
  refine z_sub [0, 2, 3] rfl (g_X10_linesOf_L9 F a0 F 1 0 h2)
theorem dX10_songTold_0 : decode cX10_songTold 0 = .ok (.iload_n 2, 1) := by decide +kernel
theorem dX10_songTold_1 : decode cX10_songTold 1 = .ok (.iconst 0, 1) := by decide +kernel
theorem dX10_songTold_2 : decode cX10_songTold 2 = .ok (.iconst 2, 1) := by decide +kernel
theorem dX10_songTold_3 : decode cX10_songTold 3 = .ok (.invokestatic 166, 3) := by decide +kernel
theorem dX10_songTold_6 : decode cX10_songTold 6 = .ok (.ifCond .ne 5, 3) := by decide +kernel
theorem dX10_songTold_9 : decode cX10_songTold 9 = .ok (.iconst (-1), 1) := by decide +kernel
theorem dX10_songTold_10 : decode cX10_songTold 10 = .ok (.ireturn, 1) := by decide +kernel
theorem dX10_songTold_11 : decode cX10_songTold 11 = .ok (.aload_n 0, 1) := by decide +kernel
theorem dX10_songTold_12 : decode cX10_songTold 12 = .ok (.iload_n 1, 1) := by decide +kernel
theorem dX10_songTold_13 : decode cX10_songTold 13 = .ok (.invokevirtual 207, 3) := by decide +kernel
theorem dX10_songTold_16 : decode cX10_songTold 16 = .ok (.istore_n 3, 1) := by decide +kernel
theorem dX10_songTold_17 : decode cX10_songTold 17 = .ok (.iload_n 3, 1) := by decide +kernel
theorem dX10_songTold_18 : decode cX10_songTold 18 = .ok (.ifCond .ge 5, 3) := by decide +kernel
theorem dX10_songTold_21 : decode cX10_songTold 21 = .ok (.iload_n 3, 1) := by decide +kernel
theorem dX10_songTold_22 : decode cX10_songTold 22 = .ok (.ireturn, 1) := by decide +kernel
theorem dX10_songTold_23 : decode cX10_songTold 23 = .ok (.aload_n 0, 1) := by decide +kernel
theorem dX10_songTold_24 : decode cX10_songTold 24 = .ok (.iload_n 1, 1) := by decide +kernel
theorem dX10_songTold_25 : decode cX10_songTold 25 = .ok (.invokevirtual 210, 3) := by decide +kernel
theorem dX10_songTold_28 : decode cX10_songTold 28 = .ok (.istore 4, 2) := by decide +kernel
theorem dX10_songTold_30 : decode cX10_songTold 30 = .ok (.iconst 0, 1) := by decide +kernel
theorem dX10_songTold_31 : decode cX10_songTold 31 = .ok (.istore 5, 2) := by decide +kernel
theorem dX10_songTold_33 : decode cX10_songTold 33 = .ok (.iconst 0, 1) := by decide +kernel
theorem dX10_songTold_34 : decode cX10_songTold 34 = .ok (.istore 6, 2) := by decide +kernel
theorem dX10_songTold_36 : decode cX10_songTold 36 = .ok (.iload 6, 2) := by decide +kernel
theorem dX10_songTold_38 : decode cX10_songTold 38 = .ok (.aload_n 0, 1) := by decide +kernel
theorem dX10_songTold_39 : decode cX10_songTold 39 = .ok (.getfield 200, 3) := by decide +kernel
theorem dX10_songTold_42 : decode cX10_songTold 42 = .ok (.if_icmp .ge 21, 3) := by decide +kernel
theorem dX10_songTold_45 : decode cX10_songTold 45 = .ok (.iload 5, 2) := by decide +kernel
theorem dX10_songTold_47 : decode cX10_songTold 47 = .ok (.aload_n 0, 1) := by decide +kernel
theorem dX10_songTold_48 : decode cX10_songTold 48 = .ok (.getfield 41, 3) := by decide +kernel
theorem dX10_songTold_51 : decode cX10_songTold 51 = .ok (.iload 6, 2) := by decide +kernel
theorem dX10_songTold_53 : decode cX10_songTold 53 = .ok (.iaload, 1) := by decide +kernel
theorem dX10_songTold_54 : decode cX10_songTold 54 = .ok (.iadd, 1) := by decide +kernel
theorem dX10_songTold_55 : decode cX10_songTold 55 = .ok (.istore 5, 2) := by decide +kernel
theorem dX10_songTold_57 : decode cX10_songTold 57 = .ok (.iinc 6 1, 3) := by decide +kernel
theorem dX10_songTold_60 : decode cX10_songTold 60 = .ok (.goto (-24), 3) := by decide +kernel
theorem dX10_songTold_63 : decode cX10_songTold 63 = .ok (.aload_n 0, 1) := by decide +kernel
theorem dX10_songTold_64 : decode cX10_songTold 64 = .ok (.iload_n 2, 1) := by decide +kernel
theorem dX10_songTold_65 : decode cX10_songTold 65 = .ok (.ifCond .ne 8, 3) := by decide +kernel
theorem dX10_songTold_68 : decode cX10_songTold 68 = .ok (.iload 4, 2) := by decide +kernel
theorem dX10_songTold_70 : decode cX10_songTold 70 = .ok (.goto 22, 3) := by decide +kernel
theorem dX10_songTold_73 : decode cX10_songTold 73 = .ok (.iload_n 2, 1) := by decide +kernel
theorem dX10_songTold_74 : decode cX10_songTold 74 = .ok (.iconst 1, 1) := by decide +kernel
theorem dX10_songTold_75 : decode cX10_songTold 75 = .ok (.if_icmp .ne 15, 3) := by decide +kernel
theorem dX10_songTold_78 : decode cX10_songTold 78 = .ok (.aload_n 0, 1) := by decide +kernel
theorem dX10_songTold_79 : decode cX10_songTold 79 = .ok (.getfield 200, 3) := by decide +kernel
theorem dX10_songTold_82 : decode cX10_songTold 82 = .ok (.iload 4, 2) := by decide +kernel
theorem dX10_songTold_84 : decode cX10_songTold 84 = .ok (.isub, 1) := by decide +kernel
theorem dX10_songTold_85 : decode cX10_songTold 85 = .ok (.iconst 1, 1) := by decide +kernel
theorem dX10_songTold_86 : decode cX10_songTold 86 = .ok (.iadd, 1) := by decide +kernel
theorem dX10_songTold_87 : decode cX10_songTold 87 = .ok (.goto 5, 3) := by decide +kernel
theorem dX10_songTold_90 : decode cX10_songTold 90 = .ok (.iload 5, 2) := by decide +kernel
theorem dX10_songTold_92 : decode cX10_songTold 92 = .ok (.iconst 1, 1) := by decide +kernel
theorem dX10_songTold_93 : decode cX10_songTold 93 = .ok (.invokevirtual 184, 3) := by decide +kernel
theorem dX10_songTold_96 : decode cX10_songTold 96 = .ok (.ireturn, 1) := by decide +kernel
def c_X10_songTold_L36 (F : Nat) (a9 : Nat) (x10 : Int32) (x11 : Int32) (k63 : Int32 → z_Hp → Option (Int32 × z_Hp)) : Nat → Int32 → Int32 → z_Hp → Option (Int32 × z_Hp)
  | 0, _, _, _ => none
  | n + 1, x12, x13, h14 => (if hT h14 a9 = 10 then (if (hI h14 a9 14) ≤ x13 then (k63 x12 h14) else (if hT h14 a9 = 10 then (lt_ (hR h14 a9 16) (fun o17 => (nn o17 (fun a18 => (if okA h14 a18 20 x13 = true then (lt_ (x12 + (hI h14 a18 (ix x13))) (fun x19 => (lt_ (x13 + 1) (fun x20 => (c_X10_songTold_L36 F a9 x10 x11 k63 n x19 x20 h14))))) else none))))) else none)) else none)
def c_X10_songTold (F : Nat) (a0 : Nat) (x1 : Int32) (x2 : Int32) (h0 : z_Hp) : Option (Int32 × z_Hp) := (bI (c_X10_in F x2 0 2 h0) (fun x4 h3 => (if x4 = 0 then (some ((-1), h3)) else (if hT h3 a0 = 10 then (bI (c_X10_askedSong F a0 x1 h3) (fun x6 h5 => (if 0 ≤ x6 then (if hT h5 a0 = 10 then (bI (c_X10_linesOf F a0 x1 h5) (fun x8 h7 => (c_X10_songTold_L36 F a0 x2 x8 (fun x21 h22 => (lt_ (fun (x24 : Int32) (h25 : z_Hp) => (if hT h25 a0 = 10 then (bI (c_X10_ask F a0 x24 1 h25) (fun x27 h26 => (some (x27, h26)))) else none)) (fun (j92_23 : Int32 → z_Hp → Option (Int32 × z_Hp)) => (if x2 = 0 then (j92_23 x8 h22) else (if x2 = 1 then (if hT h22 a0 = 10 then (j92_23 (((hI h22 a0 14) - x8) + 1) h22) else none) else (j92_23 x21 h22)))))) F 0 0 h7))) else none) else (some (x6, h5))))) else none))))
set_option maxRecDepth 20000 in
set_option maxHeartbeats 4000000 in
theorem g_X10_songTold_L36 (F : Nat) (a9 : Nat) (x10 : Int32) (x11 : Int32) (k63 : Int32 → z_Hp → Option (Int32 × z_Hp)) (qk63 : ∀ (x15 : Int32) (h16 : z_Hp), z_G zi mi_X10_songTold 63 [(0, vr (some a9)), (2, vi x10), (4, vi x11), (5, vi x15)] [] h16 (k63 x15 h16)) : ∀ (n : Nat) (x12 : Int32) (x13 : Int32) (h14 : z_Hp), z_G zi mi_X10_songTold 36 [(0, vr (some a9)), (2, vi x10), (4, vi x11), (5, vi x12), (6, vi x13)] [] h14 (c_X10_songTold_L36 F a9 x10 x11 k63 n x12 x13 h14) := by
  intro n
  induction n with
  | zero => intro x12 x13 h14; rw [c_X10_songTold_L36]; exact z_none
  | succ n ih =>
    intro x12 x13 h14
    rw [c_X10_songTold_L36]
    refine z_iload (pc := 36) dX10_songTold_36 4 rfl (z_aload_n (pc := 38) dX10_songTold_38 rfl 0 rfl (z_getI (pc := 39) fl_RX10_200 rfl dX10_songTold_39 (?_)))
    refine z_icmp_ge (pc := 42) (tgt := 63) dX10_songTold_42 (by decide) ?_ ?_
    · exact z_sub [0, 1, 2, 3] rfl (qk63 x12 h14)
    · refine z_iload (pc := 45) dX10_songTold_45 3 rfl (z_aload_n (pc := 47) dX10_songTold_47 rfl 0 rfl (z_getRl (pc := 48) fl_RX10_41 rfl dX10_songTold_48 (fun o17 => (z_iload (pc := 51) dX10_songTold_51 4 rfl (?_)))))
      refine z_nn (fun a18 ea18 => ?_)
      subst ea18
      refine z_iaload (pc := 53) dX10_songTold_53 (z_iadd (pc := 54) dX10_songTold_54 (z_istorel (pc := 55) (L' := fun x19 => [(0, vr (some a9)), (2, vi x10), (4, vi x11), (5, vi x19), (6, vi x13)]) dX10_songTold_55 (Nat.le_of_ble_eq_true rfl) (fun _ => rfl) (fun x19 => (z_iincl (pc := 57) (L' := fun x20 => [(0, vr (some a9)), (2, vi x10), (4, vi x11), (5, vi x19), (6, vi x20)]) dX10_songTold_57 4 rfl ic_1 (Nat.le_of_ble_eq_true rfl) (fun _ => rfl) (fun x20 => (z_goto (pc := 60) (tgt := 36) dX10_songTold_60 (by decide) (?_)))))))
      exact ih x19 x20 h14
set_option maxRecDepth 20000 in
set_option maxHeartbeats 4000000 in
theorem t_X10_songTold (F : Nat) (a0 : Nat) (x1 : Int32) (x2 : Int32) (h0 : z_Hp) : z_Ct zi mi_X10_songTold [vr (some a0), vi x1, vi x2] h0 (c_X10_songTold F a0 x1 x2 h0) := by
  refine z_entry (by decide) (Nat.le_of_ble_eq_true rfl) [(0, vr (some a0)), (1, vi x1), (2, vi x2)] rfl ?_
  unfold c_X10_songTold
  refine z_iload_n (pc := 0) dX10_songTold_0 rfl 2 rfl (z_iconst (pc := 1) dX10_songTold_1 ic_0 (z_iconst (pc := 2) dX10_songTold_2 ic_2 (z_callS_I (pc := 3) (avs := [vi x2, vi 0, vi 2]) (st := []) rfl (t_X10_in F x2 0 2 h0) ky_X10_in ws_X10_in wz_RX10_166 (rm_X10_songTold_X10_in) (Nat.le_of_ble_eq_true rfl) dX10_songTold_3 (fun x4 h3 => (?_)))))
  refine z_if_ne (pc := 6) (tgt := 11) dX10_songTold_6 (by decide) ?_ ?_
  · refine z_aload_n (pc := 11) dX10_songTold_11 rfl 0 rfl (z_iload_n (pc := 12) dX10_songTold_12 rfl 1 rfl (z_callV_I (pc := 13) (avs := [vi x1]) (st := []) rfl (q := (RX10, TX10, 62)) rfl rfl (t_X10_askedSong F a0 x1 h3) ky_X10_askedSong wm_X10_askedSong we_X10_askedSong wz_RX10_207 (rm_X10_songTold_X10_askedSong) (Nat.le_of_ble_eq_true rfl) dX10_songTold_13 (fun x6 h5 => (?_))))
    refine z_istore_n (pc := 16) (L' := [(0, vr (some a0)), (1, vi x1), (2, vi x2), (3, vi x6)]) dX10_songTold_16 rfl (Nat.le_of_ble_eq_true rfl) rfl (z_iload_n (pc := 17) dX10_songTold_17 rfl 3 rfl (?_))
    refine z_if_ge (pc := 18) (tgt := 23) dX10_songTold_18 (by decide) ?_ ?_
    · refine z_aload_n (pc := 23) dX10_songTold_23 rfl 0 rfl (z_iload_n (pc := 24) dX10_songTold_24 rfl 1 rfl (z_callV_I (pc := 25) (avs := [vi x1]) (st := []) rfl (q := (RX10, TX10, 62)) rfl rfl (t_X10_linesOf F a0 x1 h5) ky_X10_linesOf wm_X10_linesOf we_X10_linesOf wz_RX10_210 (rm_X10_songTold_X10_linesOf) (Nat.le_of_ble_eq_true rfl) dX10_songTold_25 (fun x8 h7 => (?_))))
      refine z_istore (pc := 28) (L' := [(0, vr (some a0)), (1, vi x1), (2, vi x2), (3, vi x6), (4, vi x8)]) dX10_songTold_28 (Nat.le_of_ble_eq_true rfl) rfl (z_iconst (pc := 30) dX10_songTold_30 ic_0 (z_istore (pc := 31) (L' := [(0, vr (some a0)), (1, vi x1), (2, vi x2), (3, vi x6), (4, vi x8), (5, vi 0)]) dX10_songTold_31 (Nat.le_of_ble_eq_true rfl) rfl (z_iconst (pc := 33) dX10_songTold_33 ic_0 (z_istore (pc := 34) (L' := [(0, vr (some a0)), (1, vi x1), (2, vi x2), (3, vi x6), (4, vi x8), (5, vi 0), (6, vi 0)]) dX10_songTold_34 (Nat.le_of_ble_eq_true rfl) rfl (?_)))))
      refine z_sub [0, 2, 4, 5, 6] rfl (g_X10_songTold_L36 F a0 x2 x8 _ (fun x21 h22 => ?_) F 0 0 h7)
      refine z_aload_n (pc := 63) dX10_songTold_63 rfl 0 rfl (z_iload_n (pc := 64) dX10_songTold_64 rfl 1 rfl (?_))
      refine z_jn (P := fun (j : Int32 → z_Hp → Option (Int32 × z_Hp)) => ∀ (x24 : Int32) (h25 : z_Hp), z_G zi mi_X10_songTold 92 [] [vi x24, vr (some a0)] h25 (j x24 h25)) (fun x24 h25 => ?_) (fun j92_23 qj92_23 => ?_)
      · refine z_iconst (pc := 92) dX10_songTold_92 ic_1 (z_callV_I (pc := 93) (avs := [vi x24, vi 1]) (st := []) rfl (q := (RX10, TX10, 62)) rfl rfl (t_X10_ask F a0 x24 1 h25) ky_X10_ask wm_X10_ask we_X10_ask wz_RX10_184 (rm_X10_songTold_X10_ask) (Nat.le_of_ble_eq_true rfl) dX10_songTold_93 (fun x27 h26 => (?_)))
        exact z_iret (pc := 96) dX10_songTold_96 rfl rfl
      refine z_if_ne (pc := 65) (tgt := 73) dX10_songTold_65 (by decide) ?_ ?_
      · refine z_iload_n (pc := 73) dX10_songTold_73 rfl 1 rfl (z_iconst (pc := 74) dX10_songTold_74 ic_1 (?_))
        refine z_icmp_ne (pc := 75) (tgt := 90) dX10_songTold_75 (by decide) ?_ ?_
        · refine z_iload (pc := 90) dX10_songTold_90 3 rfl (?_)
          exact z_sub [] rfl (qj92_23 x21 h22)
        · refine z_aload_n (pc := 78) dX10_songTold_78 rfl 0 rfl (z_getI (pc := 79) fl_RX10_200 rfl dX10_songTold_79 (z_iload (pc := 82) dX10_songTold_82 2 rfl (z_isub (pc := 84) dX10_songTold_84 (z_iconst (pc := 85) dX10_songTold_85 ic_1 (z_iadd (pc := 86) dX10_songTold_86 (z_goto (pc := 87) (tgt := 92) dX10_songTold_87 (by decide) (?_)))))))
          exact z_sub [] rfl (qj92_23 (((hI h22 a0 14) - x8) + 1) h22)
      · refine z_iload (pc := 68) dX10_songTold_68 2 rfl (z_goto (pc := 70) (tgt := 92) dX10_songTold_70 (by decide) (?_))
        exact z_sub [] rfl (qj92_23 x8 h22)
    · refine z_iload_n (pc := 21) dX10_songTold_21 rfl 3 rfl (?_)
      exact z_iret (pc := 22) dX10_songTold_22 rfl rfl
  · refine z_iconst (pc := 9) dX10_songTold_9 ic_m1 (?_)
    exact z_iret (pc := 10) dX10_songTold_10 rfl rfl
theorem dX10_lineAt_0 : decode cX10_lineAt 0 = .ok (.iconst 0, 1) := by decide +kernel
theorem dX10_lineAt_1 : decode cX10_lineAt 1 = .ok (.istore_n 2, 1) := by decide +kernel
theorem dX10_lineAt_2 : decode cX10_lineAt 2 = .ok (.iconst 0, 1) := by decide +kernel
theorem dX10_lineAt_3 : decode cX10_lineAt 3 = .ok (.istore_n 3, 1) := by decide +kernel
theorem dX10_lineAt_4 : decode cX10_lineAt 4 = .ok (.iload_n 3, 1) := by decide +kernel
theorem dX10_lineAt_5 : decode cX10_lineAt 5 = .ok (.iload_n 1, 1) := by decide +kernel
theorem dX10_lineAt_6 : decode cX10_lineAt 6 = .ok (.if_icmp .ge 26, 3) := by decide +kernel
theorem dX10_lineAt_9 : decode cX10_lineAt 9 = .ok (.iload_n 3, 1) := by decide +kernel
theorem dX10_lineAt_10 : decode cX10_lineAt 10 = .ok (.aload_n 0, 1) := by decide +kernel
theorem dX10_lineAt_11 : decode cX10_lineAt 11 = .ok (.getfield 41, 3) := by decide +kernel
theorem dX10_lineAt_14 : decode cX10_lineAt 14 = .ok (.iload_n 2, 1) := by decide +kernel
theorem dX10_lineAt_15 : decode cX10_lineAt 15 = .ok (.iaload, 1) := by decide +kernel
theorem dX10_lineAt_16 : decode cX10_lineAt 16 = .ok (.ifCond .ne 7, 3) := by decide +kernel
theorem dX10_lineAt_19 : decode cX10_lineAt 19 = .ok (.iconst 1, 1) := by decide +kernel
theorem dX10_lineAt_20 : decode cX10_lineAt 20 = .ok (.goto 4, 3) := by decide +kernel
theorem dX10_lineAt_23 : decode cX10_lineAt 23 = .ok (.iconst 0, 1) := by decide +kernel
theorem dX10_lineAt_24 : decode cX10_lineAt 24 = .ok (.iadd, 1) := by decide +kernel
theorem dX10_lineAt_25 : decode cX10_lineAt 25 = .ok (.istore_n 3, 1) := by decide +kernel
theorem dX10_lineAt_26 : decode cX10_lineAt 26 = .ok (.iinc 2 1, 3) := by decide +kernel
theorem dX10_lineAt_29 : decode cX10_lineAt 29 = .ok (.goto (-25), 3) := by decide +kernel
theorem dX10_lineAt_32 : decode cX10_lineAt 32 = .ok (.iload_n 2, 1) := by decide +kernel
theorem dX10_lineAt_33 : decode cX10_lineAt 33 = .ok (.ireturn, 1) := by decide +kernel
def c_X10_lineAt_L4 (F : Nat) (a2 : Nat) (x3 : Int32) : Nat → Int32 → Int32 → z_Hp → Option (Int32 × z_Hp)
  | 0, _, _, _ => none
  | n + 1, x4, x5, h6 => (if x3 ≤ x5 then (some (x4, h6)) else (if hT h6 a2 = 10 then (lt_ (hR h6 a2 16) (fun o7 => (nn o7 (fun a8 => (if okA h6 a8 20 x4 = true then (lt_ (fun (x10 : Int32) (h11 : z_Hp) => (lt_ (x5 + x10) (fun x12 => (lt_ (x4 + 1) (fun x13 => (c_X10_lineAt_L4 F a2 x3 n x13 x12 h11)))))) (fun (j24_9 : Int32 → z_Hp → Option (Int32 × z_Hp)) => (if (hI h6 a8 (ix x4)) = 0 then (j24_9 1 h6) else (j24_9 0 h6)))) else none))))) else none))
def c_X10_lineAt (F : Nat) (a0 : Nat) (x1 : Int32) (h0 : z_Hp) : Option (Int32 × z_Hp) := (c_X10_lineAt_L4 F a0 x1 F 0 0 h0)
set_option maxRecDepth 20000 in
set_option maxHeartbeats 4000000 in
theorem g_X10_lineAt_L4 (F : Nat) (a2 : Nat) (x3 : Int32) : ∀ (n : Nat) (x4 : Int32) (x5 : Int32) (h6 : z_Hp), z_G zi mi_X10_lineAt 4 [(0, vr (some a2)), (1, vi x3), (2, vi x4), (3, vi x5)] [] h6 (c_X10_lineAt_L4 F a2 x3 n x4 x5 h6) := by
  intro n
  induction n with
  | zero => intro x4 x5 h6; rw [c_X10_lineAt_L4]; exact z_none
  | succ n ih =>
    intro x4 x5 h6
    rw [c_X10_lineAt_L4]
    refine z_iload_n (pc := 4) dX10_lineAt_4 rfl 3 rfl (z_iload_n (pc := 5) dX10_lineAt_5 rfl 1 rfl (?_))
    refine z_icmp_ge (pc := 6) (tgt := 32) dX10_lineAt_6 (by decide) ?_ ?_
    · refine z_iload_n (pc := 32) dX10_lineAt_32 rfl 2 rfl (?_)
      exact z_iret (pc := 33) dX10_lineAt_33 rfl rfl
    · refine z_iload_n (pc := 9) dX10_lineAt_9 rfl 3 rfl (z_aload_n (pc := 10) dX10_lineAt_10 rfl 0 rfl (z_getRl (pc := 11) fl_RX10_41 rfl dX10_lineAt_11 (fun o7 => (z_iload_n (pc := 14) dX10_lineAt_14 rfl 2 rfl (?_)))))
      refine z_nn (fun a8 ea8 => ?_)
      subst ea8
      refine z_iaload (pc := 15) dX10_lineAt_15 (?_)
      refine z_jn (P := fun (j : Int32 → z_Hp → Option (Int32 × z_Hp)) => ∀ (x10 : Int32) (h11 : z_Hp), z_G zi mi_X10_lineAt 24 [(0, vr (some a2)), (1, vi x3), (2, vi x4)] [vi x10, vi x5] h11 (j x10 h11)) (fun x10 h11 => ?_) (fun j24_9 qj24_9 => ?_)
      · refine z_iadd (pc := 24) dX10_lineAt_24 (z_istorel_n (pc := 25) (L' := fun x12 => [(0, vr (some a2)), (1, vi x3), (2, vi x4), (3, vi x12)]) dX10_lineAt_25 rfl (Nat.le_of_ble_eq_true rfl) (fun _ => rfl) (fun x12 => (z_iincl (pc := 26) (L' := fun x13 => [(0, vr (some a2)), (1, vi x3), (2, vi x13), (3, vi x12)]) dX10_lineAt_26 2 rfl ic_1 (Nat.le_of_ble_eq_true rfl) (fun _ => rfl) (fun x13 => (z_goto (pc := 29) (tgt := 4) dX10_lineAt_29 (by decide) (?_))))))
        exact ih x13 x12 h11
      refine z_if_ne (pc := 16) (tgt := 23) dX10_lineAt_16 (by decide) ?_ ?_
      · refine z_iconst (pc := 23) dX10_lineAt_23 ic_0 (?_)
        exact z_sub [0, 1, 2] rfl (qj24_9 0 h6)
      · refine z_iconst (pc := 19) dX10_lineAt_19 ic_1 (z_goto (pc := 20) (tgt := 24) dX10_lineAt_20 (by decide) (?_))
        exact z_sub [0, 1, 2] rfl (qj24_9 1 h6)
set_option maxRecDepth 20000 in
set_option maxHeartbeats 4000000 in
theorem t_X10_lineAt (F : Nat) (a0 : Nat) (x1 : Int32) (h0 : z_Hp) : z_Ct zi mi_X10_lineAt [vr (some a0), vi x1] h0 (c_X10_lineAt F a0 x1 h0) := by
  refine z_entry (by decide) (Nat.le_of_ble_eq_true rfl) [(0, vr (some a0)), (1, vi x1)] rfl ?_
  unfold c_X10_lineAt
  refine z_iconst (pc := 0) dX10_lineAt_0 ic_0 (z_istore_n (pc := 1) (L' := [(0, vr (some a0)), (1, vi x1), (2, vi 0)]) dX10_lineAt_1 rfl (Nat.le_of_ble_eq_true rfl) rfl (z_iconst (pc := 2) dX10_lineAt_2 ic_0 (z_istore_n (pc := 3) (L' := [(0, vr (some a0)), (1, vi x1), (2, vi 0), (3, vi 0)]) dX10_lineAt_3 rfl (Nat.le_of_ble_eq_true rfl) rfl (?_))))
  refine g_X10_lineAt_L4 F a0 x1 F 0 0 h0
theorem dX10_measureOf_0 : decode cX10_measureOf 0 = .ok (.aload_n 0, 1) := by decide +kernel
theorem dX10_measureOf_1 : decode cX10_measureOf 1 = .ok (.iload_n 1, 1) := by decide +kernel
theorem dX10_measureOf_2 : decode cX10_measureOf 2 = .ok (.invokevirtual 203, 3) := by decide +kernel
theorem dX10_measureOf_5 : decode cX10_measureOf 5 = .ok (.iconst 0, 1) := by decide +kernel
theorem dX10_measureOf_6 : decode cX10_measureOf 6 = .ok (.istore_n 3, 1) := by decide +kernel
theorem dX10_measureOf_7 : decode cX10_measureOf 7 = .ok (.aload_n 0, 1) := by decide +kernel
theorem dX10_measureOf_8 : decode cX10_measureOf 8 = .ok (.iload_n 2, 1) := by decide +kernel
theorem dX10_measureOf_9 : decode cX10_measureOf 9 = .ok (.invokevirtual 213, 3) := by decide +kernel
theorem dX10_measureOf_12 : decode cX10_measureOf 12 = .ok (.istore 4, 2) := by decide +kernel
theorem dX10_measureOf_14 : decode cX10_measureOf 14 = .ok (.iload 4, 2) := by decide +kernel
theorem dX10_measureOf_16 : decode cX10_measureOf 16 = .ok (.aload_n 0, 1) := by decide +kernel
theorem dX10_measureOf_17 : decode cX10_measureOf 17 = .ok (.getfield 200, 3) := by decide +kernel
theorem dX10_measureOf_20 : decode cX10_measureOf 20 = .ok (.if_icmp .ge 96, 3) := by decide +kernel
theorem dX10_measureOf_23 : decode cX10_measureOf 23 = .ok (.aload_n 0, 1) := by decide +kernel
theorem dX10_measureOf_24 : decode cX10_measureOf 24 = .ok (.getfield 41, 3) := by decide +kernel
theorem dX10_measureOf_27 : decode cX10_measureOf 27 = .ok (.iload 4, 2) := by decide +kernel
theorem dX10_measureOf_29 : decode cX10_measureOf 29 = .ok (.iaload, 1) := by decide +kernel
theorem dX10_measureOf_30 : decode cX10_measureOf 30 = .ok (.ifCond .le 86, 3) := by decide +kernel
theorem dX10_measureOf_33 : decode cX10_measureOf 33 = .ok (.iconst 0, 1) := by decide +kernel
theorem dX10_measureOf_34 : decode cX10_measureOf 34 = .ok (.istore 5, 2) := by decide +kernel
theorem dX10_measureOf_36 : decode cX10_measureOf 36 = .ok (.aload_n 0, 1) := by decide +kernel
theorem dX10_measureOf_37 : decode cX10_measureOf 37 = .ok (.getfield 38, 3) := by decide +kernel
theorem dX10_measureOf_40 : decode cX10_measureOf 40 = .ok (.iload 4, 2) := by decide +kernel
theorem dX10_measureOf_42 : decode cX10_measureOf 42 = .ok (.iaload, 1) := by decide +kernel
theorem dX10_measureOf_43 : decode cX10_measureOf 43 = .ok (.istore 6, 2) := by decide +kernel
theorem dX10_measureOf_45 : decode cX10_measureOf 45 = .ok (.iload 6, 2) := by decide +kernel
theorem dX10_measureOf_47 : decode cX10_measureOf 47 = .ok (.aload_n 0, 1) := by decide +kernel
theorem dX10_measureOf_48 : decode cX10_measureOf 48 = .ok (.getfield 38, 3) := by decide +kernel
theorem dX10_measureOf_51 : decode cX10_measureOf 51 = .ok (.iload 4, 2) := by decide +kernel
theorem dX10_measureOf_53 : decode cX10_measureOf 53 = .ok (.iaload, 1) := by decide +kernel
theorem dX10_measureOf_54 : decode cX10_measureOf 54 = .ok (.aload_n 0, 1) := by decide +kernel
theorem dX10_measureOf_55 : decode cX10_measureOf 55 = .ok (.getfield 41, 3) := by decide +kernel
theorem dX10_measureOf_58 : decode cX10_measureOf 58 = .ok (.iload 4, 2) := by decide +kernel
theorem dX10_measureOf_60 : decode cX10_measureOf 60 = .ok (.iaload, 1) := by decide +kernel
theorem dX10_measureOf_61 : decode cX10_measureOf 61 = .ok (.iadd, 1) := by decide +kernel
theorem dX10_measureOf_62 : decode cX10_measureOf 62 = .ok (.if_icmp .ge 48, 3) := by decide +kernel
theorem dX10_measureOf_65 : decode cX10_measureOf 65 = .ok (.aload_n 0, 1) := by decide +kernel
theorem dX10_measureOf_66 : decode cX10_measureOf 66 = .ok (.getfield 35, 3) := by decide +kernel
theorem dX10_measureOf_69 : decode cX10_measureOf 69 = .ok (.bipush 60, 2) := by decide +kernel
theorem dX10_measureOf_71 : decode cX10_measureOf 71 = .ok (.iload_n 1, 1) := by decide +kernel
theorem dX10_measureOf_72 : decode cX10_measureOf 72 = .ok (.imul, 1) := by decide +kernel
theorem dX10_measureOf_73 : decode cX10_measureOf 73 = .ok (.iload 6, 2) := by decide +kernel
theorem dX10_measureOf_75 : decode cX10_measureOf 75 = .ok (.iadd, 1) := by decide +kernel
theorem dX10_measureOf_76 : decode cX10_measureOf 76 = .ok (.iaload, 1) := by decide +kernel
theorem dX10_measureOf_77 : decode cX10_measureOf 77 = .ok (.invokestatic 216, 3) := by decide +kernel
theorem dX10_measureOf_80 : decode cX10_measureOf 80 = .ok (.istore 7, 2) := by decide +kernel
theorem dX10_measureOf_82 : decode cX10_measureOf 82 = .ok (.iload_n 3, 1) := by decide +kernel
theorem dX10_measureOf_83 : decode cX10_measureOf 83 = .ok (.iload 7, 2) := by decide +kernel
theorem dX10_measureOf_85 : decode cX10_measureOf 85 = .ok (.ifCond .eq 12, 3) := by decide +kernel
theorem dX10_measureOf_88 : decode cX10_measureOf 88 = .ok (.iload 5, 2) := by decide +kernel
theorem dX10_measureOf_90 : decode cX10_measureOf 90 = .ok (.ifCond .ne 7, 3) := by decide +kernel
theorem dX10_measureOf_93 : decode cX10_measureOf 93 = .ok (.iconst 1, 1) := by decide +kernel
theorem dX10_measureOf_94 : decode cX10_measureOf 94 = .ok (.goto 4, 3) := by decide +kernel
theorem dX10_measureOf_97 : decode cX10_measureOf 97 = .ok (.iconst 0, 1) := by decide +kernel
theorem dX10_measureOf_98 : decode cX10_measureOf 98 = .ok (.iadd, 1) := by decide +kernel
theorem dX10_measureOf_99 : decode cX10_measureOf 99 = .ok (.istore_n 3, 1) := by decide +kernel
theorem dX10_measureOf_100 : decode cX10_measureOf 100 = .ok (.iload 7, 2) := by decide +kernel
theorem dX10_measureOf_102 : decode cX10_measureOf 102 = .ok (.istore 5, 2) := by decide +kernel
theorem dX10_measureOf_104 : decode cX10_measureOf 104 = .ok (.iinc 6 1, 3) := by decide +kernel
theorem dX10_measureOf_107 : decode cX10_measureOf 107 = .ok (.goto (-62), 3) := by decide +kernel
theorem dX10_measureOf_110 : decode cX10_measureOf 110 = .ok (.iinc 4 1, 3) := by decide +kernel
theorem dX10_measureOf_113 : decode cX10_measureOf 113 = .ok (.goto (-99), 3) := by decide +kernel
theorem dX10_measureOf_116 : decode cX10_measureOf 116 = .ok (.iload_n 3, 1) := by decide +kernel
theorem dX10_measureOf_117 : decode cX10_measureOf 117 = .ok (.ireturn, 1) := by decide +kernel
def c_X10_measureOf_L45 (F : Nat) (a16 : Nat) (x17 : Int32) (x18 : Int32) (k110 : Int32 → z_Hp → Option (Int32 × z_Hp)) : Nat → Int32 → Int32 → Int32 → z_Hp → Option (Int32 × z_Hp)
  | 0, _, _, _, _ => none
  | n + 1, x19, x20, x21, h22 => (if hT h22 a16 = 10 then (lt_ (hR h22 a16 15) (fun o25 => (nn o25 (fun a26 => (if okA h22 a26 20 x18 = true then (if hT h22 a16 = 10 then (lt_ (hR h22 a16 16) (fun o27 => (nn o27 (fun a28 => (if okA h22 a28 20 x18 = true then (if ((hI h22 a26 (ix x18)) + (hI h22 a28 (ix x18))) ≤ x21 then (k110 x19 h22) else (if hT h22 a16 = 10 then (lt_ (hR h22 a16 13) (fun o29 => (nn o29 (fun a30 => (if okA h22 a30 20 ((60 * x17) + x21) = true then (bI (c_X10_isVowel F (hI h22 a30 (ix ((60 * x17) + x21))) h22) (fun x32 h31 => (lt_ (fun (x34 : Int32) (h35 : z_Hp) => (lt_ (x19 + x34) (fun x36 => (lt_ (x21 + 1) (fun x37 => (c_X10_measureOf_L45 F a16 x17 x18 k110 n x36 x32 x37 h35)))))) (fun (j98_33 : Int32 → z_Hp → Option (Int32 × z_Hp)) => (lt_ (fun (h39 : z_Hp) => (j98_33 0 h39)) (fun (j97_38 : z_Hp → Option (Int32 × z_Hp)) => (if x32 = 0 then (j97_38 h31) else (if x20 = 0 then (j98_33 1 h31) else (j97_38 h31))))))))) else none))))) else none)) else none))))) else none) else none))))) else none)
def c_X10_measureOf_L14 (F : Nat) (a6 : Nat) (x7 : Int32) : Nat → Int32 → Int32 → z_Hp → Option (Int32 × z_Hp)
  | 0, _, _, _ => none
  | n + 1, x8, x9, h10 => (if hT h10 a6 = 10 then (if (hI h10 a6 14) ≤ x9 then (some (x8, h10)) else (if hT h10 a6 = 10 then (lt_ (hR h10 a6 16) (fun o11 => (nn o11 (fun a12 => (if okA h10 a12 20 x9 = true then (if (hI h10 a12 (ix x9)) ≤ 0 then (some (x8, h10)) else (if hT h10 a6 = 10 then (lt_ (hR h10 a6 15) (fun o13 => (nn o13 (fun a14 => (if okA h10 a14 20 x9 = true then (lt_ (hI h10 a14 (ix x9)) (fun x15 => (c_X10_measureOf_L45 F a6 x7 x9 (fun x40 h41 => (lt_ (x9 + 1) (fun x42 => (c_X10_measureOf_L14 F a6 x7 n x40 x42 h41)))) F x8 0 x15 h10))) else none))))) else none)) else none))))) else none)) else none)
def c_X10_measureOf (F : Nat) (a0 : Nat) (x1 : Int32) (x2 : Int32) (h0 : z_Hp) : Option (Int32 × z_Hp) := (if hT h0 a0 = 10 then (bV (c_X10_setWords F a0 x1 h0) (fun h3 => (if hT h3 a0 = 10 then (bI (c_X10_lineAt F a0 x2 h3) (fun x5 h4 => (c_X10_measureOf_L14 F a0 x1 F 0 x5 h4))) else none))) else none)
set_option maxRecDepth 20000 in
set_option maxHeartbeats 4000000 in
theorem g_X10_measureOf_L45 (F : Nat) (a16 : Nat) (x17 : Int32) (x18 : Int32) (k110 : Int32 → z_Hp → Option (Int32 × z_Hp)) (qk110 : ∀ (x23 : Int32) (h24 : z_Hp), z_G zi mi_X10_measureOf 110 [(0, vr (some a16)), (1, vi x17), (3, vi x23), (4, vi x18)] [] h24 (k110 x23 h24)) : ∀ (n : Nat) (x19 : Int32) (x20 : Int32) (x21 : Int32) (h22 : z_Hp), z_G zi mi_X10_measureOf 45 [(0, vr (some a16)), (1, vi x17), (3, vi x19), (4, vi x18), (5, vi x20), (6, vi x21)] [] h22 (c_X10_measureOf_L45 F a16 x17 x18 k110 n x19 x20 x21 h22) := by
  intro n
  induction n with
  | zero => intro x19 x20 x21 h22; rw [c_X10_measureOf_L45]; exact z_none
  | succ n ih =>
    intro x19 x20 x21 h22
    rw [c_X10_measureOf_L45]
    refine z_iload (pc := 45) dX10_measureOf_45 5 rfl (z_aload_n (pc := 47) dX10_measureOf_47 rfl 0 rfl (z_getRl (pc := 48) fl_RX10_38 rfl dX10_measureOf_48 (fun o25 => (z_iload (pc := 51) dX10_measureOf_51 3 rfl (?_)))))
    refine z_nn (fun a26 ea26 => ?_)
    subst ea26
    refine z_iaload (pc := 53) dX10_measureOf_53 (z_aload_n (pc := 54) dX10_measureOf_54 rfl 0 rfl (z_getRl (pc := 55) fl_RX10_41 rfl dX10_measureOf_55 (fun o27 => (z_iload (pc := 58) dX10_measureOf_58 3 rfl (?_)))))
    refine z_nn (fun a28 ea28 => ?_)
    subst ea28
    refine z_iaload (pc := 60) dX10_measureOf_60 (z_iadd (pc := 61) dX10_measureOf_61 (?_))
    refine z_icmp_ge (pc := 62) (tgt := 110) dX10_measureOf_62 (by decide) ?_ ?_
    · exact z_sub [0, 1, 2, 3] rfl (qk110 x19 h22)
    · refine z_aload_n (pc := 65) dX10_measureOf_65 rfl 0 rfl (z_getRl (pc := 66) fl_RX10_35 rfl dX10_measureOf_66 (fun o29 => (z_bipush (pc := 69) dX10_measureOf_69 bp_60 (z_iload_n (pc := 71) dX10_measureOf_71 rfl 1 rfl (z_imul (pc := 72) dX10_measureOf_72 (z_iload (pc := 73) dX10_measureOf_73 5 rfl (z_iadd (pc := 75) dX10_measureOf_75 (?_))))))))
      refine z_nn (fun a30 ea30 => ?_)
      subst ea30
      refine z_iaload (pc := 76) dX10_measureOf_76 (z_callS_I (pc := 77) (avs := [vi (hI h22 a30 (ix ((60 * x17) + x21)))]) (st := []) rfl (t_X10_isVowel F (hI h22 a30 (ix ((60 * x17) + x21))) h22) ky_X10_isVowel ws_X10_isVowel wz_RX10_216 (rm_X10_measureOf_X10_isVowel) (Nat.le_of_ble_eq_true rfl) dX10_measureOf_77 (fun x32 h31 => (?_)))
      refine z_istore (pc := 80) (L' := [(0, vr (some a16)), (1, vi x17), (3, vi x19), (4, vi x18), (5, vi x20), (6, vi x21), (7, vi x32)]) dX10_measureOf_80 (Nat.le_of_ble_eq_true rfl) rfl (z_iload_n (pc := 82) dX10_measureOf_82 rfl 2 rfl (z_iload (pc := 83) dX10_measureOf_83 6 rfl (?_)))
      refine z_jn (P := fun (j : Int32 → z_Hp → Option (Int32 × z_Hp)) => ∀ (x34 : Int32) (h35 : z_Hp), z_G zi mi_X10_measureOf 98 [(0, vr (some a16)), (1, vi x17), (4, vi x18), (6, vi x21), (7, vi x32)] [vi x34, vi x19] h35 (j x34 h35)) (fun x34 h35 => ?_) (fun j98_33 qj98_33 => ?_)
      · refine z_iadd (pc := 98) dX10_measureOf_98 (z_istorel_n (pc := 99) (L' := fun x36 => [(0, vr (some a16)), (1, vi x17), (3, vi x36), (4, vi x18), (6, vi x21), (7, vi x32)]) dX10_measureOf_99 rfl (Nat.le_of_ble_eq_true rfl) (fun _ => rfl) (fun x36 => (z_iload (pc := 100) dX10_measureOf_100 5 rfl (z_istore (pc := 102) (L' := [(0, vr (some a16)), (1, vi x17), (3, vi x36), (4, vi x18), (5, vi x32), (6, vi x21), (7, vi x32)]) dX10_measureOf_102 (Nat.le_of_ble_eq_true rfl) rfl (z_iincl (pc := 104) (L' := fun x37 => [(0, vr (some a16)), (1, vi x17), (3, vi x36), (4, vi x18), (5, vi x32), (6, vi x37), (7, vi x32)]) dX10_measureOf_104 5 rfl ic_1 (Nat.le_of_ble_eq_true rfl) (fun _ => rfl) (fun x37 => (z_goto (pc := 107) (tgt := 45) dX10_measureOf_107 (by decide) (?_))))))))
        exact z_sub [0, 1, 2, 3, 4, 5] rfl (ih x36 x32 x37 h35)
      refine z_jn (P := fun (j : z_Hp → Option (Int32 × z_Hp)) => ∀ (h39 : z_Hp), z_G zi mi_X10_measureOf 97 [(0, vr (some a16)), (1, vi x17), (4, vi x18), (6, vi x21), (7, vi x32)] [vi x19] h39 (j h39)) (fun h39 => ?_) (fun j97_38 qj97_38 => ?_)
      · refine z_iconst (pc := 97) dX10_measureOf_97 ic_0 (?_)
        exact qj98_33 0 h39
      refine z_if_eq (pc := 85) (tgt := 97) dX10_measureOf_85 (by decide) ?_ ?_
      · exact z_sub [0, 1, 3, 5, 6] rfl (qj97_38 h31)
      · refine z_iload (pc := 88) dX10_measureOf_88 4 rfl (?_)
        refine z_if_ne (pc := 90) (tgt := 97) dX10_measureOf_90 (by decide) ?_ ?_
        · exact z_sub [0, 1, 3, 5, 6] rfl (qj97_38 h31)
        · refine z_iconst (pc := 93) dX10_measureOf_93 ic_1 (z_goto (pc := 94) (tgt := 98) dX10_measureOf_94 (by decide) (?_))
          exact z_sub [0, 1, 3, 5, 6] rfl (qj98_33 1 h31)
set_option maxRecDepth 20000 in
set_option maxHeartbeats 4000000 in
theorem g_X10_measureOf_L14 (F : Nat) (a6 : Nat) (x7 : Int32) : ∀ (n : Nat) (x8 : Int32) (x9 : Int32) (h10 : z_Hp), z_G zi mi_X10_measureOf 14 [(0, vr (some a6)), (1, vi x7), (3, vi x8), (4, vi x9)] [] h10 (c_X10_measureOf_L14 F a6 x7 n x8 x9 h10) := by
  intro n
  induction n with
  | zero => intro x8 x9 h10; rw [c_X10_measureOf_L14]; exact z_none
  | succ n ih =>
    intro x8 x9 h10
    rw [c_X10_measureOf_L14]
    refine z_iload (pc := 14) dX10_measureOf_14 3 rfl (z_aload_n (pc := 16) dX10_measureOf_16 rfl 0 rfl (z_getI (pc := 17) fl_RX10_200 rfl dX10_measureOf_17 (?_)))
    refine z_icmp_ge (pc := 20) (tgt := 116) dX10_measureOf_20 (by decide) ?_ ?_
    · refine z_iload_n (pc := 116) dX10_measureOf_116 rfl 2 rfl (?_)
      exact z_iret (pc := 117) dX10_measureOf_117 rfl rfl
    · refine z_aload_n (pc := 23) dX10_measureOf_23 rfl 0 rfl (z_getRl (pc := 24) fl_RX10_41 rfl dX10_measureOf_24 (fun o11 => (z_iload (pc := 27) dX10_measureOf_27 3 rfl (?_))))
      refine z_nn (fun a12 ea12 => ?_)
      subst ea12
      refine z_iaload (pc := 29) dX10_measureOf_29 (?_)
      refine z_if_le (pc := 30) (tgt := 116) dX10_measureOf_30 (by decide) ?_ ?_
      · refine z_iload_n (pc := 116) dX10_measureOf_116 rfl 2 rfl (?_)
        exact z_iret (pc := 117) dX10_measureOf_117 rfl rfl
      · refine z_iconst (pc := 33) dX10_measureOf_33 ic_0 (z_istore (pc := 34) (L' := [(0, vr (some a6)), (1, vi x7), (3, vi x8), (4, vi x9), (5, vi 0)]) dX10_measureOf_34 (Nat.le_of_ble_eq_true rfl) rfl (z_aload_n (pc := 36) dX10_measureOf_36 rfl 0 rfl (z_getRl (pc := 37) fl_RX10_38 rfl dX10_measureOf_37 (fun o13 => (z_iload (pc := 40) dX10_measureOf_40 3 rfl (?_))))))
        refine z_nn (fun a14 ea14 => ?_)
        subst ea14
        refine z_iaload (pc := 42) dX10_measureOf_42 (z_istorel (pc := 43) (L' := fun x15 => [(0, vr (some a6)), (1, vi x7), (3, vi x8), (4, vi x9), (5, vi 0), (6, vi x15)]) dX10_measureOf_43 (Nat.le_of_ble_eq_true rfl) (fun _ => rfl) (fun x15 => (?_)))
        refine g_X10_measureOf_L45 F a6 x7 x9 _ (fun x40 h41 => ?_) F x8 0 x15 h10
        refine z_iincl (pc := 110) (L' := fun x42 => [(0, vr (some a6)), (1, vi x7), (3, vi x40), (4, vi x42)]) dX10_measureOf_110 3 rfl ic_1 (Nat.le_of_ble_eq_true rfl) (fun _ => rfl) (fun x42 => (z_goto (pc := 113) (tgt := 14) dX10_measureOf_113 (by decide) (?_)))
        exact ih x40 x42 h41
set_option maxRecDepth 20000 in
set_option maxHeartbeats 4000000 in
theorem t_X10_measureOf (F : Nat) (a0 : Nat) (x1 : Int32) (x2 : Int32) (h0 : z_Hp) : z_Ct zi mi_X10_measureOf [vr (some a0), vi x1, vi x2] h0 (c_X10_measureOf F a0 x1 x2 h0) := by
  refine z_entry (by decide) (Nat.le_of_ble_eq_true rfl) [(0, vr (some a0)), (1, vi x1), (2, vi x2)] rfl ?_
  unfold c_X10_measureOf
  refine z_aload_n (pc := 0) dX10_measureOf_0 rfl 0 rfl (z_iload_n (pc := 1) dX10_measureOf_1 rfl 1 rfl (z_callV_V (pc := 2) (avs := [vi x1]) (st := []) rfl (q := (RX10, TX10, 62)) rfl rfl (t_X10_setWords F a0 x1 h0) ky_X10_setWords wm_X10_setWords we_X10_setWords wz_RX10_203 (rm_X10_measureOf_X10_setWords) (Nat.le_of_ble_eq_true rfl) dX10_measureOf_2 (fun h3 => (?_))))
  refine z_iconst (pc := 5) dX10_measureOf_5 ic_0 (z_istore_n (pc := 6) (L' := [(0, vr (some a0)), (1, vi x1), (2, vi x2), (3, vi 0)]) dX10_measureOf_6 rfl (Nat.le_of_ble_eq_true rfl) rfl (z_aload_n (pc := 7) dX10_measureOf_7 rfl 0 rfl (z_iload_n (pc := 8) dX10_measureOf_8 rfl 2 rfl (z_callV_I (pc := 9) (avs := [vi x2]) (st := []) rfl (q := (RX10, TX10, 62)) rfl rfl (t_X10_lineAt F a0 x2 h3) ky_X10_lineAt wm_X10_lineAt we_X10_lineAt wz_RX10_213 (rm_X10_measureOf_X10_lineAt) (Nat.le_of_ble_eq_true rfl) dX10_measureOf_9 (fun x5 h4 => (?_))))))
  refine z_istore (pc := 12) (L' := [(0, vr (some a0)), (1, vi x1), (2, vi x2), (3, vi 0), (4, vi x5)]) dX10_measureOf_12 (Nat.le_of_ble_eq_true rfl) rfl (?_)
  refine z_sub [0, 1, 3, 4] rfl (g_X10_measureOf_L14 F a0 x1 F 0 x5 h4)
theorem dX10_measure_0 : decode cX10_measure 0 = .ok (.aload_n 0, 1) := by decide +kernel
theorem dX10_measure_1 : decode cX10_measure 1 = .ok (.iload_n 1, 1) := by decide +kernel
theorem dX10_measure_2 : decode cX10_measure 2 = .ok (.invokevirtual 207, 3) := by decide +kernel
theorem dX10_measure_5 : decode cX10_measure 5 = .ok (.istore_n 3, 1) := by decide +kernel
theorem dX10_measure_6 : decode cX10_measure 6 = .ok (.iload_n 3, 1) := by decide +kernel
theorem dX10_measure_7 : decode cX10_measure 7 = .ok (.ifCond .ge 5, 3) := by decide +kernel
theorem dX10_measure_10 : decode cX10_measure 10 = .ok (.iload_n 3, 1) := by decide +kernel
theorem dX10_measure_11 : decode cX10_measure 11 = .ok (.ireturn, 1) := by decide +kernel
theorem dX10_measure_12 : decode cX10_measure 12 = .ok (.iload_n 2, 1) := by decide +kernel
theorem dX10_measure_13 : decode cX10_measure 13 = .ok (.iconst 0, 1) := by decide +kernel
theorem dX10_measure_14 : decode cX10_measure 14 = .ok (.aload_n 0, 1) := by decide +kernel
theorem dX10_measure_15 : decode cX10_measure 15 = .ok (.iload_n 1, 1) := by decide +kernel
theorem dX10_measure_16 : decode cX10_measure 16 = .ok (.invokevirtual 210, 3) := by decide +kernel
theorem dX10_measure_19 : decode cX10_measure 19 = .ok (.iconst 1, 1) := by decide +kernel
theorem dX10_measure_20 : decode cX10_measure 20 = .ok (.isub, 1) := by decide +kernel
theorem dX10_measure_21 : decode cX10_measure 21 = .ok (.invokestatic 166, 3) := by decide +kernel
theorem dX10_measure_24 : decode cX10_measure 24 = .ok (.ifCond .eq 12, 3) := by decide +kernel
theorem dX10_measure_27 : decode cX10_measure 27 = .ok (.aload_n 0, 1) := by decide +kernel
theorem dX10_measure_28 : decode cX10_measure 28 = .ok (.iload_n 1, 1) := by decide +kernel
theorem dX10_measure_29 : decode cX10_measure 29 = .ok (.iload_n 2, 1) := by decide +kernel
theorem dX10_measure_30 : decode cX10_measure 30 = .ok (.invokevirtual 219, 3) := by decide +kernel
theorem dX10_measure_33 : decode cX10_measure 33 = .ok (.goto 8, 3) := by decide +kernel
theorem dX10_measure_36 : decode cX10_measure 36 = .ok (.aload_n 0, 1) := by decide +kernel
theorem dX10_measure_37 : decode cX10_measure 37 = .ok (.iconst 2, 1) := by decide +kernel
theorem dX10_measure_38 : decode cX10_measure 38 = .ok (.invokevirtual 174, 3) := by decide +kernel
theorem dX10_measure_41 : decode cX10_measure 41 = .ok (.ireturn, 1) := by decide +kernel
def c_X10_measure (F : Nat) (a0 : Nat) (x1 : Int32) (x2 : Int32) (h0 : z_Hp) : Option (Int32 × z_Hp) := (if hT h0 a0 = 10 then (bI (c_X10_askedSong F a0 x1 h0) (fun x4 h3 => (if 0 ≤ x4 then (if hT h3 a0 = 10 then (bI (c_X10_linesOf F a0 x1 h3) (fun x6 h5 => (bI (c_X10_in F x2 0 (x6 - 1) h5) (fun x8 h7 => (if x8 = 0 then (if hT h7 a0 = 10 then (bI (c_X10_meets F a0 2 h7) (fun x10 h9 => (some (x10, h9)))) else none) else (if hT h7 a0 = 10 then (bI (c_X10_measureOf F a0 x1 x2 h7) (fun x12 h11 => (some (x12, h11)))) else none)))))) else none) else (some (x4, h3))))) else none)
set_option maxRecDepth 20000 in
set_option maxHeartbeats 4000000 in
theorem t_X10_measure (F : Nat) (a0 : Nat) (x1 : Int32) (x2 : Int32) (h0 : z_Hp) : z_Ct zi mi_X10_measure [vr (some a0), vi x1, vi x2] h0 (c_X10_measure F a0 x1 x2 h0) := by
  refine z_entry (by decide) (Nat.le_of_ble_eq_true rfl) [(0, vr (some a0)), (1, vi x1), (2, vi x2)] rfl ?_
  unfold c_X10_measure
  refine z_aload_n (pc := 0) dX10_measure_0 rfl 0 rfl (z_iload_n (pc := 1) dX10_measure_1 rfl 1 rfl (z_callV_I (pc := 2) (avs := [vi x1]) (st := []) rfl (q := (RX10, TX10, 62)) rfl rfl (t_X10_askedSong F a0 x1 h0) ky_X10_askedSong wm_X10_askedSong we_X10_askedSong wz_RX10_207 (rm_X10_measure_X10_askedSong) (Nat.le_of_ble_eq_true rfl) dX10_measure_2 (fun x4 h3 => (?_))))
  refine z_istore_n (pc := 5) (L' := [(0, vr (some a0)), (1, vi x1), (2, vi x2), (3, vi x4)]) dX10_measure_5 rfl (Nat.le_of_ble_eq_true rfl) rfl (z_iload_n (pc := 6) dX10_measure_6 rfl 3 rfl (?_))
  refine z_if_ge (pc := 7) (tgt := 12) dX10_measure_7 (by decide) ?_ ?_
  · refine z_iload_n (pc := 12) dX10_measure_12 rfl 2 rfl (z_iconst (pc := 13) dX10_measure_13 ic_0 (z_aload_n (pc := 14) dX10_measure_14 rfl 0 rfl (z_iload_n (pc := 15) dX10_measure_15 rfl 1 rfl (z_callV_I (pc := 16) (avs := [vi x1]) (st := [vi 0, vi x2]) rfl (q := (RX10, TX10, 62)) rfl rfl (t_X10_linesOf F a0 x1 h3) ky_X10_linesOf wm_X10_linesOf we_X10_linesOf wz_RX10_210 (rm_X10_measure_X10_linesOf) (Nat.le_of_ble_eq_true rfl) dX10_measure_16 (fun x6 h5 => (?_))))))
    refine z_iconst (pc := 19) dX10_measure_19 ic_1 (z_isub (pc := 20) dX10_measure_20 (z_callS_I (pc := 21) (avs := [vi x2, vi 0, vi (x6 - 1)]) (st := []) rfl (t_X10_in F x2 0 (x6 - 1) h5) ky_X10_in ws_X10_in wz_RX10_166 (rm_X10_measure_X10_in) (Nat.le_of_ble_eq_true rfl) dX10_measure_21 (fun x8 h7 => (?_))))
    refine z_if_eq (pc := 24) (tgt := 36) dX10_measure_24 (by decide) ?_ ?_
    · refine z_aload_n (pc := 36) dX10_measure_36 rfl 0 rfl (z_iconst (pc := 37) dX10_measure_37 ic_2 (z_callV_I (pc := 38) (avs := [vi 2]) (st := []) rfl (q := (RX10, TX10, 62)) rfl rfl (t_X10_meets F a0 2 h7) ky_X10_meets wm_X10_meets we_X10_meets wz_RX10_174 (rm_X10_measure_X10_meets) (Nat.le_of_ble_eq_true rfl) dX10_measure_38 (fun x10 h9 => (?_))))
      exact z_iret (pc := 41) dX10_measure_41 rfl rfl
    · refine z_aload_n (pc := 27) dX10_measure_27 rfl 0 rfl (z_iload_n (pc := 28) dX10_measure_28 rfl 1 rfl (z_iload_n (pc := 29) dX10_measure_29 rfl 2 rfl (z_callV_I (pc := 30) (avs := [vi x1, vi x2]) (st := []) rfl (q := (RX10, TX10, 62)) rfl rfl (t_X10_measureOf F a0 x1 x2 h7) ky_X10_measureOf wm_X10_measureOf we_X10_measureOf wz_RX10_219 (rm_X10_measure_X10_measureOf) (Nat.le_of_ble_eq_true rfl) dX10_measure_30 (fun x12 h11 => (?_)))))
      refine z_goto (pc := 33) (tgt := 41) dX10_measure_33 (by decide) (?_)
      exact z_iret (pc := 41) dX10_measure_41 rfl rfl
  · refine z_iload_n (pc := 10) dX10_measure_10 rfl 3 rfl (?_)
    exact z_iret (pc := 11) dX10_measure_11 rfl rfl
theorem dX10_lastWord_0 : decode cX10_lastWord 0 = .ok (.aload_n 0, 1) := by decide +kernel
theorem dX10_lastWord_1 : decode cX10_lastWord 1 = .ok (.iload_n 1, 1) := by decide +kernel
theorem dX10_lastWord_2 : decode cX10_lastWord 2 = .ok (.invokevirtual 213, 3) := by decide +kernel
theorem dX10_lastWord_5 : decode cX10_lastWord 5 = .ok (.istore_n 2, 1) := by decide +kernel
theorem dX10_lastWord_6 : decode cX10_lastWord 6 = .ok (.iload_n 2, 1) := by decide +kernel
theorem dX10_lastWord_7 : decode cX10_lastWord 7 = .ok (.iconst 1, 1) := by decide +kernel
theorem dX10_lastWord_8 : decode cX10_lastWord 8 = .ok (.iadd, 1) := by decide +kernel
theorem dX10_lastWord_9 : decode cX10_lastWord 9 = .ok (.aload_n 0, 1) := by decide +kernel
theorem dX10_lastWord_10 : decode cX10_lastWord 10 = .ok (.getfield 200, 3) := by decide +kernel
theorem dX10_lastWord_13 : decode cX10_lastWord 13 = .ok (.if_icmp .ge 20, 3) := by decide +kernel
theorem dX10_lastWord_16 : decode cX10_lastWord 16 = .ok (.aload_n 0, 1) := by decide +kernel
theorem dX10_lastWord_17 : decode cX10_lastWord 17 = .ok (.getfield 41, 3) := by decide +kernel
theorem dX10_lastWord_20 : decode cX10_lastWord 20 = .ok (.iload_n 2, 1) := by decide +kernel
theorem dX10_lastWord_21 : decode cX10_lastWord 21 = .ok (.iconst 1, 1) := by decide +kernel
theorem dX10_lastWord_22 : decode cX10_lastWord 22 = .ok (.iadd, 1) := by decide +kernel
theorem dX10_lastWord_23 : decode cX10_lastWord 23 = .ok (.iaload, 1) := by decide +kernel
theorem dX10_lastWord_24 : decode cX10_lastWord 24 = .ok (.ifCond .le 9, 3) := by decide +kernel
theorem dX10_lastWord_27 : decode cX10_lastWord 27 = .ok (.iinc 2 1, 3) := by decide +kernel
theorem dX10_lastWord_30 : decode cX10_lastWord 30 = .ok (.goto (-24), 3) := by decide +kernel
theorem dX10_lastWord_33 : decode cX10_lastWord 33 = .ok (.iload_n 2, 1) := by decide +kernel
theorem dX10_lastWord_34 : decode cX10_lastWord 34 = .ok (.ireturn, 1) := by decide +kernel
def c_X10_lastWord_L6 (F : Nat) (a4 : Nat) : Nat → Int32 → z_Hp → Option (Int32 × z_Hp)
  | 0, _, _ => none
  | n + 1, x5, h6 => (if hT h6 a4 = 10 then (if (hI h6 a4 14) ≤ (x5 + 1) then (some (x5, h6)) else (if hT h6 a4 = 10 then (lt_ (hR h6 a4 16) (fun o7 => (nn o7 (fun a8 => (if okA h6 a8 20 (x5 + 1) = true then (if (hI h6 a8 (ix (x5 + 1))) ≤ 0 then (some (x5, h6)) else (lt_ (x5 + 1) (fun x9 => (c_X10_lastWord_L6 F a4 n x9 h6)))) else none))))) else none)) else none)
def c_X10_lastWord (F : Nat) (a0 : Nat) (x1 : Int32) (h0 : z_Hp) : Option (Int32 × z_Hp) := (if hT h0 a0 = 10 then (bI (c_X10_lineAt F a0 x1 h0) (fun x3 h2 => (c_X10_lastWord_L6 F a0 F x3 h2))) else none)
set_option maxRecDepth 20000 in
set_option maxHeartbeats 4000000 in
theorem g_X10_lastWord_L6 (F : Nat) (a4 : Nat) : ∀ (n : Nat) (x5 : Int32) (h6 : z_Hp), z_G zi mi_X10_lastWord 6 [(0, vr (some a4)), (2, vi x5)] [] h6 (c_X10_lastWord_L6 F a4 n x5 h6) := by
  intro n
  induction n with
  | zero => intro x5 h6; rw [c_X10_lastWord_L6]; exact z_none
  | succ n ih =>
    intro x5 h6
    rw [c_X10_lastWord_L6]
    refine z_iload_n (pc := 6) dX10_lastWord_6 rfl 1 rfl (z_iconst (pc := 7) dX10_lastWord_7 ic_1 (z_iadd (pc := 8) dX10_lastWord_8 (z_aload_n (pc := 9) dX10_lastWord_9 rfl 0 rfl (z_getI (pc := 10) fl_RX10_200 rfl dX10_lastWord_10 (?_)))))
    refine z_icmp_ge (pc := 13) (tgt := 33) dX10_lastWord_13 (by decide) ?_ ?_
    · refine z_iload_n (pc := 33) dX10_lastWord_33 rfl 1 rfl (?_)
      exact z_iret (pc := 34) dX10_lastWord_34 rfl rfl
    · refine z_aload_n (pc := 16) dX10_lastWord_16 rfl 0 rfl (z_getRl (pc := 17) fl_RX10_41 rfl dX10_lastWord_17 (fun o7 => (z_iload_n (pc := 20) dX10_lastWord_20 rfl 1 rfl (z_iconst (pc := 21) dX10_lastWord_21 ic_1 (z_iadd (pc := 22) dX10_lastWord_22 (?_))))))
      refine z_nn (fun a8 ea8 => ?_)
      subst ea8
      refine z_iaload (pc := 23) dX10_lastWord_23 (?_)
      refine z_if_le (pc := 24) (tgt := 33) dX10_lastWord_24 (by decide) ?_ ?_
      · refine z_iload_n (pc := 33) dX10_lastWord_33 rfl 1 rfl (?_)
        exact z_iret (pc := 34) dX10_lastWord_34 rfl rfl
      · refine z_iincl (pc := 27) (L' := fun x9 => [(0, vr (some a4)), (2, vi x9)]) dX10_lastWord_27 1 rfl ic_1 (Nat.le_of_ble_eq_true rfl) (fun _ => rfl) (fun x9 => (z_goto (pc := 30) (tgt := 6) dX10_lastWord_30 (by decide) (?_)))
        exact ih x9 h6
set_option maxRecDepth 20000 in
set_option maxHeartbeats 4000000 in
theorem t_X10_lastWord (F : Nat) (a0 : Nat) (x1 : Int32) (h0 : z_Hp) : z_Ct zi mi_X10_lastWord [vr (some a0), vi x1] h0 (c_X10_lastWord F a0 x1 h0) := by
  refine z_entry (by decide) (Nat.le_of_ble_eq_true rfl) [(0, vr (some a0)), (1, vi x1)] rfl ?_
  unfold c_X10_lastWord
  refine z_aload_n (pc := 0) dX10_lastWord_0 rfl 0 rfl (z_iload_n (pc := 1) dX10_lastWord_1 rfl 1 rfl (z_callV_I (pc := 2) (avs := [vi x1]) (st := []) rfl (q := (RX10, TX10, 62)) rfl rfl (t_X10_lineAt F a0 x1 h0) ky_X10_lineAt wm_X10_lineAt we_X10_lineAt wz_RX10_213 (rm_X10_lastWord_X10_lineAt) (Nat.le_of_ble_eq_true rfl) dX10_lastWord_2 (fun x3 h2 => (?_))))
  refine z_istore_n (pc := 5) (L' := [(0, vr (some a0)), (1, vi x1), (2, vi x3)]) dX10_lastWord_5 rfl (Nat.le_of_ble_eq_true rfl) rfl (?_)
  refine z_sub [0, 2] rfl (g_X10_lastWord_L6 F a0 F x3 h2)
theorem dX10_rhyme_0 : decode cX10_rhyme 0 = .ok (.aload_n 0, 1) := by decide +kernel
theorem dX10_rhyme_1 : decode cX10_rhyme 1 = .ok (.iload_n 1, 1) := by decide +kernel
theorem dX10_rhyme_2 : decode cX10_rhyme 2 = .ok (.invokevirtual 207, 3) := by decide +kernel
theorem dX10_rhyme_5 : decode cX10_rhyme 5 = .ok (.istore 4, 2) := by decide +kernel
theorem dX10_rhyme_7 : decode cX10_rhyme 7 = .ok (.iload 4, 2) := by decide +kernel
theorem dX10_rhyme_9 : decode cX10_rhyme 9 = .ok (.ifCond .ge 6, 3) := by decide +kernel
theorem dX10_rhyme_12 : decode cX10_rhyme 12 = .ok (.iload 4, 2) := by decide +kernel
theorem dX10_rhyme_14 : decode cX10_rhyme 14 = .ok (.ireturn, 1) := by decide +kernel
theorem dX10_rhyme_15 : decode cX10_rhyme 15 = .ok (.aload_n 0, 1) := by decide +kernel
theorem dX10_rhyme_16 : decode cX10_rhyme 16 = .ok (.iload_n 1, 1) := by decide +kernel
theorem dX10_rhyme_17 : decode cX10_rhyme 17 = .ok (.invokevirtual 210, 3) := by decide +kernel
theorem dX10_rhyme_20 : decode cX10_rhyme 20 = .ok (.istore 5, 2) := by decide +kernel
theorem dX10_rhyme_22 : decode cX10_rhyme 22 = .ok (.iload_n 2, 1) := by decide +kernel
theorem dX10_rhyme_23 : decode cX10_rhyme 23 = .ok (.iconst 0, 1) := by decide +kernel
theorem dX10_rhyme_24 : decode cX10_rhyme 24 = .ok (.iload 5, 2) := by decide +kernel
theorem dX10_rhyme_26 : decode cX10_rhyme 26 = .ok (.iconst 1, 1) := by decide +kernel
theorem dX10_rhyme_27 : decode cX10_rhyme 27 = .ok (.isub, 1) := by decide +kernel
theorem dX10_rhyme_28 : decode cX10_rhyme 28 = .ok (.invokestatic 166, 3) := by decide +kernel
theorem dX10_rhyme_31 : decode cX10_rhyme 31 = .ok (.ifCond .eq 15, 3) := by decide +kernel
theorem dX10_rhyme_34 : decode cX10_rhyme 34 = .ok (.iload_n 3, 1) := by decide +kernel
theorem dX10_rhyme_35 : decode cX10_rhyme 35 = .ok (.iconst 0, 1) := by decide +kernel
theorem dX10_rhyme_36 : decode cX10_rhyme 36 = .ok (.iload 5, 2) := by decide +kernel
theorem dX10_rhyme_38 : decode cX10_rhyme 38 = .ok (.iconst 1, 1) := by decide +kernel
theorem dX10_rhyme_39 : decode cX10_rhyme 39 = .ok (.isub, 1) := by decide +kernel
theorem dX10_rhyme_40 : decode cX10_rhyme 40 = .ok (.invokestatic 166, 3) := by decide +kernel
theorem dX10_rhyme_43 : decode cX10_rhyme 43 = .ok (.ifCond .ne 9, 3) := by decide +kernel
theorem dX10_rhyme_46 : decode cX10_rhyme 46 = .ok (.aload_n 0, 1) := by decide +kernel
theorem dX10_rhyme_47 : decode cX10_rhyme 47 = .ok (.iconst 2, 1) := by decide +kernel
theorem dX10_rhyme_48 : decode cX10_rhyme 48 = .ok (.invokevirtual 174, 3) := by decide +kernel
theorem dX10_rhyme_51 : decode cX10_rhyme 51 = .ok (.ireturn, 1) := by decide +kernel
theorem dX10_rhyme_52 : decode cX10_rhyme 52 = .ok (.aload_n 0, 1) := by decide +kernel
theorem dX10_rhyme_53 : decode cX10_rhyme 53 = .ok (.iload_n 2, 1) := by decide +kernel
theorem dX10_rhyme_54 : decode cX10_rhyme 54 = .ok (.invokevirtual 222, 3) := by decide +kernel
theorem dX10_rhyme_57 : decode cX10_rhyme 57 = .ok (.istore 6, 2) := by decide +kernel
theorem dX10_rhyme_59 : decode cX10_rhyme 59 = .ok (.aload_n 0, 1) := by decide +kernel
theorem dX10_rhyme_60 : decode cX10_rhyme 60 = .ok (.iload_n 3, 1) := by decide +kernel
theorem dX10_rhyme_61 : decode cX10_rhyme 61 = .ok (.invokevirtual 222, 3) := by decide +kernel
theorem dX10_rhyme_64 : decode cX10_rhyme 64 = .ok (.istore 7, 2) := by decide +kernel
theorem dX10_rhyme_66 : decode cX10_rhyme 66 = .ok (.aload_n 0, 1) := by decide +kernel
theorem dX10_rhyme_67 : decode cX10_rhyme 67 = .ok (.getfield 41, 3) := by decide +kernel
theorem dX10_rhyme_70 : decode cX10_rhyme 70 = .ok (.iload 6, 2) := by decide +kernel
theorem dX10_rhyme_72 : decode cX10_rhyme 72 = .ok (.iaload, 1) := by decide +kernel
theorem dX10_rhyme_73 : decode cX10_rhyme 73 = .ok (.iconst 2, 1) := by decide +kernel
theorem dX10_rhyme_74 : decode cX10_rhyme 74 = .ok (.if_icmp .ge 7, 3) := by decide +kernel
theorem dX10_rhyme_77 : decode cX10_rhyme 77 = .ok (.iconst 1, 1) := by decide +kernel
theorem dX10_rhyme_78 : decode cX10_rhyme 78 = .ok (.goto 4, 3) := by decide +kernel
theorem dX10_rhyme_81 : decode cX10_rhyme 81 = .ok (.iconst 2, 1) := by decide +kernel
theorem dX10_rhyme_82 : decode cX10_rhyme 82 = .ok (.istore 8, 2) := by decide +kernel
theorem dX10_rhyme_84 : decode cX10_rhyme 84 = .ok (.aload_n 0, 1) := by decide +kernel
theorem dX10_rhyme_85 : decode cX10_rhyme 85 = .ok (.getfield 41, 3) := by decide +kernel
theorem dX10_rhyme_88 : decode cX10_rhyme 88 = .ok (.iload 7, 2) := by decide +kernel
theorem dX10_rhyme_90 : decode cX10_rhyme 90 = .ok (.iaload, 1) := by decide +kernel
theorem dX10_rhyme_91 : decode cX10_rhyme 91 = .ok (.iconst 2, 1) := by decide +kernel
theorem dX10_rhyme_92 : decode cX10_rhyme 92 = .ok (.if_icmp .ge 7, 3) := by decide +kernel
theorem dX10_rhyme_95 : decode cX10_rhyme 95 = .ok (.iconst 1, 1) := by decide +kernel
theorem dX10_rhyme_96 : decode cX10_rhyme 96 = .ok (.goto 4, 3) := by decide +kernel
theorem dX10_rhyme_99 : decode cX10_rhyme 99 = .ok (.iconst 2, 1) := by decide +kernel
theorem dX10_rhyme_100 : decode cX10_rhyme 100 = .ok (.istore 9, 2) := by decide +kernel
theorem dX10_rhyme_102 : decode cX10_rhyme 102 = .ok (.iload 8, 2) := by decide +kernel
theorem dX10_rhyme_104 : decode cX10_rhyme 104 = .ok (.iload 9, 2) := by decide +kernel
theorem dX10_rhyme_106 : decode cX10_rhyme 106 = .ok (.if_icmp .ne 7, 3) := by decide +kernel
theorem dX10_rhyme_109 : decode cX10_rhyme 109 = .ok (.iconst 1, 1) := by decide +kernel
theorem dX10_rhyme_110 : decode cX10_rhyme 110 = .ok (.goto 4, 3) := by decide +kernel
theorem dX10_rhyme_113 : decode cX10_rhyme 113 = .ok (.iconst 0, 1) := by decide +kernel
theorem dX10_rhyme_114 : decode cX10_rhyme 114 = .ok (.istore 10, 2) := by decide +kernel
theorem dX10_rhyme_116 : decode cX10_rhyme 116 = .ok (.iconst 1, 1) := by decide +kernel
theorem dX10_rhyme_117 : decode cX10_rhyme 117 = .ok (.istore 11, 2) := by decide +kernel
theorem dX10_rhyme_119 : decode cX10_rhyme 119 = .ok (.iload 11, 2) := by decide +kernel
theorem dX10_rhyme_121 : decode cX10_rhyme 121 = .ok (.iload 8, 2) := by decide +kernel
theorem dX10_rhyme_123 : decode cX10_rhyme 123 = .ok (.if_icmp .gt 80, 3) := by decide +kernel
theorem dX10_rhyme_126 : decode cX10_rhyme 126 = .ok (.iload 10, 2) := by decide +kernel
theorem dX10_rhyme_128 : decode cX10_rhyme 128 = .ok (.ifCond .eq 75, 3) := by decide +kernel
theorem dX10_rhyme_131 : decode cX10_rhyme 131 = .ok (.aload_n 0, 1) := by decide +kernel
theorem dX10_rhyme_132 : decode cX10_rhyme 132 = .ok (.getfield 35, 3) := by decide +kernel
theorem dX10_rhyme_135 : decode cX10_rhyme 135 = .ok (.bipush 60, 2) := by decide +kernel
theorem dX10_rhyme_137 : decode cX10_rhyme 137 = .ok (.iload_n 1, 1) := by decide +kernel
theorem dX10_rhyme_138 : decode cX10_rhyme 138 = .ok (.imul, 1) := by decide +kernel
theorem dX10_rhyme_139 : decode cX10_rhyme 139 = .ok (.aload_n 0, 1) := by decide +kernel
theorem dX10_rhyme_140 : decode cX10_rhyme 140 = .ok (.getfield 38, 3) := by decide +kernel
theorem dX10_rhyme_143 : decode cX10_rhyme 143 = .ok (.iload 6, 2) := by decide +kernel
theorem dX10_rhyme_145 : decode cX10_rhyme 145 = .ok (.iaload, 1) := by decide +kernel
theorem dX10_rhyme_146 : decode cX10_rhyme 146 = .ok (.iadd, 1) := by decide +kernel
theorem dX10_rhyme_147 : decode cX10_rhyme 147 = .ok (.aload_n 0, 1) := by decide +kernel
theorem dX10_rhyme_148 : decode cX10_rhyme 148 = .ok (.getfield 41, 3) := by decide +kernel
theorem dX10_rhyme_151 : decode cX10_rhyme 151 = .ok (.iload 6, 2) := by decide +kernel
theorem dX10_rhyme_153 : decode cX10_rhyme 153 = .ok (.iaload, 1) := by decide +kernel
theorem dX10_rhyme_154 : decode cX10_rhyme 154 = .ok (.iadd, 1) := by decide +kernel
theorem dX10_rhyme_155 : decode cX10_rhyme 155 = .ok (.iload 11, 2) := by decide +kernel
theorem dX10_rhyme_157 : decode cX10_rhyme 157 = .ok (.isub, 1) := by decide +kernel
theorem dX10_rhyme_158 : decode cX10_rhyme 158 = .ok (.iaload, 1) := by decide +kernel
theorem dX10_rhyme_159 : decode cX10_rhyme 159 = .ok (.aload_n 0, 1) := by decide +kernel
theorem dX10_rhyme_160 : decode cX10_rhyme 160 = .ok (.getfield 35, 3) := by decide +kernel
theorem dX10_rhyme_163 : decode cX10_rhyme 163 = .ok (.bipush 60, 2) := by decide +kernel
theorem dX10_rhyme_165 : decode cX10_rhyme 165 = .ok (.iload_n 1, 1) := by decide +kernel
theorem dX10_rhyme_166 : decode cX10_rhyme 166 = .ok (.imul, 1) := by decide +kernel
theorem dX10_rhyme_167 : decode cX10_rhyme 167 = .ok (.aload_n 0, 1) := by decide +kernel
theorem dX10_rhyme_168 : decode cX10_rhyme 168 = .ok (.getfield 38, 3) := by decide +kernel
theorem dX10_rhyme_171 : decode cX10_rhyme 171 = .ok (.iload 7, 2) := by decide +kernel
theorem dX10_rhyme_173 : decode cX10_rhyme 173 = .ok (.iaload, 1) := by decide +kernel
theorem dX10_rhyme_174 : decode cX10_rhyme 174 = .ok (.iadd, 1) := by decide +kernel
theorem dX10_rhyme_175 : decode cX10_rhyme 175 = .ok (.aload_n 0, 1) := by decide +kernel
theorem dX10_rhyme_176 : decode cX10_rhyme 176 = .ok (.getfield 41, 3) := by decide +kernel
theorem dX10_rhyme_179 : decode cX10_rhyme 179 = .ok (.iload 7, 2) := by decide +kernel
theorem dX10_rhyme_181 : decode cX10_rhyme 181 = .ok (.iaload, 1) := by decide +kernel
theorem dX10_rhyme_182 : decode cX10_rhyme 182 = .ok (.iadd, 1) := by decide +kernel
theorem dX10_rhyme_183 : decode cX10_rhyme 183 = .ok (.iload 11, 2) := by decide +kernel
theorem dX10_rhyme_185 : decode cX10_rhyme 185 = .ok (.isub, 1) := by decide +kernel
theorem dX10_rhyme_186 : decode cX10_rhyme 186 = .ok (.iaload, 1) := by decide +kernel
theorem dX10_rhyme_187 : decode cX10_rhyme 187 = .ok (.if_icmp .ne 7, 3) := by decide +kernel
theorem dX10_rhyme_190 : decode cX10_rhyme 190 = .ok (.iconst 1, 1) := by decide +kernel
theorem dX10_rhyme_191 : decode cX10_rhyme 191 = .ok (.goto 4, 3) := by decide +kernel
theorem dX10_rhyme_194 : decode cX10_rhyme 194 = .ok (.iconst 0, 1) := by decide +kernel
theorem dX10_rhyme_195 : decode cX10_rhyme 195 = .ok (.istore 10, 2) := by decide +kernel
theorem dX10_rhyme_197 : decode cX10_rhyme 197 = .ok (.iinc 11 1, 3) := by decide +kernel
theorem dX10_rhyme_200 : decode cX10_rhyme 200 = .ok (.goto (-81), 3) := by decide +kernel
theorem dX10_rhyme_203 : decode cX10_rhyme 203 = .ok (.iload 10, 2) := by decide +kernel
theorem dX10_rhyme_205 : decode cX10_rhyme 205 = .ok (.ifCond .eq 7, 3) := by decide +kernel
theorem dX10_rhyme_208 : decode cX10_rhyme 208 = .ok (.iconst 1, 1) := by decide +kernel
theorem dX10_rhyme_209 : decode cX10_rhyme 209 = .ok (.goto 4, 3) := by decide +kernel
theorem dX10_rhyme_212 : decode cX10_rhyme 212 = .ok (.iconst 0, 1) := by decide +kernel
theorem dX10_rhyme_213 : decode cX10_rhyme 213 = .ok (.ireturn, 1) := by decide +kernel
def c_X10_rhyme_L119 (F : Nat) (a33 : Nat) (x34 : Int32) (x35 : Int32) (x36 : Int32) (x37 : Int32) (k203 : Int32 → z_Hp → Option (Int32 × z_Hp)) : Nat → Int32 → Int32 → z_Hp → Option (Int32 × z_Hp)
  | 0, _, _, _ => none
  | n + 1, x38, x39, h40 => (if x37 < x39 then (k203 x38 h40) else (if x38 = 0 then (k203 x38 h40) else (if hT h40 a33 = 10 then (lt_ (hR h40 a33 13) (fun o43 => (if hT h40 a33 = 10 then (lt_ (hR h40 a33 15) (fun o44 => (nn o44 (fun a45 => (if okA h40 a45 20 x35 = true then (if hT h40 a33 = 10 then (lt_ (hR h40 a33 16) (fun o46 => (nn o46 (fun a47 => (if okA h40 a47 20 x35 = true then (nn o43 (fun a48 => (if okA h40 a48 20 ((((60 * x34) + (hI h40 a45 (ix x35))) + (hI h40 a47 (ix x35))) - x39) = true then (if hT h40 a33 = 10 then (lt_ (hR h40 a33 13) (fun o49 => (if hT h40 a33 = 10 then (lt_ (hR h40 a33 15) (fun o50 => (nn o50 (fun a51 => (if okA h40 a51 20 x36 = true then (if hT h40 a33 = 10 then (lt_ (hR h40 a33 16) (fun o52 => (nn o52 (fun a53 => (if okA h40 a53 20 x36 = true then (nn o49 (fun a54 => (if okA h40 a54 20 ((((60 * x34) + (hI h40 a51 (ix x36))) + (hI h40 a53 (ix x36))) - x39) = true then (lt_ (fun (x56 : Int32) (h57 : z_Hp) => (lt_ (x39 + 1) (fun x58 => (c_X10_rhyme_L119 F a33 x34 x35 x36 x37 k203 n x56 x58 h57)))) (fun (j195_55 : Int32 → z_Hp → Option (Int32 × z_Hp)) => (if (hI h40 a48 (ix ((((60 * x34) + (hI h40 a45 (ix x35))) + (hI h40 a47 (ix x35))) - x39))) = (hI h40 a54 (ix ((((60 * x34) + (hI h40 a51 (ix x36))) + (hI h40 a53 (ix x36))) - x39))) then (j195_55 1 h40) else (j195_55 0 h40)))) else none))) else none))))) else none) else none))))) else none))) else none) else none))) else none))))) else none) else none))))) else none))) else none)))
def c_X10_rhyme (F : Nat) (a0 : Nat) (x1 : Int32) (x2 : Int32) (x3 : Int32) (h0 : z_Hp) : Option (Int32 × z_Hp) := (if hT h0 a0 = 10 then (bI (c_X10_askedSong F a0 x1 h0) (fun x5 h4 => (if 0 ≤ x5 then (if hT h4 a0 = 10 then (bI (c_X10_linesOf F a0 x1 h4) (fun x7 h6 => (bI (c_X10_in F x2 0 (x7 - 1) h6) (fun x9 h8 => (lt_ (fun (h11 : z_Hp) => (if hT h11 a0 = 10 then (bI (c_X10_meets F a0 2 h11) (fun x13 h12 => (some (x13, h12)))) else none)) (fun (j46_10 : z_Hp → Option (Int32 × z_Hp)) => (if x9 = 0 then (j46_10 h8) else (bI (c_X10_in F x3 0 (x7 - 1) h8) (fun x15 h14 => (if x15 = 0 then (j46_10 h14) else (if hT h14 a0 = 10 then (bI (c_X10_lastWord F a0 x2 h14) (fun x17 h16 => (if hT h16 a0 = 10 then (bI (c_X10_lastWord F a0 x3 h16) (fun x19 h18 => (if hT h18 a0 = 10 then (lt_ (hR h18 a0 16) (fun o20 => (nn o20 (fun a21 => (if okA h18 a21 20 x17 = true then (lt_ (fun (x23 : Int32) (h24 : z_Hp) => (if hT h24 a0 = 10 then (lt_ (hR h24 a0 16) (fun o25 => (nn o25 (fun a26 => (if okA h24 a26 20 x19 = true then (lt_ (fun (x28 : Int32) (h29 : z_Hp) => (lt_ (fun (x31 : Int32) (h32 : z_Hp) => (c_X10_rhyme_L119 F a0 x1 x17 x19 x23 (fun x59 h60 => (if x59 = 0 then (some (0, h60)) else (some (1, h60)))) F x31 1 h32)) (fun (j114_30 : Int32 → z_Hp → Option (Int32 × z_Hp)) => (if x23 = x28 then (j114_30 1 h29) else (j114_30 0 h29))))) (fun (j100_27 : Int32 → z_Hp → Option (Int32 × z_Hp)) => (if 2 ≤ (hI h24 a26 (ix x19)) then (j100_27 2 h24) else (j100_27 1 h24)))) else none))))) else none)) (fun (j82_22 : Int32 → z_Hp → Option (Int32 × z_Hp)) => (if 2 ≤ (hI h18 a21 (ix x17)) then (j82_22 2 h18) else (j82_22 1 h18)))) else none))))) else none))) else none))) else none))))))))))) else none) else (some (x5, h4))))) else none)
set_option maxRecDepth 20000 in
set_option maxHeartbeats 4000000 in
theorem g_X10_rhyme_L119 (F : Nat) (a33 : Nat) (x34 : Int32) (x35 : Int32) (x36 : Int32) (x37 : Int32) (k203 : Int32 → z_Hp → Option (Int32 × z_Hp)) (qk203 : ∀ (x41 : Int32) (h42 : z_Hp), z_G zi mi_X10_rhyme 203 [(10, vi x41)] [] h42 (k203 x41 h42)) : ∀ (n : Nat) (x38 : Int32) (x39 : Int32) (h40 : z_Hp), z_G zi mi_X10_rhyme 119 [(0, vr (some a33)), (1, vi x34), (6, vi x35), (7, vi x36), (8, vi x37), (10, vi x38), (11, vi x39)] [] h40 (c_X10_rhyme_L119 F a33 x34 x35 x36 x37 k203 n x38 x39 h40) := by
  intro n
  induction n with
  | zero => intro x38 x39 h40; rw [c_X10_rhyme_L119]; exact z_none
  | succ n ih =>
    intro x38 x39 h40
    rw [c_X10_rhyme_L119]
    refine z_iload (pc := 119) dX10_rhyme_119 6 rfl (z_iload (pc := 121) dX10_rhyme_121 4 rfl (?_))
    refine z_icmp_gt (pc := 123) (tgt := 203) dX10_rhyme_123 (by decide) ?_ ?_
    · exact z_sub [5] rfl (qk203 x38 h40)
    · refine z_iload (pc := 126) dX10_rhyme_126 5 rfl (?_)
      refine z_if_eq (pc := 128) (tgt := 203) dX10_rhyme_128 (by decide) ?_ ?_
      · exact z_sub [5] rfl (qk203 x38 h40)
      · refine z_aload_n (pc := 131) dX10_rhyme_131 rfl 0 rfl (z_getRl (pc := 132) fl_RX10_35 rfl dX10_rhyme_132 (fun o43 => (z_bipush (pc := 135) dX10_rhyme_135 bp_60 (z_iload_n (pc := 137) dX10_rhyme_137 rfl 1 rfl (z_imul (pc := 138) dX10_rhyme_138 (z_aload_n (pc := 139) dX10_rhyme_139 rfl 0 rfl (z_getRl (pc := 140) fl_RX10_38 rfl dX10_rhyme_140 (fun o44 => (z_iload (pc := 143) dX10_rhyme_143 2 rfl (?_))))))))))
        refine z_nn (fun a45 ea45 => ?_)
        subst ea45
        refine z_iaload (pc := 145) dX10_rhyme_145 (z_iadd (pc := 146) dX10_rhyme_146 (z_aload_n (pc := 147) dX10_rhyme_147 rfl 0 rfl (z_getRl (pc := 148) fl_RX10_41 rfl dX10_rhyme_148 (fun o46 => (z_iload (pc := 151) dX10_rhyme_151 2 rfl (?_))))))
        refine z_nn (fun a47 ea47 => ?_)
        subst ea47
        refine z_iaload (pc := 153) dX10_rhyme_153 (z_iadd (pc := 154) dX10_rhyme_154 (z_iload (pc := 155) dX10_rhyme_155 6 rfl (z_isub (pc := 157) dX10_rhyme_157 (?_))))
        refine z_nn (fun a48 ea48 => ?_)
        subst ea48
        refine z_iaload (pc := 158) dX10_rhyme_158 (z_aload_n (pc := 159) dX10_rhyme_159 rfl 0 rfl (z_getRl (pc := 160) fl_RX10_35 rfl dX10_rhyme_160 (fun o49 => (z_bipush (pc := 163) dX10_rhyme_163 bp_60 (z_iload_n (pc := 165) dX10_rhyme_165 rfl 1 rfl (z_imul (pc := 166) dX10_rhyme_166 (z_aload_n (pc := 167) dX10_rhyme_167 rfl 0 rfl (z_getRl (pc := 168) fl_RX10_38 rfl dX10_rhyme_168 (fun o50 => (?_))))))))))
        refine z_iload (pc := 171) dX10_rhyme_171 3 rfl (?_)
        refine z_nn (fun a51 ea51 => ?_)
        subst ea51
        refine z_iaload (pc := 173) dX10_rhyme_173 (z_iadd (pc := 174) dX10_rhyme_174 (z_aload_n (pc := 175) dX10_rhyme_175 rfl 0 rfl (z_getRl (pc := 176) fl_RX10_41 rfl dX10_rhyme_176 (fun o52 => (z_iload (pc := 179) dX10_rhyme_179 3 rfl (?_))))))
        refine z_nn (fun a53 ea53 => ?_)
        subst ea53
        refine z_iaload (pc := 181) dX10_rhyme_181 (z_iadd (pc := 182) dX10_rhyme_182 (z_iload (pc := 183) dX10_rhyme_183 6 rfl (z_isub (pc := 185) dX10_rhyme_185 (?_))))
        refine z_nn (fun a54 ea54 => ?_)
        subst ea54
        refine z_iaload (pc := 186) dX10_rhyme_186 (?_)
        refine z_jn (P := fun (j : Int32 → z_Hp → Option (Int32 × z_Hp)) => ∀ (x56 : Int32) (h57 : z_Hp), z_G zi mi_X10_rhyme 195 [(0, vr (some a33)), (1, vi x34), (6, vi x35), (7, vi x36), (8, vi x37), (11, vi x39)] [vi x56] h57 (j x56 h57)) (fun x56 h57 => ?_) (fun j195_55 qj195_55 => ?_)
        · refine z_istore (pc := 195) (L' := [(0, vr (some a33)), (1, vi x34), (6, vi x35), (7, vi x36), (8, vi x37), (10, vi x56), (11, vi x39)]) dX10_rhyme_195 (Nat.le_of_ble_eq_true rfl) rfl (z_iincl (pc := 197) (L' := fun x58 => [(0, vr (some a33)), (1, vi x34), (6, vi x35), (7, vi x36), (8, vi x37), (10, vi x56), (11, vi x58)]) dX10_rhyme_197 6 rfl ic_1 (Nat.le_of_ble_eq_true rfl) (fun _ => rfl) (fun x58 => (z_goto (pc := 200) (tgt := 119) dX10_rhyme_200 (by decide) (?_))))
          exact ih x56 x58 h57
        refine z_icmp_ne (pc := 187) (tgt := 194) dX10_rhyme_187 (by decide) ?_ ?_
        · refine z_iconst (pc := 194) dX10_rhyme_194 ic_0 (?_)
          exact z_sub [0, 1, 2, 3, 4, 6] rfl (qj195_55 0 h40)
        · refine z_iconst (pc := 190) dX10_rhyme_190 ic_1 (z_goto (pc := 191) (tgt := 195) dX10_rhyme_191 (by decide) (?_))
          exact z_sub [0, 1, 2, 3, 4, 6] rfl (qj195_55 1 h40)
set_option maxRecDepth 20000 in
set_option maxHeartbeats 4000000 in
theorem t_X10_rhyme (F : Nat) (a0 : Nat) (x1 : Int32) (x2 : Int32) (x3 : Int32) (h0 : z_Hp) : z_Ct zi mi_X10_rhyme [vr (some a0), vi x1, vi x2, vi x3] h0 (c_X10_rhyme F a0 x1 x2 x3 h0) := by
  refine z_entry (by decide) (Nat.le_of_ble_eq_true rfl) [(0, vr (some a0)), (1, vi x1), (2, vi x2), (3, vi x3)] rfl ?_
  unfold c_X10_rhyme
  refine z_aload_n (pc := 0) dX10_rhyme_0 rfl 0 rfl (z_iload_n (pc := 1) dX10_rhyme_1 rfl 1 rfl (z_callV_I (pc := 2) (avs := [vi x1]) (st := []) rfl (q := (RX10, TX10, 62)) rfl rfl (t_X10_askedSong F a0 x1 h0) ky_X10_askedSong wm_X10_askedSong we_X10_askedSong wz_RX10_207 (rm_X10_rhyme_X10_askedSong) (Nat.le_of_ble_eq_true rfl) dX10_rhyme_2 (fun x5 h4 => (?_))))
  refine z_istore (pc := 5) (L' := [(0, vr (some a0)), (1, vi x1), (2, vi x2), (3, vi x3), (4, vi x5)]) dX10_rhyme_5 (Nat.le_of_ble_eq_true rfl) rfl (z_iload (pc := 7) dX10_rhyme_7 4 rfl (?_))
  refine z_if_ge (pc := 9) (tgt := 15) dX10_rhyme_9 (by decide) ?_ ?_
  · refine z_aload_n (pc := 15) dX10_rhyme_15 rfl 0 rfl (z_iload_n (pc := 16) dX10_rhyme_16 rfl 1 rfl (z_callV_I (pc := 17) (avs := [vi x1]) (st := []) rfl (q := (RX10, TX10, 62)) rfl rfl (t_X10_linesOf F a0 x1 h4) ky_X10_linesOf wm_X10_linesOf we_X10_linesOf wz_RX10_210 (rm_X10_rhyme_X10_linesOf) (Nat.le_of_ble_eq_true rfl) dX10_rhyme_17 (fun x7 h6 => (?_))))
    refine z_istore (pc := 20) (L' := [(0, vr (some a0)), (1, vi x1), (2, vi x2), (3, vi x3), (4, vi x5), (5, vi x7)]) dX10_rhyme_20 (Nat.le_of_ble_eq_true rfl) rfl (z_iload_n (pc := 22) dX10_rhyme_22 rfl 2 rfl (z_iconst (pc := 23) dX10_rhyme_23 ic_0 (z_iload (pc := 24) dX10_rhyme_24 5 rfl (z_iconst (pc := 26) dX10_rhyme_26 ic_1 (z_isub (pc := 27) dX10_rhyme_27 (z_callS_I (pc := 28) (avs := [vi x2, vi 0, vi (x7 - 1)]) (st := []) rfl (t_X10_in F x2 0 (x7 - 1) h6) ky_X10_in ws_X10_in wz_RX10_166 (rm_X10_rhyme_X10_in) (Nat.le_of_ble_eq_true rfl) dX10_rhyme_28 (fun x9 h8 => (?_))))))))
    refine z_jn (P := fun (j : z_Hp → Option (Int32 × z_Hp)) => ∀ (h11 : z_Hp), z_G zi mi_X10_rhyme 46 [(0, vr (some a0))] [] h11 (j h11)) (fun h11 => ?_) (fun j46_10 qj46_10 => ?_)
    · refine z_aload_n (pc := 46) dX10_rhyme_46 rfl 0 rfl (z_iconst (pc := 47) dX10_rhyme_47 ic_2 (z_callV_I (pc := 48) (avs := [vi 2]) (st := []) rfl (q := (RX10, TX10, 62)) rfl rfl (t_X10_meets F a0 2 h11) ky_X10_meets wm_X10_meets we_X10_meets wz_RX10_174 (rm_X10_rhyme_X10_meets) (Nat.le_of_ble_eq_true rfl) dX10_rhyme_48 (fun x13 h12 => (?_))))
      exact z_iret (pc := 51) dX10_rhyme_51 rfl rfl
    refine z_if_eq (pc := 31) (tgt := 46) dX10_rhyme_31 (by decide) ?_ ?_
    · exact z_sub [0] rfl (qj46_10 h8)
    · refine z_iload_n (pc := 34) dX10_rhyme_34 rfl 3 rfl (z_iconst (pc := 35) dX10_rhyme_35 ic_0 (z_iload (pc := 36) dX10_rhyme_36 5 rfl (z_iconst (pc := 38) dX10_rhyme_38 ic_1 (z_isub (pc := 39) dX10_rhyme_39 (z_callS_I (pc := 40) (avs := [vi x3, vi 0, vi (x7 - 1)]) (st := []) rfl (t_X10_in F x3 0 (x7 - 1) h8) ky_X10_in ws_X10_in wz_RX10_166 (rm_X10_rhyme_X10_in) (Nat.le_of_ble_eq_true rfl) dX10_rhyme_40 (fun x15 h14 => (?_)))))))
      refine z_if_ne (pc := 43) (tgt := 52) dX10_rhyme_43 (by decide) ?_ ?_
      · refine z_aload_n (pc := 52) dX10_rhyme_52 rfl 0 rfl (z_iload_n (pc := 53) dX10_rhyme_53 rfl 2 rfl (z_callV_I (pc := 54) (avs := [vi x2]) (st := []) rfl (q := (RX10, TX10, 62)) rfl rfl (t_X10_lastWord F a0 x2 h14) ky_X10_lastWord wm_X10_lastWord we_X10_lastWord wz_RX10_222 (rm_X10_rhyme_X10_lastWord) (Nat.le_of_ble_eq_true rfl) dX10_rhyme_54 (fun x17 h16 => (?_))))
        refine z_istore (pc := 57) (L' := [(0, vr (some a0)), (1, vi x1), (2, vi x2), (3, vi x3), (4, vi x5), (5, vi x7), (6, vi x17)]) dX10_rhyme_57 (Nat.le_of_ble_eq_true rfl) rfl (z_aload_n (pc := 59) dX10_rhyme_59 rfl 0 rfl (z_iload_n (pc := 60) dX10_rhyme_60 rfl 3 rfl (z_callV_I (pc := 61) (avs := [vi x3]) (st := []) rfl (q := (RX10, TX10, 62)) rfl rfl (t_X10_lastWord F a0 x3 h16) ky_X10_lastWord wm_X10_lastWord we_X10_lastWord wz_RX10_222 (rm_X10_rhyme_X10_lastWord) (Nat.le_of_ble_eq_true rfl) dX10_rhyme_61 (fun x19 h18 => (?_)))))
        refine z_istore (pc := 64) (L' := [(0, vr (some a0)), (1, vi x1), (2, vi x2), (3, vi x3), (4, vi x5), (5, vi x7), (6, vi x17), (7, vi x19)]) dX10_rhyme_64 (Nat.le_of_ble_eq_true rfl) rfl (z_aload_n (pc := 66) dX10_rhyme_66 rfl 0 rfl (z_getRl (pc := 67) fl_RX10_41 rfl dX10_rhyme_67 (fun o20 => (z_iload (pc := 70) dX10_rhyme_70 6 rfl (?_)))))
        refine z_nn (fun a21 ea21 => ?_)
        subst ea21
        refine z_iaload (pc := 72) dX10_rhyme_72 (z_iconst (pc := 73) dX10_rhyme_73 ic_2 (?_))
        refine z_jn (P := fun (j : Int32 → z_Hp → Option (Int32 × z_Hp)) => ∀ (x23 : Int32) (h24 : z_Hp), z_G zi mi_X10_rhyme 82 [(0, vr (some a0)), (1, vi x1), (6, vi x17), (7, vi x19)] [vi x23] h24 (j x23 h24)) (fun x23 h24 => ?_) (fun j82_22 qj82_22 => ?_)
        · refine z_istore (pc := 82) (L' := [(0, vr (some a0)), (1, vi x1), (6, vi x17), (7, vi x19), (8, vi x23)]) dX10_rhyme_82 (Nat.le_of_ble_eq_true rfl) rfl (z_aload_n (pc := 84) dX10_rhyme_84 rfl 0 rfl (z_getRl (pc := 85) fl_RX10_41 rfl dX10_rhyme_85 (fun o25 => (z_iload (pc := 88) dX10_rhyme_88 3 rfl (?_)))))
          refine z_nn (fun a26 ea26 => ?_)
          subst ea26
          refine z_iaload (pc := 90) dX10_rhyme_90 (z_iconst (pc := 91) dX10_rhyme_91 ic_2 (?_))
          refine z_jn (P := fun (j : Int32 → z_Hp → Option (Int32 × z_Hp)) => ∀ (x28 : Int32) (h29 : z_Hp), z_G zi mi_X10_rhyme 100 [(0, vr (some a0)), (1, vi x1), (6, vi x17), (7, vi x19), (8, vi x23)] [vi x28] h29 (j x28 h29)) (fun x28 h29 => ?_) (fun j100_27 qj100_27 => ?_)
          · refine z_istore (pc := 100) (L' := [(0, vr (some a0)), (1, vi x1), (6, vi x17), (7, vi x19), (8, vi x23), (9, vi x28)]) dX10_rhyme_100 (Nat.le_of_ble_eq_true rfl) rfl (z_iload (pc := 102) dX10_rhyme_102 4 rfl (z_iload (pc := 104) dX10_rhyme_104 5 rfl (?_)))
            refine z_jn (P := fun (j : Int32 → z_Hp → Option (Int32 × z_Hp)) => ∀ (x31 : Int32) (h32 : z_Hp), z_G zi mi_X10_rhyme 114 [(0, vr (some a0)), (1, vi x1), (6, vi x17), (7, vi x19), (8, vi x23)] [vi x31] h32 (j x31 h32)) (fun x31 h32 => ?_) (fun j114_30 qj114_30 => ?_)
            · refine z_istore (pc := 114) (L' := [(0, vr (some a0)), (1, vi x1), (6, vi x17), (7, vi x19), (8, vi x23), (10, vi x31)]) dX10_rhyme_114 (Nat.le_of_ble_eq_true rfl) rfl (z_iconst (pc := 116) dX10_rhyme_116 ic_1 (z_istore (pc := 117) (L' := [(0, vr (some a0)), (1, vi x1), (6, vi x17), (7, vi x19), (8, vi x23), (10, vi x31), (11, vi 1)]) dX10_rhyme_117 (Nat.le_of_ble_eq_true rfl) rfl (?_)))
              refine g_X10_rhyme_L119 F a0 x1 x17 x19 x23 _ (fun x59 h60 => ?_) F x31 1 h32
              refine z_iload (pc := 203) dX10_rhyme_203 0 rfl (?_)
              refine z_if_eq (pc := 205) (tgt := 212) dX10_rhyme_205 (by decide) ?_ ?_
              · refine z_iconst (pc := 212) dX10_rhyme_212 ic_0 (?_)
                exact z_iret (pc := 213) dX10_rhyme_213 rfl rfl
              · refine z_iconst (pc := 208) dX10_rhyme_208 ic_1 (z_goto (pc := 209) (tgt := 213) dX10_rhyme_209 (by decide) (?_))
                exact z_iret (pc := 213) dX10_rhyme_213 rfl rfl
            refine z_icmp_ne (pc := 106) (tgt := 113) dX10_rhyme_106 (by decide) ?_ ?_
            · refine z_iconst (pc := 113) dX10_rhyme_113 ic_0 (?_)
              exact z_sub [0, 1, 2, 3, 4] rfl (qj114_30 0 h29)
            · refine z_iconst (pc := 109) dX10_rhyme_109 ic_1 (z_goto (pc := 110) (tgt := 114) dX10_rhyme_110 (by decide) (?_))
              exact z_sub [0, 1, 2, 3, 4] rfl (qj114_30 1 h29)
          refine z_icmp_ge (pc := 92) (tgt := 99) dX10_rhyme_92 (by decide) ?_ ?_
          · refine z_iconst (pc := 99) dX10_rhyme_99 ic_2 (?_)
            exact qj100_27 2 h24
          · refine z_iconst (pc := 95) dX10_rhyme_95 ic_1 (z_goto (pc := 96) (tgt := 100) dX10_rhyme_96 (by decide) (?_))
            exact qj100_27 1 h24
        refine z_icmp_ge (pc := 74) (tgt := 81) dX10_rhyme_74 (by decide) ?_ ?_
        · refine z_iconst (pc := 81) dX10_rhyme_81 ic_2 (?_)
          exact z_sub [0, 1, 6, 7] rfl (qj82_22 2 h18)
        · refine z_iconst (pc := 77) dX10_rhyme_77 ic_1 (z_goto (pc := 78) (tgt := 82) dX10_rhyme_78 (by decide) (?_))
          exact z_sub [0, 1, 6, 7] rfl (qj82_22 1 h18)
      · exact z_sub [0] rfl (qj46_10 h14)
  · refine z_iload (pc := 12) dX10_rhyme_12 4 rfl (?_)
    exact z_iret (pc := 14) dX10_rhyme_14 rfl rfl
theorem dX10_isTune_0 : decode cX10_isTune 0 = .ok (.iload_n 0, 1) := by decide +kernel
theorem dX10_isTune_1 : decode cX10_isTune 1 = .ok (.iconst 0, 1) := by decide +kernel
theorem dX10_isTune_2 : decode cX10_isTune 2 = .ok (.iconst 5, 1) := by decide +kernel
theorem dX10_isTune_3 : decode cX10_isTune 3 = .ok (.invokestatic 166, 3) := by decide +kernel
theorem dX10_isTune_6 : decode cX10_isTune 6 = .ok (.ireturn, 1) := by decide +kernel
def c_X10_isTune (F : Nat) (x1 : Int32) (h0 : z_Hp) : Option (Int32 × z_Hp) := (bI (c_X10_in F x1 0 5 h0) (fun x3 h2 => (if x3 = 0 ∨ x3 = 1 then some (x3, h2) else none)))
set_option maxRecDepth 20000 in
set_option maxHeartbeats 4000000 in
theorem t_X10_isTune (F : Nat) (x1 : Int32) (h0 : z_Hp) : z_Ct zi mi_X10_isTune [vi x1] h0 (c_X10_isTune F x1 h0) := by
  refine z_entry (by decide) (Nat.le_of_ble_eq_true rfl) [(0, vi x1)] rfl ?_
  unfold c_X10_isTune
  refine z_iload_n (pc := 0) dX10_isTune_0 rfl 0 rfl (z_iconst (pc := 1) dX10_isTune_1 ic_0 (z_iconst (pc := 2) dX10_isTune_2 ic_5 (z_callS_I (pc := 3) (avs := [vi x1, vi 0, vi 5]) (st := []) rfl (t_X10_in F x1 0 5 h0) ky_X10_in ws_X10_in wz_RX10_166 (rm_X10_isTune_X10_in) (Nat.le_of_ble_eq_true rfl) dX10_isTune_3 (fun x3 h2 => (?_)))))
  exact z_zret (pc := 6) dX10_isTune_6 rfl
theorem dX10_tune_0 : decode cX10_tune 0 = .ok (.iload_n 1, 1) := by decide +kernel
theorem dX10_tune_1 : decode cX10_tune 1 = .ok (.invokestatic 225, 3) := by decide +kernel
theorem dX10_tune_4 : decode cX10_tune 4 = .ok (.ifCond .eq 10, 3) := by decide +kernel
theorem dX10_tune_7 : decode cX10_tune 7 = .ok (.iload_n 2, 1) := by decide +kernel
theorem dX10_tune_8 : decode cX10_tune 8 = .ok (.invokestatic 170, 3) := by decide +kernel
theorem dX10_tune_11 : decode cX10_tune 11 = .ok (.ifCond .ne 5, 3) := by decide +kernel
theorem dX10_tune_14 : decode cX10_tune 14 = .ok (.iconst (-1), 1) := by decide +kernel
theorem dX10_tune_15 : decode cX10_tune 15 = .ok (.ireturn, 1) := by decide +kernel
theorem dX10_tune_16 : decode cX10_tune 16 = .ok (.aload_n 0, 1) := by decide +kernel
theorem dX10_tune_17 : decode cX10_tune 17 = .ok (.getfield 17, 3) := by decide +kernel
theorem dX10_tune_20 : decode cX10_tune 20 = .ok (.iload_n 2, 1) := by decide +kernel
theorem dX10_tune_21 : decode cX10_tune 21 = .ok (.iaload, 1) := by decide +kernel
theorem dX10_tune_22 : decode cX10_tune 22 = .ok (.ifCond .ge 9, 3) := by decide +kernel
theorem dX10_tune_25 : decode cX10_tune 25 = .ok (.aload_n 0, 1) := by decide +kernel
theorem dX10_tune_26 : decode cX10_tune 26 = .ok (.iconst 1, 1) := by decide +kernel
theorem dX10_tune_27 : decode cX10_tune 27 = .ok (.invokevirtual 174, 3) := by decide +kernel
theorem dX10_tune_30 : decode cX10_tune 30 = .ok (.ireturn, 1) := by decide +kernel
theorem dX10_tune_31 : decode cX10_tune 31 = .ok (.aload_n 0, 1) := by decide +kernel
theorem dX10_tune_32 : decode cX10_tune 32 = .ok (.getfield 17, 3) := by decide +kernel
theorem dX10_tune_35 : decode cX10_tune 35 = .ok (.iload_n 2, 1) := by decide +kernel
theorem dX10_tune_36 : decode cX10_tune 36 = .ok (.iaload, 1) := by decide +kernel
theorem dX10_tune_37 : decode cX10_tune 37 = .ok (.iconst 1, 1) := by decide +kernel
theorem dX10_tune_38 : decode cX10_tune 38 = .ok (.bipush 8, 2) := by decide +kernel
theorem dX10_tune_40 : decode cX10_tune 40 = .ok (.invokestatic 166, 3) := by decide +kernel
theorem dX10_tune_43 : decode cX10_tune 43 = .ok (.ifCond .ne 9, 3) := by decide +kernel
theorem dX10_tune_46 : decode cX10_tune 46 = .ok (.aload_n 0, 1) := by decide +kernel
theorem dX10_tune_47 : decode cX10_tune 47 = .ok (.iconst 5, 1) := by decide +kernel
theorem dX10_tune_48 : decode cX10_tune 48 = .ok (.invokevirtual 174, 3) := by decide +kernel
theorem dX10_tune_51 : decode cX10_tune 51 = .ok (.ireturn, 1) := by decide +kernel
theorem dX10_tune_52 : decode cX10_tune 52 = .ok (.iconst 0, 1) := by decide +kernel
theorem dX10_tune_53 : decode cX10_tune 53 = .ok (.istore_n 3, 1) := by decide +kernel
theorem dX10_tune_54 : decode cX10_tune 54 = .ok (.iload_n 3, 1) := by decide +kernel
theorem dX10_tune_55 : decode cX10_tune 55 = .ok (.aload_n 0, 1) := by decide +kernel
theorem dX10_tune_56 : decode cX10_tune 56 = .ok (.getfield 17, 3) := by decide +kernel
theorem dX10_tune_59 : decode cX10_tune 59 = .ok (.iload_n 2, 1) := by decide +kernel
theorem dX10_tune_60 : decode cX10_tune 60 = .ok (.iaload, 1) := by decide +kernel
theorem dX10_tune_61 : decode cX10_tune 61 = .ok (.if_icmp .ge 35, 3) := by decide +kernel
theorem dX10_tune_64 : decode cX10_tune 64 = .ok (.aload_n 0, 1) := by decide +kernel
theorem dX10_tune_65 : decode cX10_tune 65 = .ok (.getfield 20, 3) := by decide +kernel
theorem dX10_tune_68 : decode cX10_tune 68 = .ok (.bipush 40, 2) := by decide +kernel
theorem dX10_tune_70 : decode cX10_tune 70 = .ok (.iload_n 2, 1) := by decide +kernel
theorem dX10_tune_71 : decode cX10_tune 71 = .ok (.imul, 1) := by decide +kernel
theorem dX10_tune_72 : decode cX10_tune 72 = .ok (.iload_n 3, 1) := by decide +kernel
theorem dX10_tune_73 : decode cX10_tune 73 = .ok (.iadd, 1) := by decide +kernel
theorem dX10_tune_74 : decode cX10_tune 74 = .ok (.iaload, 1) := by decide +kernel
theorem dX10_tune_75 : decode cX10_tune 75 = .ok (.iconst 0, 1) := by decide +kernel
theorem dX10_tune_76 : decode cX10_tune 76 = .ok (.bipush 20, 2) := by decide +kernel
theorem dX10_tune_78 : decode cX10_tune 78 = .ok (.invokestatic 166, 3) := by decide +kernel
theorem dX10_tune_81 : decode cX10_tune 81 = .ok (.ifCond .ne 9, 3) := by decide +kernel
theorem dX10_tune_84 : decode cX10_tune 84 = .ok (.aload_n 0, 1) := by decide +kernel
theorem dX10_tune_85 : decode cX10_tune 85 = .ok (.iconst 3, 1) := by decide +kernel
theorem dX10_tune_86 : decode cX10_tune 86 = .ok (.invokevirtual 174, 3) := by decide +kernel
theorem dX10_tune_89 : decode cX10_tune 89 = .ok (.ireturn, 1) := by decide +kernel
theorem dX10_tune_90 : decode cX10_tune 90 = .ok (.iinc 3 1, 3) := by decide +kernel
theorem dX10_tune_93 : decode cX10_tune 93 = .ok (.goto (-39), 3) := by decide +kernel
theorem dX10_tune_96 : decode cX10_tune 96 = .ok (.aload_n 0, 1) := by decide +kernel
theorem dX10_tune_97 : decode cX10_tune 97 = .ok (.getfield 44, 3) := by decide +kernel
theorem dX10_tune_100 : decode cX10_tune 100 = .ok (.iload_n 1, 1) := by decide +kernel
theorem dX10_tune_101 : decode cX10_tune 101 = .ok (.aload_n 0, 1) := by decide +kernel
theorem dX10_tune_102 : decode cX10_tune 102 = .ok (.getfield 17, 3) := by decide +kernel
theorem dX10_tune_105 : decode cX10_tune 105 = .ok (.iload_n 2, 1) := by decide +kernel
theorem dX10_tune_106 : decode cX10_tune 106 = .ok (.iaload, 1) := by decide +kernel
theorem dX10_tune_107 : decode cX10_tune 107 = .ok (.iastore, 1) := by decide +kernel
theorem dX10_tune_108 : decode cX10_tune 108 = .ok (.iconst 0, 1) := by decide +kernel
theorem dX10_tune_109 : decode cX10_tune 109 = .ok (.istore_n 3, 1) := by decide +kernel
theorem dX10_tune_110 : decode cX10_tune 110 = .ok (.iload_n 3, 1) := by decide +kernel
theorem dX10_tune_111 : decode cX10_tune 111 = .ok (.aload_n 0, 1) := by decide +kernel
theorem dX10_tune_112 : decode cX10_tune 112 = .ok (.getfield 17, 3) := by decide +kernel
theorem dX10_tune_115 : decode cX10_tune 115 = .ok (.iload_n 2, 1) := by decide +kernel
theorem dX10_tune_116 : decode cX10_tune 116 = .ok (.iaload, 1) := by decide +kernel
theorem dX10_tune_117 : decode cX10_tune 117 = .ok (.if_icmp .ge 31, 3) := by decide +kernel
theorem dX10_tune_120 : decode cX10_tune 120 = .ok (.aload_n 0, 1) := by decide +kernel
theorem dX10_tune_121 : decode cX10_tune 121 = .ok (.getfield 47, 3) := by decide +kernel
theorem dX10_tune_124 : decode cX10_tune 124 = .ok (.bipush 8, 2) := by decide +kernel
theorem dX10_tune_126 : decode cX10_tune 126 = .ok (.iload_n 1, 1) := by decide +kernel
theorem dX10_tune_127 : decode cX10_tune 127 = .ok (.imul, 1) := by decide +kernel
theorem dX10_tune_128 : decode cX10_tune 128 = .ok (.iload_n 3, 1) := by decide +kernel
theorem dX10_tune_129 : decode cX10_tune 129 = .ok (.iadd, 1) := by decide +kernel
theorem dX10_tune_130 : decode cX10_tune 130 = .ok (.aload_n 0, 1) := by decide +kernel
theorem dX10_tune_131 : decode cX10_tune 131 = .ok (.getfield 20, 3) := by decide +kernel
theorem dX10_tune_134 : decode cX10_tune 134 = .ok (.bipush 40, 2) := by decide +kernel
theorem dX10_tune_136 : decode cX10_tune 136 = .ok (.iload_n 2, 1) := by decide +kernel
theorem dX10_tune_137 : decode cX10_tune 137 = .ok (.imul, 1) := by decide +kernel
theorem dX10_tune_138 : decode cX10_tune 138 = .ok (.iload_n 3, 1) := by decide +kernel
theorem dX10_tune_139 : decode cX10_tune 139 = .ok (.iadd, 1) := by decide +kernel
theorem dX10_tune_140 : decode cX10_tune 140 = .ok (.iaload, 1) := by decide +kernel
theorem dX10_tune_141 : decode cX10_tune 141 = .ok (.iastore, 1) := by decide +kernel
theorem dX10_tune_142 : decode cX10_tune 142 = .ok (.iinc 3 1, 3) := by decide +kernel
theorem dX10_tune_145 : decode cX10_tune 145 = .ok (.goto (-35), 3) := by decide +kernel
theorem dX10_tune_148 : decode cX10_tune 148 = .ok (.aload_n 0, 1) := by decide +kernel
theorem dX10_tune_149 : decode cX10_tune 149 = .ok (.getfield 44, 3) := by decide +kernel
theorem dX10_tune_152 : decode cX10_tune 152 = .ok (.iload_n 1, 1) := by decide +kernel
theorem dX10_tune_153 : decode cX10_tune 153 = .ok (.iaload, 1) := by decide +kernel
theorem dX10_tune_154 : decode cX10_tune 154 = .ok (.ireturn, 1) := by decide +kernel
def c_X10_tune_L54 (F : Nat) (a13 : Nat) (x14 : Int32) (x15 : Int32) (k96 : z_Hp → Option (Int32 × z_Hp)) (k84 : z_Hp → Option (Int32 × z_Hp)) : Nat → Int32 → z_Hp → Option (Int32 × z_Hp)
  | 0, _, _ => none
  | n + 1, x16, h17 => (if hT h17 a13 = 10 then (lt_ (hR h17 a13 7) (fun o20 => (nn o20 (fun a21 => (if okA h17 a21 20 x15 = true then (if (hI h17 a21 (ix x15)) ≤ x16 then (k96 h17) else (if hT h17 a13 = 10 then (lt_ (hR h17 a13 8) (fun o22 => (nn o22 (fun a23 => (if okA h17 a23 20 ((40 * x15) + x16) = true then (bI (c_X10_in F (hI h17 a23 (ix ((40 * x15) + x16))) 0 20 h17) (fun x25 h24 => (if x25 = 0 then (k84 h24) else (lt_ (x16 + 1) (fun x26 => (c_X10_tune_L54 F a13 x14 x15 k96 k84 n x26 h24)))))) else none))))) else none)) else none))))) else none)
def c_X10_tune_L110 (F : Nat) (a33 : Nat) (x34 : Int32) (x35 : Int32) : Nat → Int32 → z_Hp → Option (Int32 × z_Hp)
  | 0, _, _ => none
  | n + 1, x36, h37 => (if hT h37 a33 = 10 then (lt_ (hR h37 a33 7) (fun o38 => (nn o38 (fun a39 => (if okA h37 a39 20 x35 = true then (if (hI h37 a39 (ix x35)) ≤ x36 then (if hT h37 a33 = 10 then (lt_ (hR h37 a33 17) (fun o40 => (nn o40 (fun a41 => (if okA h37 a41 20 x34 = true then (some (hI h37 a41 (ix x34), h37)) else none))))) else none) else (if hT h37 a33 = 10 then (lt_ (hR h37 a33 18) (fun o42 => (if hT h37 a33 = 10 then (lt_ (hR h37 a33 8) (fun o43 => (nn o43 (fun a44 => (if okA h37 a44 20 ((40 * x35) + x36) = true then (nn o42 (fun a45 => (if okA h37 a45 20 ((8 * x34) + x36) = true then (lt_ (sI h37 a45 (ix ((8 * x34) + x36)) (hI h37 a44 (ix ((40 * x35) + x36)))) (fun h46 => (lt_ (x36 + 1) (fun x47 => (c_X10_tune_L110 F a33 x34 x35 n x47 h46))))) else none))) else none))))) else none))) else none)) else none))))) else none)
def c_X10_tune (F : Nat) (a0 : Nat) (x1 : Int32) (x2 : Int32) (h0 : z_Hp) : Option (Int32 × z_Hp) := (bI (c_X10_isTune F x1 h0) (fun x4 h3 => (if x4 = 0 then (some ((-1), h3)) else (bI (c_X10_isRow F x2 h3) (fun x6 h5 => (if x6 = 0 then (some ((-1), h5)) else (if hT h5 a0 = 10 then (lt_ (hR h5 a0 7) (fun o7 => (nn o7 (fun a8 => (if okA h5 a8 20 x2 = true then (if 0 ≤ (hI h5 a8 (ix x2)) then (if hT h5 a0 = 10 then (lt_ (hR h5 a0 7) (fun o9 => (nn o9 (fun a10 => (if okA h5 a10 20 x2 = true then (bI (c_X10_in F (hI h5 a10 (ix x2)) 1 8 h5) (fun x12 h11 => (if x12 = 0 then (if hT h11 a0 = 10 then (bI (c_X10_meets F a0 5 h11) (fun x52 h51 => (some (x52, h51)))) else none) else (c_X10_tune_L54 F a0 x1 x2 (fun h27 => (if hT h27 a0 = 10 then (lt_ (hR h27 a0 17) (fun o28 => (if hT h27 a0 = 10 then (lt_ (hR h27 a0 7) (fun o29 => (nn o29 (fun a30 => (if okA h27 a30 20 x2 = true then (nn o28 (fun a31 => (if okA h27 a31 20 x1 = true then (lt_ (sI h27 a31 (ix x1) (hI h27 a30 (ix x2))) (fun h32 => (c_X10_tune_L110 F a0 x1 x2 F 0 h32))) else none))) else none))))) else none))) else none)) (fun h48 => (if hT h48 a0 = 10 then (bI (c_X10_meets F a0 3 h48) (fun x50 h49 => (some (x50, h49)))) else none)) F 0 h11)))) else none))))) else none) else (if hT h5 a0 = 10 then (bI (c_X10_meets F a0 1 h5) (fun x54 h53 => (some (x54, h53)))) else none)) else none))))) else none)))))))
set_option maxRecDepth 20000 in
set_option maxHeartbeats 4000000 in
theorem g_X10_tune_L54 (F : Nat) (a13 : Nat) (x14 : Int32) (x15 : Int32) (k96 : z_Hp → Option (Int32 × z_Hp)) (k84 : z_Hp → Option (Int32 × z_Hp)) (qk96 : ∀ (h18 : z_Hp), z_G zi mi_X10_tune 96 [(0, vr (some a13)), (1, vi x14), (2, vi x15)] [] h18 (k96 h18)) (qk84 : ∀ (h19 : z_Hp), z_G zi mi_X10_tune 84 [(0, vr (some a13))] [] h19 (k84 h19)) : ∀ (n : Nat) (x16 : Int32) (h17 : z_Hp), z_G zi mi_X10_tune 54 [(0, vr (some a13)), (1, vi x14), (2, vi x15), (3, vi x16)] [] h17 (c_X10_tune_L54 F a13 x14 x15 k96 k84 n x16 h17) := by
  intro n
  induction n with
  | zero => intro x16 h17; rw [c_X10_tune_L54]; exact z_none
  | succ n ih =>
    intro x16 h17
    rw [c_X10_tune_L54]
    refine z_iload_n (pc := 54) dX10_tune_54 rfl 3 rfl (z_aload_n (pc := 55) dX10_tune_55 rfl 0 rfl (z_getRl (pc := 56) fl_RX10_17 rfl dX10_tune_56 (fun o20 => (z_iload_n (pc := 59) dX10_tune_59 rfl 2 rfl (?_)))))
    refine z_nn (fun a21 ea21 => ?_)
    subst ea21
    refine z_iaload (pc := 60) dX10_tune_60 (?_)
    refine z_icmp_ge (pc := 61) (tgt := 96) dX10_tune_61 (by decide) ?_ ?_
    · exact z_sub [0, 1, 2] rfl (qk96 h17)
    · refine z_aload_n (pc := 64) dX10_tune_64 rfl 0 rfl (z_getRl (pc := 65) fl_RX10_20 rfl dX10_tune_65 (fun o22 => (z_bipush (pc := 68) dX10_tune_68 bp_40 (z_iload_n (pc := 70) dX10_tune_70 rfl 2 rfl (z_imul (pc := 71) dX10_tune_71 (z_iload_n (pc := 72) dX10_tune_72 rfl 3 rfl (z_iadd (pc := 73) dX10_tune_73 (?_))))))))
      refine z_nn (fun a23 ea23 => ?_)
      subst ea23
      refine z_iaload (pc := 74) dX10_tune_74 (z_iconst (pc := 75) dX10_tune_75 ic_0 (z_bipush (pc := 76) dX10_tune_76 bp_20 (z_callS_I (pc := 78) (avs := [vi (hI h17 a23 (ix ((40 * x15) + x16))), vi 0, vi 20]) (st := []) rfl (t_X10_in F (hI h17 a23 (ix ((40 * x15) + x16))) 0 20 h17) ky_X10_in ws_X10_in wz_RX10_166 (rm_X10_tune_X10_in) (Nat.le_of_ble_eq_true rfl) dX10_tune_78 (fun x25 h24 => (?_)))))
      refine z_if_ne (pc := 81) (tgt := 90) dX10_tune_81 (by decide) ?_ ?_
      · refine z_iincl (pc := 90) (L' := fun x26 => [(0, vr (some a13)), (1, vi x14), (2, vi x15), (3, vi x26)]) dX10_tune_90 3 rfl ic_1 (Nat.le_of_ble_eq_true rfl) (fun _ => rfl) (fun x26 => (z_goto (pc := 93) (tgt := 54) dX10_tune_93 (by decide) (?_)))
        exact ih x26 h24
      · exact z_sub [0] rfl (qk84 h24)
set_option maxRecDepth 20000 in
set_option maxHeartbeats 4000000 in
theorem g_X10_tune_L110 (F : Nat) (a33 : Nat) (x34 : Int32) (x35 : Int32) : ∀ (n : Nat) (x36 : Int32) (h37 : z_Hp), z_G zi mi_X10_tune 110 [(0, vr (some a33)), (1, vi x34), (2, vi x35), (3, vi x36)] [] h37 (c_X10_tune_L110 F a33 x34 x35 n x36 h37) := by
  intro n
  induction n with
  | zero => intro x36 h37; rw [c_X10_tune_L110]; exact z_none
  | succ n ih =>
    intro x36 h37
    rw [c_X10_tune_L110]
    refine z_iload_n (pc := 110) dX10_tune_110 rfl 3 rfl (z_aload_n (pc := 111) dX10_tune_111 rfl 0 rfl (z_getRl (pc := 112) fl_RX10_17 rfl dX10_tune_112 (fun o38 => (z_iload_n (pc := 115) dX10_tune_115 rfl 2 rfl (?_)))))
    refine z_nn (fun a39 ea39 => ?_)
    subst ea39
    refine z_iaload (pc := 116) dX10_tune_116 (?_)
    refine z_icmp_ge (pc := 117) (tgt := 148) dX10_tune_117 (by decide) ?_ ?_
    · refine z_aload_n (pc := 148) dX10_tune_148 rfl 0 rfl (z_getRl (pc := 149) fl_RX10_44 rfl dX10_tune_149 (fun o40 => (z_iload_n (pc := 152) dX10_tune_152 rfl 1 rfl (?_))))
      refine z_nn (fun a41 ea41 => ?_)
      subst ea41
      refine z_iaload (pc := 153) dX10_tune_153 (?_)
      exact z_iret (pc := 154) dX10_tune_154 rfl rfl
    · refine z_aload_n (pc := 120) dX10_tune_120 rfl 0 rfl (z_getRl (pc := 121) fl_RX10_47 rfl dX10_tune_121 (fun o42 => (z_bipush (pc := 124) dX10_tune_124 bp_8 (z_iload_n (pc := 126) dX10_tune_126 rfl 1 rfl (z_imul (pc := 127) dX10_tune_127 (z_iload_n (pc := 128) dX10_tune_128 rfl 3 rfl (z_iadd (pc := 129) dX10_tune_129 (z_aload_n (pc := 130) dX10_tune_130 rfl 0 rfl (?_)))))))))
      refine z_getRl (pc := 131) fl_RX10_20 rfl dX10_tune_131 (fun o43 => (z_bipush (pc := 134) dX10_tune_134 bp_40 (z_iload_n (pc := 136) dX10_tune_136 rfl 2 rfl (z_imul (pc := 137) dX10_tune_137 (z_iload_n (pc := 138) dX10_tune_138 rfl 3 rfl (z_iadd (pc := 139) dX10_tune_139 (?_)))))))
      refine z_nn (fun a44 ea44 => ?_)
      subst ea44
      refine z_iaload (pc := 140) dX10_tune_140 (?_)
      refine z_nn (fun a45 ea45 => ?_)
      subst ea45
      refine z_iastorel (pc := 141) dX10_tune_141 (fun h46 => (z_iincl (pc := 142) (L' := fun x47 => [(0, vr (some a33)), (1, vi x34), (2, vi x35), (3, vi x47)]) dX10_tune_142 3 rfl ic_1 (Nat.le_of_ble_eq_true rfl) (fun _ => rfl) (fun x47 => (z_goto (pc := 145) (tgt := 110) dX10_tune_145 (by decide) (?_)))))
      exact ih x47 h46
set_option maxRecDepth 20000 in
set_option maxHeartbeats 4000000 in
theorem t_X10_tune (F : Nat) (a0 : Nat) (x1 : Int32) (x2 : Int32) (h0 : z_Hp) : z_Ct zi mi_X10_tune [vr (some a0), vi x1, vi x2] h0 (c_X10_tune F a0 x1 x2 h0) := by
  refine z_entry (by decide) (Nat.le_of_ble_eq_true rfl) [(0, vr (some a0)), (1, vi x1), (2, vi x2)] rfl ?_
  unfold c_X10_tune
  refine z_iload_n (pc := 0) dX10_tune_0 rfl 1 rfl (z_callS_I (pc := 1) (avs := [vi x1]) (st := []) rfl (t_X10_isTune F x1 h0) ky_X10_isTune ws_X10_isTune wz_RX10_225 (rm_X10_tune_X10_isTune) (Nat.le_of_ble_eq_true rfl) dX10_tune_1 (fun x4 h3 => (?_)))
  refine z_if_eq (pc := 4) (tgt := 14) dX10_tune_4 (by decide) ?_ ?_
  · refine z_iconst (pc := 14) dX10_tune_14 ic_m1 (?_)
    exact z_iret (pc := 15) dX10_tune_15 rfl rfl
  · refine z_iload_n (pc := 7) dX10_tune_7 rfl 2 rfl (z_callS_I (pc := 8) (avs := [vi x2]) (st := []) rfl (t_X10_isRow F x2 h3) ky_X10_isRow ws_X10_isRow wz_RX10_170 (rm_X10_tune_X10_isRow) (Nat.le_of_ble_eq_true rfl) dX10_tune_8 (fun x6 h5 => (?_)))
    refine z_if_ne (pc := 11) (tgt := 16) dX10_tune_11 (by decide) ?_ ?_
    · refine z_aload_n (pc := 16) dX10_tune_16 rfl 0 rfl (z_getRl (pc := 17) fl_RX10_17 rfl dX10_tune_17 (fun o7 => (z_iload_n (pc := 20) dX10_tune_20 rfl 2 rfl (?_))))
      refine z_nn (fun a8 ea8 => ?_)
      subst ea8
      refine z_iaload (pc := 21) dX10_tune_21 (?_)
      refine z_if_ge (pc := 22) (tgt := 31) dX10_tune_22 (by decide) ?_ ?_
      · refine z_aload_n (pc := 31) dX10_tune_31 rfl 0 rfl (z_getRl (pc := 32) fl_RX10_17 rfl dX10_tune_32 (fun o9 => (z_iload_n (pc := 35) dX10_tune_35 rfl 2 rfl (?_))))
        refine z_nn (fun a10 ea10 => ?_)
        subst ea10
        refine z_iaload (pc := 36) dX10_tune_36 (z_iconst (pc := 37) dX10_tune_37 ic_1 (z_bipush (pc := 38) dX10_tune_38 bp_8 (z_callS_I (pc := 40) (avs := [vi (hI h5 a10 (ix x2)), vi 1, vi 8]) (st := []) rfl (t_X10_in F (hI h5 a10 (ix x2)) 1 8 h5) ky_X10_in ws_X10_in wz_RX10_166 (rm_X10_tune_X10_in) (Nat.le_of_ble_eq_true rfl) dX10_tune_40 (fun x12 h11 => (?_)))))
        refine z_if_ne (pc := 43) (tgt := 52) dX10_tune_43 (by decide) ?_ ?_
        · refine z_iconst (pc := 52) dX10_tune_52 ic_0 (z_istore_n (pc := 53) (L' := [(0, vr (some a0)), (1, vi x1), (2, vi x2), (3, vi 0)]) dX10_tune_53 rfl (Nat.le_of_ble_eq_true rfl) rfl (?_))
          refine g_X10_tune_L54 F a0 x1 x2 _ _ (fun h27 => ?_) (fun h48 => ?_) F 0 h11
          · refine z_aload_n (pc := 96) dX10_tune_96 rfl 0 rfl (z_getRl (pc := 97) fl_RX10_44 rfl dX10_tune_97 (fun o28 => (z_iload_n (pc := 100) dX10_tune_100 rfl 1 rfl (z_aload_n (pc := 101) dX10_tune_101 rfl 0 rfl (z_getRl (pc := 102) fl_RX10_17 rfl dX10_tune_102 (fun o29 => (z_iload_n (pc := 105) dX10_tune_105 rfl 2 rfl (?_))))))))
            refine z_nn (fun a30 ea30 => ?_)
            subst ea30
            refine z_iaload (pc := 106) dX10_tune_106 (?_)
            refine z_nn (fun a31 ea31 => ?_)
            subst ea31
            refine z_iastorel (pc := 107) dX10_tune_107 (fun h32 => (z_iconst (pc := 108) dX10_tune_108 ic_0 (z_istore_n (pc := 109) (L' := [(0, vr (some a0)), (1, vi x1), (2, vi x2), (3, vi 0)]) dX10_tune_109 rfl (Nat.le_of_ble_eq_true rfl) rfl (?_))))
            refine g_X10_tune_L110 F a0 x1 x2 F 0 h32
          · refine z_aload_n (pc := 84) dX10_tune_84 rfl 0 rfl (z_iconst (pc := 85) dX10_tune_85 ic_3 (z_callV_I (pc := 86) (avs := [vi 3]) (st := []) rfl (q := (RX10, TX10, 62)) rfl rfl (t_X10_meets F a0 3 h48) ky_X10_meets wm_X10_meets we_X10_meets wz_RX10_174 (rm_X10_tune_X10_meets) (Nat.le_of_ble_eq_true rfl) dX10_tune_86 (fun x50 h49 => (?_))))
            exact z_iret (pc := 89) dX10_tune_89 rfl rfl
        · refine z_aload_n (pc := 46) dX10_tune_46 rfl 0 rfl (z_iconst (pc := 47) dX10_tune_47 ic_5 (z_callV_I (pc := 48) (avs := [vi 5]) (st := []) rfl (q := (RX10, TX10, 62)) rfl rfl (t_X10_meets F a0 5 h11) ky_X10_meets wm_X10_meets we_X10_meets wz_RX10_174 (rm_X10_tune_X10_meets) (Nat.le_of_ble_eq_true rfl) dX10_tune_48 (fun x52 h51 => (?_))))
          exact z_iret (pc := 51) dX10_tune_51 rfl rfl
      · refine z_aload_n (pc := 25) dX10_tune_25 rfl 0 rfl (z_iconst (pc := 26) dX10_tune_26 ic_1 (z_callV_I (pc := 27) (avs := [vi 1]) (st := []) rfl (q := (RX10, TX10, 62)) rfl rfl (t_X10_meets F a0 1 h5) ky_X10_meets wm_X10_meets we_X10_meets wz_RX10_174 (rm_X10_tune_X10_meets) (Nat.le_of_ble_eq_true rfl) dX10_tune_27 (fun x54 h53 => (?_))))
        exact z_iret (pc := 30) dX10_tune_30 rfl rfl
    · refine z_iconst (pc := 14) dX10_tune_14 ic_m1 (?_)
      exact z_iret (pc := 15) dX10_tune_15 rfl rfl
