theorem dX10_mix_0 : decode cX10_mix 0 = .ok (.aload_n 0, 1) := by decide +kernel
theorem dX10_mix_1 : decode cX10_mix 1 = .ok (.ldc2_w 381, 3) := by decide +kernel
theorem dX10_mix_4 : decode cX10_mix 4 = .ok (.aload_n 0, 1) := by decide +kernel
theorem dX10_mix_5 : decode cX10_mix 5 = .ok (.getfield 383, 3) := by decide +kernel
theorem dX10_mix_8 : decode cX10_mix 8 = .ok (.lmul, 1) := by decide +kernel
theorem dX10_mix_9 : decode cX10_mix 9 = .ok (.iload_n 1, 1) := by decide +kernel
theorem dX10_mix_10 : decode cX10_mix 10 = .ok (.i2l, 1) := by decide +kernel
theorem dX10_mix_11 : decode cX10_mix 11 = .ok (.ladd, 1) := by decide +kernel
theorem dX10_mix_12 : decode cX10_mix 12 = .ok (.putfield 383, 3) := by decide +kernel
theorem dX10_mix_15 : decode cX10_mix 15 = .ok (.return_, 1) := by decide +kernel
def c_X10_mix (F : Nat) (a0 : Nat) (x1 : Int32) (h0 : z_Hp) : Option (z_Hp) := (if hT h0 a0 = 10 then (if hT h0 a0 = 10 then (lt_ (sJ h0 a0 61 ((31 * (hJ h0 a0 61)) + ((x1 : Int32).toInt64))) (fun h2 => (some h2))) else none) else none)
set_option maxRecDepth 20000 in
set_option maxHeartbeats 4000000 in
theorem t_X10_mix (F : Nat) (a0 : Nat) (x1 : Int32) (h0 : z_Hp) : z_Ct zv mi_X10_mix [vr (some a0), vi x1] h0 (c_X10_mix F a0 x1 h0) := by
  refine z_entry (by decide) (Nat.le_of_ble_eq_true rfl) [(0, vr (some a0)), (1, vi x1)] rfl ?_
  unfold c_X10_mix
  refine z_aload_n (pc := 0) dX10_mix_0 rfl 0 rfl (z_ldc2 (pc := 1) dX10_mix_1 wj_RX10_381 (z_aload_n (pc := 4) dX10_mix_4 rfl 0 rfl (z_getJ (pc := 5) fl_RX10_383 rfl dX10_mix_5 (z_lmul (pc := 8) dX10_mix_8 (z_iload_n (pc := 9) dX10_mix_9 rfl 1 rfl (z_i2l (pc := 10) dX10_mix_10 (z_ladd (pc := 11) dX10_mix_11 (?_))))))))
  refine z_putJl (pc := 12) fl_RX10_383 (fin_X_10_61 _) rfl dX10_mix_12 (fun h2 => (?_))
  exact z_vret (pc := 15) dX10_mix_15 rfl
theorem dX10_mixRow_0 : decode cX10_mixRow 0 = .ok (.aload_n 0, 1) := by decide +kernel
theorem dX10_mixRow_1 : decode cX10_mixRow 1 = .ok (.iload_n 1, 1) := by decide +kernel
theorem dX10_mixRow_2 : decode cX10_mixRow 2 = .ok (.ifCond .ge 7, 3) := by decide +kernel
theorem dX10_mixRow_5 : decode cX10_mixRow 5 = .ok (.iconst (-1), 1) := by decide +kernel
theorem dX10_mixRow_6 : decode cX10_mixRow 6 = .ok (.goto 4, 3) := by decide +kernel
theorem dX10_mixRow_9 : decode cX10_mixRow 9 = .ok (.iload_n 1, 1) := by decide +kernel
theorem dX10_mixRow_10 : decode cX10_mixRow 10 = .ok (.invokevirtual 386, 3) := by decide +kernel
theorem dX10_mixRow_13 : decode cX10_mixRow 13 = .ok (.iconst 0, 1) := by decide +kernel
theorem dX10_mixRow_14 : decode cX10_mixRow 14 = .ok (.istore 4, 2) := by decide +kernel
theorem dX10_mixRow_16 : decode cX10_mixRow 16 = .ok (.iload 4, 2) := by decide +kernel
theorem dX10_mixRow_18 : decode cX10_mixRow 18 = .ok (.iload_n 1, 1) := by decide +kernel
theorem dX10_mixRow_19 : decode cX10_mixRow 19 = .ok (.if_icmp .ge 19, 3) := by decide +kernel
theorem dX10_mixRow_22 : decode cX10_mixRow 22 = .ok (.aload_n 0, 1) := by decide +kernel
theorem dX10_mixRow_23 : decode cX10_mixRow 23 = .ok (.aload_n 2, 1) := by decide +kernel
theorem dX10_mixRow_24 : decode cX10_mixRow 24 = .ok (.iload_n 3, 1) := by decide +kernel
theorem dX10_mixRow_25 : decode cX10_mixRow 25 = .ok (.iload 4, 2) := by decide +kernel
theorem dX10_mixRow_27 : decode cX10_mixRow 27 = .ok (.iadd, 1) := by decide +kernel
theorem dX10_mixRow_28 : decode cX10_mixRow 28 = .ok (.iaload, 1) := by decide +kernel
theorem dX10_mixRow_29 : decode cX10_mixRow 29 = .ok (.invokevirtual 386, 3) := by decide +kernel
theorem dX10_mixRow_32 : decode cX10_mixRow 32 = .ok (.iinc 4 1, 3) := by decide +kernel
theorem dX10_mixRow_35 : decode cX10_mixRow 35 = .ok (.goto (-19), 3) := by decide +kernel
theorem dX10_mixRow_38 : decode cX10_mixRow 38 = .ok (.return_, 1) := by decide +kernel
def c_X10_mixRow_L16 (F : Nat) (a8 : Nat) (x9 : Int32) (o10 : Option Nat) (x11 : Int32) : Nat → Int32 → z_Hp → Option (z_Hp)
  | 0, _, _ => none
  | n + 1, x12, h13 => (if x9 ≤ x12 then (some h13) else (nn o10 (fun a14 => (if okA h13 a14 20 (x11 + x12) = true then (if hT h13 a8 = 10 then (bV (c_X10_mix F a8 (hI h13 a14 (ix (x11 + x12))) h13) (fun h15 => (lt_ (x12 + 1) (fun x16 => (c_X10_mixRow_L16 F a8 x9 o10 x11 n x16 h15))))) else none) else none))))
def c_X10_mixRow (F : Nat) (a0 : Nat) (x1 : Int32) (o2 : Option Nat) (x3 : Int32) (h0 : z_Hp) : Option (z_Hp) := (lt_ (fun (x5 : Int32) (h6 : z_Hp) => (if hT h6 a0 = 10 then (bV (c_X10_mix F a0 x5 h6) (fun h7 => (c_X10_mixRow_L16 F a0 x1 o2 x3 F 0 h7))) else none)) (fun (j10_4 : Int32 → z_Hp → Option (z_Hp)) => (if 0 ≤ x1 then (j10_4 x1 h0) else (j10_4 (-1) h0))))
set_option maxRecDepth 20000 in
set_option maxHeartbeats 4000000 in
theorem g_X10_mixRow_L16 (F : Nat) (a8 : Nat) (x9 : Int32) (o10 : Option Nat) (x11 : Int32) : ∀ (n : Nat) (x12 : Int32) (h13 : z_Hp), z_G zv mi_X10_mixRow 16 [(0, vr (some a8)), (1, vi x9), (2, vr o10), (3, vi x11), (4, vi x12)] [] h13 (c_X10_mixRow_L16 F a8 x9 o10 x11 n x12 h13) := by
  intro n
  induction n with
  | zero => intro x12 h13; rw [c_X10_mixRow_L16]; exact z_none
  | succ n ih =>
    intro x12 h13
    rw [c_X10_mixRow_L16]
    refine z_iload (pc := 16) dX10_mixRow_16 4 rfl (z_iload_n (pc := 18) dX10_mixRow_18 rfl 1 rfl (?_))
    refine z_icmp_ge (pc := 19) (tgt := 38) dX10_mixRow_19 (by decide) ?_ ?_
    · exact z_vret (pc := 38) dX10_mixRow_38 rfl
    · refine z_aload_n (pc := 22) dX10_mixRow_22 rfl 0 rfl (z_aload_n (pc := 23) dX10_mixRow_23 rfl 2 rfl (z_iload_n (pc := 24) dX10_mixRow_24 rfl 3 rfl (z_iload (pc := 25) dX10_mixRow_25 4 rfl (z_iadd (pc := 27) dX10_mixRow_27 (?_)))))
      refine z_nn (fun a14 ea14 => ?_)
      subst ea14
      refine z_iaload (pc := 28) dX10_mixRow_28 (z_callV_V (pc := 29) (avs := [vi (hI h13 a14 (ix (x11 + x12)))]) (st := []) rfl (q := (RX10, TX10, 62)) rfl rfl (t_X10_mix F a8 (hI h13 a14 (ix (x11 + x12))) h13) ky_X10_mix wm_X10_mix we_X10_mix wz_RX10_386 (rm_X10_mixRow_X10_mix) (Nat.le_of_ble_eq_true rfl) dX10_mixRow_29 (fun h15 => (?_)))
      refine z_iincl (pc := 32) (L' := fun x16 => [(0, vr (some a8)), (1, vi x9), (2, vr (some a14)), (3, vi x11), (4, vi x16)]) dX10_mixRow_32 4 rfl ic_1 (Nat.le_of_ble_eq_true rfl) (fun _ => rfl) (fun x16 => (z_goto (pc := 35) (tgt := 16) dX10_mixRow_35 (by decide) (?_)))
      exact ih x16 h15
set_option maxRecDepth 20000 in
set_option maxHeartbeats 4000000 in
theorem t_X10_mixRow (F : Nat) (a0 : Nat) (x1 : Int32) (o2 : Option Nat) (x3 : Int32) (h0 : z_Hp) : z_Ct zv mi_X10_mixRow [vr (some a0), vi x1, vr o2, vi x3] h0 (c_X10_mixRow F a0 x1 o2 x3 h0) := by
  refine z_entry (by decide) (Nat.le_of_ble_eq_true rfl) [(0, vr (some a0)), (1, vi x1), (2, vr o2), (3, vi x3)] rfl ?_
  unfold c_X10_mixRow
  refine z_aload_n (pc := 0) dX10_mixRow_0 rfl 0 rfl (z_iload_n (pc := 1) dX10_mixRow_1 rfl 1 rfl (?_))
  refine z_jn (P := fun (j : Int32 → z_Hp → Option (z_Hp)) => ∀ (x5 : Int32) (h6 : z_Hp), z_G zv mi_X10_mixRow 10 [(0, vr (some a0)), (1, vi x1), (2, vr o2), (3, vi x3)] [vi x5, vr (some a0)] h6 (j x5 h6)) (fun x5 h6 => ?_) (fun j10_4 qj10_4 => ?_)
  · refine z_callV_V (pc := 10) (avs := [vi x5]) (st := []) rfl (q := (RX10, TX10, 62)) rfl rfl (t_X10_mix F a0 x5 h6) ky_X10_mix wm_X10_mix we_X10_mix wz_RX10_386 (rm_X10_mixRow_X10_mix) (Nat.le_of_ble_eq_true rfl) dX10_mixRow_10 (fun h7 => (?_))
    refine z_iconst (pc := 13) dX10_mixRow_13 ic_0 (z_istore (pc := 14) (L' := [(0, vr (some a0)), (1, vi x1), (2, vr o2), (3, vi x3), (4, vi 0)]) dX10_mixRow_14 (Nat.le_of_ble_eq_true rfl) rfl (?_))
    refine g_X10_mixRow_L16 F a0 x1 o2 x3 F 0 h7
  refine z_if_ge (pc := 2) (tgt := 9) dX10_mixRow_2 (by decide) ?_ ?_
  · refine z_iload_n (pc := 9) dX10_mixRow_9 rfl 1 rfl (?_)
    exact qj10_4 x1 h0
  · refine z_iconst (pc := 5) dX10_mixRow_5 ic_m1 (z_goto (pc := 6) (tgt := 10) dX10_mixRow_6 (by decide) (?_))
    exact qj10_4 (-1) h0
theorem dX10_mixSheets_0 : decode cX10_mixSheets 0 = .ok (.iconst 0, 1) := by decide +kernel
theorem dX10_mixSheets_1 : decode cX10_mixSheets 1 = .ok (.istore_n 1, 1) := by decide +kernel
theorem dX10_mixSheets_2 : decode cX10_mixSheets 2 = .ok (.iload_n 1, 1) := by decide +kernel
theorem dX10_mixSheets_3 : decode cX10_mixSheets 3 = .ok (.aload_n 0, 1) := by decide +kernel
theorem dX10_mixSheets_4 : decode cX10_mixSheets 4 = .ok (.getfield 262, 3) := by decide +kernel
theorem dX10_mixSheets_7 : decode cX10_mixSheets 7 = .ok (.if_icmp .ge 61, 3) := by decide +kernel
theorem dX10_mixSheets_10 : decode cX10_mixSheets 10 = .ok (.iconst 0, 1) := by decide +kernel
theorem dX10_mixSheets_11 : decode cX10_mixSheets 11 = .ok (.istore_n 2, 1) := by decide +kernel
theorem dX10_mixSheets_12 : decode cX10_mixSheets 12 = .ok (.iload_n 2, 1) := by decide +kernel
theorem dX10_mixSheets_13 : decode cX10_mixSheets 13 = .ok (.bipush 8, 2) := by decide +kernel
theorem dX10_mixSheets_15 : decode cX10_mixSheets 15 = .ok (.if_icmp .gt 19, 3) := by decide +kernel
theorem dX10_mixSheets_18 : decode cX10_mixSheets 18 = .ok (.aload_n 0, 1) := by decide +kernel
theorem dX10_mixSheets_19 : decode cX10_mixSheets 19 = .ok (.aload_n 0, 1) := by decide +kernel
theorem dX10_mixSheets_20 : decode cX10_mixSheets 20 = .ok (.iload_n 1, 1) := by decide +kernel
theorem dX10_mixSheets_21 : decode cX10_mixSheets 21 = .ok (.iload_n 2, 1) := by decide +kernel
theorem dX10_mixSheets_22 : decode cX10_mixSheets 22 = .ok (.invokevirtual 269, 3) := by decide +kernel
theorem dX10_mixSheets_25 : decode cX10_mixSheets 25 = .ok (.invokevirtual 386, 3) := by decide +kernel
theorem dX10_mixSheets_28 : decode cX10_mixSheets 28 = .ok (.iinc 2 1, 3) := by decide +kernel
theorem dX10_mixSheets_31 : decode cX10_mixSheets 31 = .ok (.goto (-19), 3) := by decide +kernel
theorem dX10_mixSheets_34 : decode cX10_mixSheets 34 = .ok (.aload_n 0, 1) := by decide +kernel
theorem dX10_mixSheets_35 : decode cX10_mixSheets 35 = .ok (.getfield 68, 3) := by decide +kernel
theorem dX10_mixSheets_38 : decode cX10_mixSheets 38 = .ok (.iload_n 1, 1) := by decide +kernel
theorem dX10_mixSheets_39 : decode cX10_mixSheets 39 = .ok (.iaload, 1) := by decide +kernel
theorem dX10_mixSheets_40 : decode cX10_mixSheets 40 = .ok (.iconst 2, 1) := by decide +kernel
theorem dX10_mixSheets_41 : decode cX10_mixSheets 41 = .ok (.if_icmp .ne 21, 3) := by decide +kernel
theorem dX10_mixSheets_44 : decode cX10_mixSheets 44 = .ok (.aload_n 0, 1) := by decide +kernel
theorem dX10_mixSheets_45 : decode cX10_mixSheets 45 = .ok (.aload_n 0, 1) := by decide +kernel
theorem dX10_mixSheets_46 : decode cX10_mixSheets 46 = .ok (.getfield 98, 3) := by decide +kernel
theorem dX10_mixSheets_49 : decode cX10_mixSheets 49 = .ok (.iload_n 1, 1) := by decide +kernel
theorem dX10_mixSheets_50 : decode cX10_mixSheets 50 = .ok (.iaload, 1) := by decide +kernel
theorem dX10_mixSheets_51 : decode cX10_mixSheets 51 = .ok (.aload_n 0, 1) := by decide +kernel
theorem dX10_mixSheets_52 : decode cX10_mixSheets 52 = .ok (.getfield 101, 3) := by decide +kernel
theorem dX10_mixSheets_55 : decode cX10_mixSheets 55 = .ok (.bipush 40, 2) := by decide +kernel
theorem dX10_mixSheets_57 : decode cX10_mixSheets 57 = .ok (.iload_n 1, 1) := by decide +kernel
theorem dX10_mixSheets_58 : decode cX10_mixSheets 58 = .ok (.imul, 1) := by decide +kernel
theorem dX10_mixSheets_59 : decode cX10_mixSheets 59 = .ok (.invokevirtual 389, 3) := by decide +kernel
theorem dX10_mixSheets_62 : decode cX10_mixSheets 62 = .ok (.iinc 1 1, 3) := by decide +kernel
theorem dX10_mixSheets_65 : decode cX10_mixSheets 65 = .ok (.goto (-63), 3) := by decide +kernel
theorem dX10_mixSheets_68 : decode cX10_mixSheets 68 = .ok (.return_, 1) := by decide +kernel
def c_X10_mixSheets_L12 (F : Nat) (a4 : Nat) (x5 : Int32) (k34 : z_Hp → Option (z_Hp)) : Nat → Int32 → z_Hp → Option (z_Hp)
  | 0, _, _ => none
  | n + 1, x6, h7 => (if 8 < x6 then (k34 h7) else (if hT h7 a4 = 10 then (bI (c_X10_sheetTells F a4 x5 x6 h7) (fun x10 h9 => (if hT h9 a4 = 10 then (bV (c_X10_mix F a4 x10 h9) (fun h11 => (lt_ (x6 + 1) (fun x12 => (c_X10_mixSheets_L12 F a4 x5 k34 n x12 h11))))) else none))) else none))
def c_X10_mixSheets_L2 (F : Nat) (a1 : Nat) : Nat → Int32 → z_Hp → Option (z_Hp)
  | 0, _, _ => none
  | n + 1, x2, h3 => (if hT h3 a1 = 10 then (if (hI h3 a1 26) ≤ x2 then (some h3) else (c_X10_mixSheets_L12 F a1 x2 (fun h13 => (if hT h13 a1 = 10 then (lt_ (hR h13 a1 27) (fun o14 => (nn o14 (fun a15 => (if okA h13 a15 20 x2 = true then (lt_ (fun (h17 : z_Hp) => (lt_ (x2 + 1) (fun x18 => (c_X10_mixSheets_L2 F a1 n x18 h17)))) (fun (j62_16 : z_Hp → Option (z_Hp)) => (if (hI h13 a15 (ix x2)) = 2 then (if hT h13 a1 = 10 then (lt_ (hR h13 a1 37) (fun o19 => (nn o19 (fun a20 => (if okA h13 a20 20 x2 = true then (if hT h13 a1 = 10 then (lt_ (hR h13 a1 38) (fun o21 => (if hT h13 a1 = 10 then (bV (c_X10_mixRow F a1 (hI h13 a20 (ix x2)) o21 (40 * x2) h13) (fun h22 => (j62_16 h22))) else none))) else none) else none))))) else none) else (j62_16 h13)))) else none))))) else none)) F 0 h3)) else none)
def c_X10_mixSheets (F : Nat) (a0 : Nat) (h0 : z_Hp) : Option (z_Hp) := (c_X10_mixSheets_L2 F a0 F 0 h0)
set_option maxRecDepth 20000 in
set_option maxHeartbeats 4000000 in
theorem g_X10_mixSheets_L12 (F : Nat) (a4 : Nat) (x5 : Int32) (k34 : z_Hp → Option (z_Hp)) (qk34 : ∀ (h8 : z_Hp), z_G zv mi_X10_mixSheets 34 [(0, vr (some a4)), (1, vi x5)] [] h8 (k34 h8)) : ∀ (n : Nat) (x6 : Int32) (h7 : z_Hp), z_G zv mi_X10_mixSheets 12 [(0, vr (some a4)), (1, vi x5), (2, vi x6)] [] h7 (c_X10_mixSheets_L12 F a4 x5 k34 n x6 h7) := by
  intro n
  induction n with
  | zero => intro x6 h7; rw [c_X10_mixSheets_L12]; exact z_none
  | succ n ih =>
    intro x6 h7
    rw [c_X10_mixSheets_L12]
    refine z_iload_n (pc := 12) dX10_mixSheets_12 rfl 2 rfl (z_bipush (pc := 13) dX10_mixSheets_13 bp_8 (?_))
    refine z_icmp_gt (pc := 15) (tgt := 34) dX10_mixSheets_15 (by decide) ?_ ?_
    · exact z_sub [0, 1] rfl (qk34 h7)
    · refine z_aload_n (pc := 18) dX10_mixSheets_18 rfl 0 rfl (z_aload_n (pc := 19) dX10_mixSheets_19 rfl 0 rfl (z_iload_n (pc := 20) dX10_mixSheets_20 rfl 1 rfl (z_iload_n (pc := 21) dX10_mixSheets_21 rfl 2 rfl (z_callV_I (pc := 22) (avs := [vi x5, vi x6]) (st := [vr (some a4)]) rfl (q := (RX10, TX10, 62)) rfl rfl (t_X10_sheetTells F a4 x5 x6 h7) ky_X10_sheetTells wm_X10_sheetTells we_X10_sheetTells wz_RX10_269 (rm_X10_mixSheets_X10_sheetTells) (Nat.le_of_ble_eq_true rfl) dX10_mixSheets_22 (fun x10 h9 => (?_))))))
      refine z_callV_V (pc := 25) (avs := [vi x10]) (st := []) rfl (q := (RX10, TX10, 62)) rfl rfl (t_X10_mix F a4 x10 h9) ky_X10_mix wm_X10_mix we_X10_mix wz_RX10_386 (rm_X10_mixSheets_X10_mix) (Nat.le_of_ble_eq_true rfl) dX10_mixSheets_25 (fun h11 => (?_))
      refine z_iincl (pc := 28) (L' := fun x12 => [(0, vr (some a4)), (1, vi x5), (2, vi x12)]) dX10_mixSheets_28 2 rfl ic_1 (Nat.le_of_ble_eq_true rfl) (fun _ => rfl) (fun x12 => (z_goto (pc := 31) (tgt := 12) dX10_mixSheets_31 (by decide) (?_)))
      exact ih x12 h11
set_option maxRecDepth 20000 in
set_option maxHeartbeats 4000000 in
theorem g_X10_mixSheets_L2 (F : Nat) (a1 : Nat) : ∀ (n : Nat) (x2 : Int32) (h3 : z_Hp), z_G zv mi_X10_mixSheets 2 [(0, vr (some a1)), (1, vi x2)] [] h3 (c_X10_mixSheets_L2 F a1 n x2 h3) := by
  intro n
  induction n with
  | zero => intro x2 h3; rw [c_X10_mixSheets_L2]; exact z_none
  | succ n ih =>
    intro x2 h3
    rw [c_X10_mixSheets_L2]
    refine z_iload_n (pc := 2) dX10_mixSheets_2 rfl 1 rfl (z_aload_n (pc := 3) dX10_mixSheets_3 rfl 0 rfl (z_getI (pc := 4) fl_RX10_262 rfl dX10_mixSheets_4 (?_)))
    refine z_icmp_ge (pc := 7) (tgt := 68) dX10_mixSheets_7 (by decide) ?_ ?_
    · exact z_vret (pc := 68) dX10_mixSheets_68 rfl
    · refine z_iconst (pc := 10) dX10_mixSheets_10 ic_0 (z_istore_n (pc := 11) (L' := [(0, vr (some a1)), (1, vi x2), (2, vi 0)]) dX10_mixSheets_11 rfl (Nat.le_of_ble_eq_true rfl) rfl (?_))
      refine g_X10_mixSheets_L12 F a1 x2 _ (fun h13 => ?_) F 0 h3
      refine z_aload_n (pc := 34) dX10_mixSheets_34 rfl 0 rfl (z_getRl (pc := 35) fl_RX10_68 rfl dX10_mixSheets_35 (fun o14 => (z_iload_n (pc := 38) dX10_mixSheets_38 rfl 1 rfl (?_))))
      refine z_nn (fun a15 ea15 => ?_)
      subst ea15
      refine z_iaload (pc := 39) dX10_mixSheets_39 (z_iconst (pc := 40) dX10_mixSheets_40 ic_2 (?_))
      refine z_jn (P := fun (j : z_Hp → Option (z_Hp)) => ∀ (h17 : z_Hp), z_G zv mi_X10_mixSheets 62 [(0, vr (some a1)), (1, vi x2)] [] h17 (j h17)) (fun h17 => ?_) (fun j62_16 qj62_16 => ?_)
      · refine z_iincl (pc := 62) (L' := fun x18 => [(0, vr (some a1)), (1, vi x18)]) dX10_mixSheets_62 1 rfl ic_1 (Nat.le_of_ble_eq_true rfl) (fun _ => rfl) (fun x18 => (z_goto (pc := 65) (tgt := 2) dX10_mixSheets_65 (by decide) (?_)))
        exact ih x18 h17
      refine z_icmp_ne (pc := 41) (tgt := 62) dX10_mixSheets_41 (by decide) ?_ ?_
      · exact qj62_16 h13
      · refine z_aload_n (pc := 44) dX10_mixSheets_44 rfl 0 rfl (z_aload_n (pc := 45) dX10_mixSheets_45 rfl 0 rfl (z_getRl (pc := 46) fl_RX10_98 rfl dX10_mixSheets_46 (fun o19 => (z_iload_n (pc := 49) dX10_mixSheets_49 rfl 1 rfl (?_)))))
        refine z_nn (fun a20 ea20 => ?_)
        subst ea20
        refine z_iaload (pc := 50) dX10_mixSheets_50 (z_aload_n (pc := 51) dX10_mixSheets_51 rfl 0 rfl (z_getRl (pc := 52) fl_RX10_101 rfl dX10_mixSheets_52 (fun o21 => (z_bipush (pc := 55) dX10_mixSheets_55 bp_40 (z_iload_n (pc := 57) dX10_mixSheets_57 rfl 1 rfl (z_imul (pc := 58) dX10_mixSheets_58 (z_callV_V (pc := 59) (avs := [vi (hI h13 a20 (ix x2)), vr o21, vi (40 * x2)]) (st := []) rfl (q := (RX10, TX10, 62)) rfl rfl (t_X10_mixRow F a1 (hI h13 a20 (ix x2)) o21 (40 * x2) h13) ky_X10_mixRow wm_X10_mixRow we_X10_mixRow wz_RX10_389 (rm_X10_mixSheets_X10_mixRow) (Nat.le_of_ble_eq_true rfl) dX10_mixSheets_59 (fun h22 => (?_)))))))))
        exact qj62_16 h22
set_option maxRecDepth 20000 in
set_option maxHeartbeats 4000000 in
theorem t_X10_mixSheets (F : Nat) (a0 : Nat) (h0 : z_Hp) : z_Ct zv mi_X10_mixSheets [vr (some a0)] h0 (c_X10_mixSheets F a0 h0) := by
  refine z_entry (by decide) (Nat.le_of_ble_eq_true rfl) [(0, vr (some a0))] rfl ?_
  unfold c_X10_mixSheets
  refine z_iconst (pc := 0) dX10_mixSheets_0 ic_0 (z_istore_n (pc := 1) (L' := [(0, vr (some a0)), (1, vi 0)]) dX10_mixSheets_1 rfl (Nat.le_of_ble_eq_true rfl) rfl (?_))
  refine g_X10_mixSheets_L2 F a0 F 0 h0
theorem dX10_digest_0 : decode cX10_digest 0 = .ok (.aload_n 0, 1) := by decide +kernel
theorem dX10_digest_1 : decode cX10_digest 1 = .ok (.ldc2_w 393, 3) := by decide +kernel
theorem dX10_digest_4 : decode cX10_digest 4 = .ok (.putfield 383, 3) := by decide +kernel
theorem dX10_digest_7 : decode cX10_digest 7 = .ok (.iconst 0, 1) := by decide +kernel
theorem dX10_digest_8 : decode cX10_digest 8 = .ok (.istore_n 1, 1) := by decide +kernel
theorem dX10_digest_9 : decode cX10_digest 9 = .ok (.iload_n 1, 1) := by decide +kernel
theorem dX10_digest_10 : decode cX10_digest 10 = .ok (.bipush 7, 2) := by decide +kernel
theorem dX10_digest_12 : decode cX10_digest 12 = .ok (.if_icmp .gt 18, 3) := by decide +kernel
theorem dX10_digest_15 : decode cX10_digest 15 = .ok (.aload_n 0, 1) := by decide +kernel
theorem dX10_digest_16 : decode cX10_digest 16 = .ok (.aload_n 0, 1) := by decide +kernel
theorem dX10_digest_17 : decode cX10_digest 17 = .ok (.iload_n 1, 1) := by decide +kernel
theorem dX10_digest_18 : decode cX10_digest 18 = .ok (.invokevirtual 378, 3) := by decide +kernel
theorem dX10_digest_21 : decode cX10_digest 21 = .ok (.invokevirtual 386, 3) := by decide +kernel
theorem dX10_digest_24 : decode cX10_digest 24 = .ok (.iinc 1 1, 3) := by decide +kernel
theorem dX10_digest_27 : decode cX10_digest 27 = .ok (.goto (-18), 3) := by decide +kernel
theorem dX10_digest_30 : decode cX10_digest 30 = .ok (.iconst 0, 1) := by decide +kernel
theorem dX10_digest_31 : decode cX10_digest 31 = .ok (.istore_n 1, 1) := by decide +kernel
theorem dX10_digest_32 : decode cX10_digest 32 = .ok (.iload_n 1, 1) := by decide +kernel
theorem dX10_digest_33 : decode cX10_digest 33 = .ok (.bipush 10, 2) := by decide +kernel
theorem dX10_digest_35 : decode cX10_digest 35 = .ok (.if_icmp .ge 27, 3) := by decide +kernel
theorem dX10_digest_38 : decode cX10_digest 38 = .ok (.aload_n 0, 1) := by decide +kernel
theorem dX10_digest_39 : decode cX10_digest 39 = .ok (.aload_n 0, 1) := by decide +kernel
theorem dX10_digest_40 : decode cX10_digest 40 = .ok (.getfield 32, 3) := by decide +kernel
theorem dX10_digest_43 : decode cX10_digest 43 = .ok (.iload_n 1, 1) := by decide +kernel
theorem dX10_digest_44 : decode cX10_digest 44 = .ok (.iaload, 1) := by decide +kernel
theorem dX10_digest_45 : decode cX10_digest 45 = .ok (.aload_n 0, 1) := by decide +kernel
theorem dX10_digest_46 : decode cX10_digest 46 = .ok (.getfield 35, 3) := by decide +kernel
theorem dX10_digest_49 : decode cX10_digest 49 = .ok (.bipush 60, 2) := by decide +kernel
theorem dX10_digest_51 : decode cX10_digest 51 = .ok (.iload_n 1, 1) := by decide +kernel
theorem dX10_digest_52 : decode cX10_digest 52 = .ok (.imul, 1) := by decide +kernel
theorem dX10_digest_53 : decode cX10_digest 53 = .ok (.invokevirtual 389, 3) := by decide +kernel
theorem dX10_digest_56 : decode cX10_digest 56 = .ok (.iinc 1 1, 3) := by decide +kernel
theorem dX10_digest_59 : decode cX10_digest 59 = .ok (.goto (-27), 3) := by decide +kernel
theorem dX10_digest_62 : decode cX10_digest 62 = .ok (.iconst 0, 1) := by decide +kernel
theorem dX10_digest_63 : decode cX10_digest 63 = .ok (.istore_n 1, 1) := by decide +kernel
theorem dX10_digest_64 : decode cX10_digest 64 = .ok (.iload_n 1, 1) := by decide +kernel
theorem dX10_digest_65 : decode cX10_digest 65 = .ok (.bipush 6, 2) := by decide +kernel
theorem dX10_digest_67 : decode cX10_digest 67 = .ok (.if_icmp .ge 27, 3) := by decide +kernel
theorem dX10_digest_70 : decode cX10_digest 70 = .ok (.aload_n 0, 1) := by decide +kernel
theorem dX10_digest_71 : decode cX10_digest 71 = .ok (.aload_n 0, 1) := by decide +kernel
theorem dX10_digest_72 : decode cX10_digest 72 = .ok (.getfield 44, 3) := by decide +kernel
theorem dX10_digest_75 : decode cX10_digest 75 = .ok (.iload_n 1, 1) := by decide +kernel
theorem dX10_digest_76 : decode cX10_digest 76 = .ok (.iaload, 1) := by decide +kernel
theorem dX10_digest_77 : decode cX10_digest 77 = .ok (.aload_n 0, 1) := by decide +kernel
theorem dX10_digest_78 : decode cX10_digest 78 = .ok (.getfield 47, 3) := by decide +kernel
theorem dX10_digest_81 : decode cX10_digest 81 = .ok (.bipush 8, 2) := by decide +kernel
theorem dX10_digest_83 : decode cX10_digest 83 = .ok (.iload_n 1, 1) := by decide +kernel
theorem dX10_digest_84 : decode cX10_digest 84 = .ok (.imul, 1) := by decide +kernel
theorem dX10_digest_85 : decode cX10_digest 85 = .ok (.invokevirtual 389, 3) := by decide +kernel
theorem dX10_digest_88 : decode cX10_digest 88 = .ok (.iinc 1 1, 3) := by decide +kernel
theorem dX10_digest_91 : decode cX10_digest 91 = .ok (.goto (-27), 3) := by decide +kernel
theorem dX10_digest_94 : decode cX10_digest 94 = .ok (.iconst 0, 1) := by decide +kernel
theorem dX10_digest_95 : decode cX10_digest 95 = .ok (.istore_n 1, 1) := by decide +kernel
theorem dX10_digest_96 : decode cX10_digest 96 = .ok (.iload_n 1, 1) := by decide +kernel
theorem dX10_digest_97 : decode cX10_digest 97 = .ok (.bipush 8, 2) := by decide +kernel
theorem dX10_digest_99 : decode cX10_digest 99 = .ok (.if_icmp .ge 29, 3) := by decide +kernel
theorem dX10_digest_102 : decode cX10_digest 102 = .ok (.aload_n 0, 1) := by decide +kernel
theorem dX10_digest_103 : decode cX10_digest 103 = .ok (.aload_n 0, 1) := by decide +kernel
theorem dX10_digest_104 : decode cX10_digest 104 = .ok (.getfield 62, 3) := by decide +kernel
theorem dX10_digest_107 : decode cX10_digest 107 = .ok (.iload_n 1, 1) := by decide +kernel
theorem dX10_digest_108 : decode cX10_digest 108 = .ok (.iaload, 1) := by decide +kernel
theorem dX10_digest_109 : decode cX10_digest 109 = .ok (.invokevirtual 386, 3) := by decide +kernel
theorem dX10_digest_112 : decode cX10_digest 112 = .ok (.aload_n 0, 1) := by decide +kernel
theorem dX10_digest_113 : decode cX10_digest 113 = .ok (.aload_n 0, 1) := by decide +kernel
theorem dX10_digest_114 : decode cX10_digest 114 = .ok (.getfield 65, 3) := by decide +kernel
theorem dX10_digest_117 : decode cX10_digest 117 = .ok (.iload_n 1, 1) := by decide +kernel
theorem dX10_digest_118 : decode cX10_digest 118 = .ok (.iaload, 1) := by decide +kernel
theorem dX10_digest_119 : decode cX10_digest 119 = .ok (.invokevirtual 386, 3) := by decide +kernel
theorem dX10_digest_122 : decode cX10_digest 122 = .ok (.iinc 1 1, 3) := by decide +kernel
theorem dX10_digest_125 : decode cX10_digest 125 = .ok (.goto (-29), 3) := by decide +kernel
theorem dX10_digest_128 : decode cX10_digest 128 = .ok (.aload_n 0, 1) := by decide +kernel
theorem dX10_digest_129 : decode cX10_digest 129 = .ok (.invokevirtual 395, 3) := by decide +kernel
theorem dX10_digest_132 : decode cX10_digest 132 = .ok (.iconst 0, 1) := by decide +kernel
theorem dX10_digest_133 : decode cX10_digest 133 = .ok (.istore_n 1, 1) := by decide +kernel
theorem dX10_digest_134 : decode cX10_digest 134 = .ok (.iload_n 1, 1) := by decide +kernel
theorem dX10_digest_135 : decode cX10_digest 135 = .ok (.aload_n 0, 1) := by decide +kernel
theorem dX10_digest_136 : decode cX10_digest 136 = .ok (.getfield 243, 3) := by decide +kernel
theorem dX10_digest_139 : decode cX10_digest 139 = .ok (.if_icmp .ge 29, 3) := by decide +kernel
theorem dX10_digest_142 : decode cX10_digest 142 = .ok (.aload_n 0, 1) := by decide +kernel
theorem dX10_digest_143 : decode cX10_digest 143 = .ok (.aload_n 0, 1) := by decide +kernel
theorem dX10_digest_144 : decode cX10_digest 144 = .ok (.getfield 50, 3) := by decide +kernel
theorem dX10_digest_147 : decode cX10_digest 147 = .ok (.iload_n 1, 1) := by decide +kernel
theorem dX10_digest_148 : decode cX10_digest 148 = .ok (.iaload, 1) := by decide +kernel
theorem dX10_digest_149 : decode cX10_digest 149 = .ok (.invokevirtual 386, 3) := by decide +kernel
theorem dX10_digest_152 : decode cX10_digest 152 = .ok (.aload_n 0, 1) := by decide +kernel
theorem dX10_digest_153 : decode cX10_digest 153 = .ok (.aload_n 0, 1) := by decide +kernel
theorem dX10_digest_154 : decode cX10_digest 154 = .ok (.getfield 53, 3) := by decide +kernel
theorem dX10_digest_157 : decode cX10_digest 157 = .ok (.iload_n 1, 1) := by decide +kernel
theorem dX10_digest_158 : decode cX10_digest 158 = .ok (.iaload, 1) := by decide +kernel
theorem dX10_digest_159 : decode cX10_digest 159 = .ok (.invokevirtual 386, 3) := by decide +kernel
theorem dX10_digest_162 : decode cX10_digest 162 = .ok (.iinc 1 1, 3) := by decide +kernel
theorem dX10_digest_165 : decode cX10_digest 165 = .ok (.goto (-31), 3) := by decide +kernel
theorem dX10_digest_168 : decode cX10_digest 168 = .ok (.iconst 0, 1) := by decide +kernel
theorem dX10_digest_169 : decode cX10_digest 169 = .ok (.istore_n 1, 1) := by decide +kernel
theorem dX10_digest_170 : decode cX10_digest 170 = .ok (.iload_n 1, 1) := by decide +kernel
theorem dX10_digest_171 : decode cX10_digest 171 = .ok (.aload_n 0, 1) := by decide +kernel
theorem dX10_digest_172 : decode cX10_digest 172 = .ok (.getfield 291, 3) := by decide +kernel
theorem dX10_digest_175 : decode cX10_digest 175 = .ok (.if_icmp .ge 39, 3) := by decide +kernel
theorem dX10_digest_178 : decode cX10_digest 178 = .ok (.aload_n 0, 1) := by decide +kernel
theorem dX10_digest_179 : decode cX10_digest 179 = .ok (.aload_n 0, 1) := by decide +kernel
theorem dX10_digest_180 : decode cX10_digest 180 = .ok (.getfield 132, 3) := by decide +kernel
theorem dX10_digest_183 : decode cX10_digest 183 = .ok (.iload_n 1, 1) := by decide +kernel
theorem dX10_digest_184 : decode cX10_digest 184 = .ok (.iaload, 1) := by decide +kernel
theorem dX10_digest_185 : decode cX10_digest 185 = .ok (.invokevirtual 386, 3) := by decide +kernel
theorem dX10_digest_188 : decode cX10_digest 188 = .ok (.aload_n 0, 1) := by decide +kernel
theorem dX10_digest_189 : decode cX10_digest 189 = .ok (.aload_n 0, 1) := by decide +kernel
theorem dX10_digest_190 : decode cX10_digest 190 = .ok (.getfield 135, 3) := by decide +kernel
theorem dX10_digest_193 : decode cX10_digest 193 = .ok (.iload_n 1, 1) := by decide +kernel
theorem dX10_digest_194 : decode cX10_digest 194 = .ok (.iaload, 1) := by decide +kernel
theorem dX10_digest_195 : decode cX10_digest 195 = .ok (.invokevirtual 386, 3) := by decide +kernel
theorem dX10_digest_198 : decode cX10_digest 198 = .ok (.aload_n 0, 1) := by decide +kernel
theorem dX10_digest_199 : decode cX10_digest 199 = .ok (.aload_n 0, 1) := by decide +kernel
theorem dX10_digest_200 : decode cX10_digest 200 = .ok (.getfield 138, 3) := by decide +kernel
theorem dX10_digest_203 : decode cX10_digest 203 = .ok (.iload_n 1, 1) := by decide +kernel
theorem dX10_digest_204 : decode cX10_digest 204 = .ok (.iaload, 1) := by decide +kernel
theorem dX10_digest_205 : decode cX10_digest 205 = .ok (.invokevirtual 386, 3) := by decide +kernel
theorem dX10_digest_208 : decode cX10_digest 208 = .ok (.iinc 1 1, 3) := by decide +kernel
theorem dX10_digest_211 : decode cX10_digest 211 = .ok (.goto (-41), 3) := by decide +kernel
theorem dX10_digest_214 : decode cX10_digest 214 = .ok (.iconst 0, 1) := by decide +kernel
theorem dX10_digest_215 : decode cX10_digest 215 = .ok (.istore_n 1, 1) := by decide +kernel
theorem dX10_digest_216 : decode cX10_digest 216 = .ok (.iload_n 1, 1) := by decide +kernel
theorem dX10_digest_217 : decode cX10_digest 217 = .ok (.iconst 4, 1) := by decide +kernel
theorem dX10_digest_218 : decode cX10_digest 218 = .ok (.if_icmp .ge 27, 3) := by decide +kernel
theorem dX10_digest_221 : decode cX10_digest 221 = .ok (.aload_n 0, 1) := by decide +kernel
theorem dX10_digest_222 : decode cX10_digest 222 = .ok (.aload_n 0, 1) := by decide +kernel
theorem dX10_digest_223 : decode cX10_digest 223 = .ok (.getfield 141, 3) := by decide +kernel
theorem dX10_digest_226 : decode cX10_digest 226 = .ok (.iload_n 1, 1) := by decide +kernel
theorem dX10_digest_227 : decode cX10_digest 227 = .ok (.iaload, 1) := by decide +kernel
theorem dX10_digest_228 : decode cX10_digest 228 = .ok (.aload_n 0, 1) := by decide +kernel
theorem dX10_digest_229 : decode cX10_digest 229 = .ok (.getfield 144, 3) := by decide +kernel
theorem dX10_digest_232 : decode cX10_digest 232 = .ok (.bipush 40, 2) := by decide +kernel
theorem dX10_digest_234 : decode cX10_digest 234 = .ok (.iload_n 1, 1) := by decide +kernel
theorem dX10_digest_235 : decode cX10_digest 235 = .ok (.imul, 1) := by decide +kernel
theorem dX10_digest_236 : decode cX10_digest 236 = .ok (.invokevirtual 389, 3) := by decide +kernel
theorem dX10_digest_239 : decode cX10_digest 239 = .ok (.iinc 1 1, 3) := by decide +kernel
theorem dX10_digest_242 : decode cX10_digest 242 = .ok (.goto (-26), 3) := by decide +kernel
theorem dX10_digest_245 : decode cX10_digest 245 = .ok (.iconst 0, 1) := by decide +kernel
theorem dX10_digest_246 : decode cX10_digest 246 = .ok (.istore_n 1, 1) := by decide +kernel
theorem dX10_digest_247 : decode cX10_digest 247 = .ok (.iload_n 1, 1) := by decide +kernel
theorem dX10_digest_248 : decode cX10_digest 248 = .ok (.aload_n 0, 1) := by decide +kernel
theorem dX10_digest_249 : decode cX10_digest 249 = .ok (.getfield 361, 3) := by decide +kernel
theorem dX10_digest_252 : decode cX10_digest 252 = .ok (.if_icmp .ge 39, 3) := by decide +kernel
theorem dX10_digest_255 : decode cX10_digest 255 = .ok (.aload_n 0, 1) := by decide +kernel
theorem dX10_digest_256 : decode cX10_digest 256 = .ok (.aload_n 0, 1) := by decide +kernel
theorem dX10_digest_257 : decode cX10_digest 257 = .ok (.getfield 147, 3) := by decide +kernel
theorem dX10_digest_260 : decode cX10_digest 260 = .ok (.iload_n 1, 1) := by decide +kernel
theorem dX10_digest_261 : decode cX10_digest 261 = .ok (.iaload, 1) := by decide +kernel
theorem dX10_digest_262 : decode cX10_digest 262 = .ok (.invokevirtual 386, 3) := by decide +kernel
theorem dX10_digest_265 : decode cX10_digest 265 = .ok (.aload_n 0, 1) := by decide +kernel
theorem dX10_digest_266 : decode cX10_digest 266 = .ok (.aload_n 0, 1) := by decide +kernel
theorem dX10_digest_267 : decode cX10_digest 267 = .ok (.getfield 150, 3) := by decide +kernel
theorem dX10_digest_270 : decode cX10_digest 270 = .ok (.iload_n 1, 1) := by decide +kernel
theorem dX10_digest_271 : decode cX10_digest 271 = .ok (.iaload, 1) := by decide +kernel
theorem dX10_digest_272 : decode cX10_digest 272 = .ok (.invokevirtual 386, 3) := by decide +kernel
theorem dX10_digest_275 : decode cX10_digest 275 = .ok (.aload_n 0, 1) := by decide +kernel
theorem dX10_digest_276 : decode cX10_digest 276 = .ok (.aload_n 0, 1) := by decide +kernel
theorem dX10_digest_277 : decode cX10_digest 277 = .ok (.getfield 153, 3) := by decide +kernel
theorem dX10_digest_280 : decode cX10_digest 280 = .ok (.iload_n 1, 1) := by decide +kernel
theorem dX10_digest_281 : decode cX10_digest 281 = .ok (.iaload, 1) := by decide +kernel
theorem dX10_digest_282 : decode cX10_digest 282 = .ok (.invokevirtual 386, 3) := by decide +kernel
theorem dX10_digest_285 : decode cX10_digest 285 = .ok (.iinc 1 1, 3) := by decide +kernel
theorem dX10_digest_288 : decode cX10_digest 288 = .ok (.goto (-41), 3) := by decide +kernel
theorem dX10_digest_291 : decode cX10_digest 291 = .ok (.iconst 0, 1) := by decide +kernel
theorem dX10_digest_292 : decode cX10_digest 292 = .ok (.istore_n 1, 1) := by decide +kernel
theorem dX10_digest_293 : decode cX10_digest 293 = .ok (.iload_n 1, 1) := by decide +kernel
theorem dX10_digest_294 : decode cX10_digest 294 = .ok (.bipush 6, 2) := by decide +kernel
theorem dX10_digest_296 : decode cX10_digest 296 = .ok (.if_icmp .ge 27, 3) := by decide +kernel
theorem dX10_digest_299 : decode cX10_digest 299 = .ok (.aload_n 0, 1) := by decide +kernel
theorem dX10_digest_300 : decode cX10_digest 300 = .ok (.aload_n 0, 1) := by decide +kernel
theorem dX10_digest_301 : decode cX10_digest 301 = .ok (.getfield 17, 3) := by decide +kernel
theorem dX10_digest_304 : decode cX10_digest 304 = .ok (.iload_n 1, 1) := by decide +kernel
theorem dX10_digest_305 : decode cX10_digest 305 = .ok (.iaload, 1) := by decide +kernel
theorem dX10_digest_306 : decode cX10_digest 306 = .ok (.aload_n 0, 1) := by decide +kernel
theorem dX10_digest_307 : decode cX10_digest 307 = .ok (.getfield 20, 3) := by decide +kernel
theorem dX10_digest_310 : decode cX10_digest 310 = .ok (.bipush 40, 2) := by decide +kernel
theorem dX10_digest_312 : decode cX10_digest 312 = .ok (.iload_n 1, 1) := by decide +kernel
theorem dX10_digest_313 : decode cX10_digest 313 = .ok (.imul, 1) := by decide +kernel
theorem dX10_digest_314 : decode cX10_digest 314 = .ok (.invokevirtual 389, 3) := by decide +kernel
theorem dX10_digest_317 : decode cX10_digest 317 = .ok (.iinc 1 1, 3) := by decide +kernel
theorem dX10_digest_320 : decode cX10_digest 320 = .ok (.goto (-27), 3) := by decide +kernel
theorem dX10_digest_323 : decode cX10_digest 323 = .ok (.iconst 0, 1) := by decide +kernel
theorem dX10_digest_324 : decode cX10_digest 324 = .ok (.istore_n 1, 1) := by decide +kernel
theorem dX10_digest_325 : decode cX10_digest 325 = .ok (.iload_n 1, 1) := by decide +kernel
theorem dX10_digest_326 : decode cX10_digest 326 = .ok (.iconst 4, 1) := by decide +kernel
theorem dX10_digest_327 : decode cX10_digest 327 = .ok (.if_icmp .ge 27, 3) := by decide +kernel
theorem dX10_digest_330 : decode cX10_digest 330 = .ok (.aload_n 0, 1) := by decide +kernel
theorem dX10_digest_331 : decode cX10_digest 331 = .ok (.aload_n 0, 1) := by decide +kernel
theorem dX10_digest_332 : decode cX10_digest 332 = .ok (.getfield 26, 3) := by decide +kernel
theorem dX10_digest_335 : decode cX10_digest 335 = .ok (.iload_n 1, 1) := by decide +kernel
theorem dX10_digest_336 : decode cX10_digest 336 = .ok (.iaload, 1) := by decide +kernel
theorem dX10_digest_337 : decode cX10_digest 337 = .ok (.aload_n 0, 1) := by decide +kernel
theorem dX10_digest_338 : decode cX10_digest 338 = .ok (.getfield 29, 3) := by decide +kernel
theorem dX10_digest_341 : decode cX10_digest 341 = .ok (.bipush 60, 2) := by decide +kernel
theorem dX10_digest_343 : decode cX10_digest 343 = .ok (.iload_n 1, 1) := by decide +kernel
theorem dX10_digest_344 : decode cX10_digest 344 = .ok (.imul, 1) := by decide +kernel
theorem dX10_digest_345 : decode cX10_digest 345 = .ok (.invokevirtual 389, 3) := by decide +kernel
theorem dX10_digest_348 : decode cX10_digest 348 = .ok (.iinc 1 1, 3) := by decide +kernel
theorem dX10_digest_351 : decode cX10_digest 351 = .ok (.goto (-26), 3) := by decide +kernel
theorem dX10_digest_354 : decode cX10_digest 354 = .ok (.aload_n 0, 1) := by decide +kernel
theorem dX10_digest_355 : decode cX10_digest 355 = .ok (.getfield 383, 3) := by decide +kernel
theorem dX10_digest_358 : decode cX10_digest 358 = .ok (.lreturn, 1) := by decide +kernel
def c_X10_digest_L9 (F : Nat) (a2 : Nat) (k30 : z_Hp → Option (Int64 × z_Hp)) : Nat → Int32 → z_Hp → Option (Int64 × z_Hp)
  | 0, _, _ => none
  | n + 1, x3, h4 => (if 7 < x3 then (k30 h4) else (if hT h4 a2 = 10 then (bI (c_X10_counts F a2 x3 h4) (fun x7 h6 => (if hT h6 a2 = 10 then (bV (c_X10_mix F a2 x7 h6) (fun h8 => (lt_ (x3 + 1) (fun x9 => (c_X10_digest_L9 F a2 k30 n x9 h8))))) else none))) else none))
def c_X10_digest_L32 (F : Nat) (a11 : Nat) (k62 : z_Hp → Option (Int64 × z_Hp)) : Nat → Int32 → z_Hp → Option (Int64 × z_Hp)
  | 0, _, _ => none
  | n + 1, x12, h13 => (if 10 ≤ x12 then (k62 h13) else (if hT h13 a11 = 10 then (lt_ (hR h13 a11 12) (fun o15 => (nn o15 (fun a16 => (if okA h13 a16 20 x12 = true then (if hT h13 a11 = 10 then (lt_ (hR h13 a11 13) (fun o17 => (if hT h13 a11 = 10 then (bV (c_X10_mixRow F a11 (hI h13 a16 (ix x12)) o17 (60 * x12) h13) (fun h18 => (lt_ (x12 + 1) (fun x19 => (c_X10_digest_L32 F a11 k62 n x19 h18))))) else none))) else none) else none))))) else none))
def c_X10_digest_L64 (F : Nat) (a21 : Nat) (k94 : z_Hp → Option (Int64 × z_Hp)) : Nat → Int32 → z_Hp → Option (Int64 × z_Hp)
  | 0, _, _ => none
  | n + 1, x22, h23 => (if 6 ≤ x22 then (k94 h23) else (if hT h23 a21 = 10 then (lt_ (hR h23 a21 17) (fun o25 => (nn o25 (fun a26 => (if okA h23 a26 20 x22 = true then (if hT h23 a21 = 10 then (lt_ (hR h23 a21 18) (fun o27 => (if hT h23 a21 = 10 then (bV (c_X10_mixRow F a21 (hI h23 a26 (ix x22)) o27 (8 * x22) h23) (fun h28 => (lt_ (x22 + 1) (fun x29 => (c_X10_digest_L64 F a21 k94 n x29 h28))))) else none))) else none) else none))))) else none))
def c_X10_digest_L96 (F : Nat) (a31 : Nat) (k128 : z_Hp → Option (Int64 × z_Hp)) : Nat → Int32 → z_Hp → Option (Int64 × z_Hp)
  | 0, _, _ => none
  | n + 1, x32, h33 => (if 8 ≤ x32 then (k128 h33) else (if hT h33 a31 = 10 then (lt_ (hR h33 a31 24) (fun o35 => (nn o35 (fun a36 => (if okA h33 a36 20 x32 = true then (if hT h33 a31 = 10 then (bV (c_X10_mix F a31 (hI h33 a36 (ix x32)) h33) (fun h37 => (if hT h37 a31 = 10 then (lt_ (hR h37 a31 25) (fun o38 => (nn o38 (fun a39 => (if okA h37 a39 20 x32 = true then (if hT h37 a31 = 10 then (bV (c_X10_mix F a31 (hI h37 a39 (ix x32)) h37) (fun h40 => (lt_ (x32 + 1) (fun x41 => (c_X10_digest_L96 F a31 k128 n x41 h40))))) else none) else none))))) else none))) else none) else none))))) else none))
def c_X10_digest_L134 (F : Nat) (a44 : Nat) (k168 : z_Hp → Option (Int64 × z_Hp)) : Nat → Int32 → z_Hp → Option (Int64 × z_Hp)
  | 0, _, _ => none
  | n + 1, x45, h46 => (if hT h46 a44 = 10 then (if (hI h46 a44 19) ≤ x45 then (k168 h46) else (if hT h46 a44 = 10 then (lt_ (hR h46 a44 20) (fun o48 => (nn o48 (fun a49 => (if okA h46 a49 20 x45 = true then (if hT h46 a44 = 10 then (bV (c_X10_mix F a44 (hI h46 a49 (ix x45)) h46) (fun h50 => (if hT h50 a44 = 10 then (lt_ (hR h50 a44 21) (fun o51 => (nn o51 (fun a52 => (if okA h50 a52 20 x45 = true then (if hT h50 a44 = 10 then (bV (c_X10_mix F a44 (hI h50 a52 (ix x45)) h50) (fun h53 => (lt_ (x45 + 1) (fun x54 => (c_X10_digest_L134 F a44 k168 n x54 h53))))) else none) else none))))) else none))) else none) else none))))) else none)) else none)
def c_X10_digest_L170 (F : Nat) (a56 : Nat) (k214 : z_Hp → Option (Int64 × z_Hp)) : Nat → Int32 → z_Hp → Option (Int64 × z_Hp)
  | 0, _, _ => none
  | n + 1, x57, h58 => (if hT h58 a56 = 10 then (if (hI h58 a56 49) ≤ x57 then (k214 h58) else (if hT h58 a56 = 10 then (lt_ (hR h58 a56 50) (fun o60 => (nn o60 (fun a61 => (if okA h58 a61 20 x57 = true then (if hT h58 a56 = 10 then (bV (c_X10_mix F a56 (hI h58 a61 (ix x57)) h58) (fun h62 => (if hT h62 a56 = 10 then (lt_ (hR h62 a56 51) (fun o63 => (nn o63 (fun a64 => (if okA h62 a64 20 x57 = true then (if hT h62 a56 = 10 then (bV (c_X10_mix F a56 (hI h62 a64 (ix x57)) h62) (fun h65 => (if hT h65 a56 = 10 then (lt_ (hR h65 a56 52) (fun o66 => (nn o66 (fun a67 => (if okA h65 a67 20 x57 = true then (if hT h65 a56 = 10 then (bV (c_X10_mix F a56 (hI h65 a67 (ix x57)) h65) (fun h68 => (lt_ (x57 + 1) (fun x69 => (c_X10_digest_L170 F a56 k214 n x69 h68))))) else none) else none))))) else none))) else none) else none))))) else none))) else none) else none))))) else none)) else none)
def c_X10_digest_L216 (F : Nat) (a71 : Nat) (k245 : z_Hp → Option (Int64 × z_Hp)) : Nat → Int32 → z_Hp → Option (Int64 × z_Hp)
  | 0, _, _ => none
  | n + 1, x72, h73 => (if 4 ≤ x72 then (k245 h73) else (if hT h73 a71 = 10 then (lt_ (hR h73 a71 53) (fun o75 => (nn o75 (fun a76 => (if okA h73 a76 20 x72 = true then (if hT h73 a71 = 10 then (lt_ (hR h73 a71 54) (fun o77 => (if hT h73 a71 = 10 then (bV (c_X10_mixRow F a71 (hI h73 a76 (ix x72)) o77 (40 * x72) h73) (fun h78 => (lt_ (x72 + 1) (fun x79 => (c_X10_digest_L216 F a71 k245 n x79 h78))))) else none))) else none) else none))))) else none))
def c_X10_digest_L247 (F : Nat) (a81 : Nat) (k291 : z_Hp → Option (Int64 × z_Hp)) : Nat → Int32 → z_Hp → Option (Int64 × z_Hp)
  | 0, _, _ => none
  | n + 1, x82, h83 => (if hT h83 a81 = 10 then (if (hI h83 a81 55) ≤ x82 then (k291 h83) else (if hT h83 a81 = 10 then (lt_ (hR h83 a81 56) (fun o85 => (nn o85 (fun a86 => (if okA h83 a86 20 x82 = true then (if hT h83 a81 = 10 then (bV (c_X10_mix F a81 (hI h83 a86 (ix x82)) h83) (fun h87 => (if hT h87 a81 = 10 then (lt_ (hR h87 a81 57) (fun o88 => (nn o88 (fun a89 => (if okA h87 a89 20 x82 = true then (if hT h87 a81 = 10 then (bV (c_X10_mix F a81 (hI h87 a89 (ix x82)) h87) (fun h90 => (if hT h90 a81 = 10 then (lt_ (hR h90 a81 58) (fun o91 => (nn o91 (fun a92 => (if okA h90 a92 20 x82 = true then (if hT h90 a81 = 10 then (bV (c_X10_mix F a81 (hI h90 a92 (ix x82)) h90) (fun h93 => (lt_ (x82 + 1) (fun x94 => (c_X10_digest_L247 F a81 k291 n x94 h93))))) else none) else none))))) else none))) else none) else none))))) else none))) else none) else none))))) else none)) else none)
def c_X10_digest_L293 (F : Nat) (a96 : Nat) (k323 : z_Hp → Option (Int64 × z_Hp)) : Nat → Int32 → z_Hp → Option (Int64 × z_Hp)
  | 0, _, _ => none
  | n + 1, x97, h98 => (if 6 ≤ x97 then (k323 h98) else (if hT h98 a96 = 10 then (lt_ (hR h98 a96 7) (fun o100 => (nn o100 (fun a101 => (if okA h98 a101 20 x97 = true then (if hT h98 a96 = 10 then (lt_ (hR h98 a96 8) (fun o102 => (if hT h98 a96 = 10 then (bV (c_X10_mixRow F a96 (hI h98 a101 (ix x97)) o102 (40 * x97) h98) (fun h103 => (lt_ (x97 + 1) (fun x104 => (c_X10_digest_L293 F a96 k323 n x104 h103))))) else none))) else none) else none))))) else none))
def c_X10_digest_L325 (F : Nat) (a106 : Nat) : Nat → Int32 → z_Hp → Option (Int64 × z_Hp)
  | 0, _, _ => none
  | n + 1, x107, h108 => (if 4 ≤ x107 then (if hT h108 a106 = 10 then (some (hJ h108 a106 61, h108)) else none) else (if hT h108 a106 = 10 then (lt_ (hR h108 a106 10) (fun o109 => (nn o109 (fun a110 => (if okA h108 a110 20 x107 = true then (if hT h108 a106 = 10 then (lt_ (hR h108 a106 11) (fun o111 => (if hT h108 a106 = 10 then (bV (c_X10_mixRow F a106 (hI h108 a110 (ix x107)) o111 (60 * x107) h108) (fun h112 => (lt_ (x107 + 1) (fun x113 => (c_X10_digest_L325 F a106 n x113 h112))))) else none))) else none) else none))))) else none))
def c_X10_digest (F : Nat) (a0 : Nat) (h0 : z_Hp) : Option (Int64 × z_Hp) := (if hT h0 a0 = 10 then (lt_ (sJ h0 a0 61 17) (fun h1 => (c_X10_digest_L9 F a0 (fun h10 => (c_X10_digest_L32 F a0 (fun h20 => (c_X10_digest_L64 F a0 (fun h30 => (c_X10_digest_L96 F a0 (fun h42 => (if hT h42 a0 = 10 then (bV (c_X10_mixSheets F a0 h42) (fun h43 => (c_X10_digest_L134 F a0 (fun h55 => (c_X10_digest_L170 F a0 (fun h70 => (c_X10_digest_L216 F a0 (fun h80 => (c_X10_digest_L247 F a0 (fun h95 => (c_X10_digest_L293 F a0 (fun h105 => (c_X10_digest_L325 F a0 F 0 h105)) F 0 h95)) F 0 h80)) F 0 h70)) F 0 h55)) F 0 h43))) else none)) F 0 h30)) F 0 h20)) F 0 h10)) F 0 h1))) else none)
set_option maxRecDepth 20000 in
set_option maxHeartbeats 4000000 in
theorem g_X10_digest_L9 (F : Nat) (a2 : Nat) (k30 : z_Hp → Option (Int64 × z_Hp)) (qk30 : ∀ (h5 : z_Hp), z_G zl mi_X10_digest 30 [(0, vr (some a2))] [] h5 (k30 h5)) : ∀ (n : Nat) (x3 : Int32) (h4 : z_Hp), z_G zl mi_X10_digest 9 [(0, vr (some a2)), (1, vi x3)] [] h4 (c_X10_digest_L9 F a2 k30 n x3 h4) := by
  intro n
  induction n with
  | zero => intro x3 h4; rw [c_X10_digest_L9]; exact z_none
  | succ n ih =>
    intro x3 h4
    rw [c_X10_digest_L9]
    refine z_iload_n (pc := 9) dX10_digest_9 rfl 1 rfl (z_bipush (pc := 10) dX10_digest_10 bp_7 (?_))
    refine z_icmp_gt (pc := 12) (tgt := 30) dX10_digest_12 (by decide) ?_ ?_
    · exact z_sub [0] rfl (qk30 h4)
    · refine z_aload_n (pc := 15) dX10_digest_15 rfl 0 rfl (z_aload_n (pc := 16) dX10_digest_16 rfl 0 rfl (z_iload_n (pc := 17) dX10_digest_17 rfl 1 rfl (z_callV_I (pc := 18) (avs := [vi x3]) (st := [vr (some a2)]) rfl (q := (RX10, TX10, 62)) rfl rfl (t_X10_counts F a2 x3 h4) ky_X10_counts wm_X10_counts we_X10_counts wz_RX10_378 (rm_X10_digest_X10_counts) (Nat.le_of_ble_eq_true rfl) dX10_digest_18 (fun x7 h6 => (?_)))))
      refine z_callV_V (pc := 21) (avs := [vi x7]) (st := []) rfl (q := (RX10, TX10, 62)) rfl rfl (t_X10_mix F a2 x7 h6) ky_X10_mix wm_X10_mix we_X10_mix wz_RX10_386 (rm_X10_digest_X10_mix) (Nat.le_of_ble_eq_true rfl) dX10_digest_21 (fun h8 => (?_))
      refine z_iincl (pc := 24) (L' := fun x9 => [(0, vr (some a2)), (1, vi x9)]) dX10_digest_24 1 rfl ic_1 (Nat.le_of_ble_eq_true rfl) (fun _ => rfl) (fun x9 => (z_goto (pc := 27) (tgt := 9) dX10_digest_27 (by decide) (?_)))
      exact ih x9 h8
set_option maxRecDepth 20000 in
set_option maxHeartbeats 4000000 in
theorem g_X10_digest_L32 (F : Nat) (a11 : Nat) (k62 : z_Hp → Option (Int64 × z_Hp)) (qk62 : ∀ (h14 : z_Hp), z_G zl mi_X10_digest 62 [(0, vr (some a11))] [] h14 (k62 h14)) : ∀ (n : Nat) (x12 : Int32) (h13 : z_Hp), z_G zl mi_X10_digest 32 [(0, vr (some a11)), (1, vi x12)] [] h13 (c_X10_digest_L32 F a11 k62 n x12 h13) := by
  intro n
  induction n with
  | zero => intro x12 h13; rw [c_X10_digest_L32]; exact z_none
  | succ n ih =>
    intro x12 h13
    rw [c_X10_digest_L32]
    refine z_iload_n (pc := 32) dX10_digest_32 rfl 1 rfl (z_bipush (pc := 33) dX10_digest_33 bp_10 (?_))
    refine z_icmp_ge (pc := 35) (tgt := 62) dX10_digest_35 (by decide) ?_ ?_
    · exact z_sub [0] rfl (qk62 h13)
    · refine z_aload_n (pc := 38) dX10_digest_38 rfl 0 rfl (z_aload_n (pc := 39) dX10_digest_39 rfl 0 rfl (z_getRl (pc := 40) fl_RX10_32 rfl dX10_digest_40 (fun o15 => (z_iload_n (pc := 43) dX10_digest_43 rfl 1 rfl (?_)))))
      refine z_nn (fun a16 ea16 => ?_)
      subst ea16
      refine z_iaload (pc := 44) dX10_digest_44 (z_aload_n (pc := 45) dX10_digest_45 rfl 0 rfl (z_getRl (pc := 46) fl_RX10_35 rfl dX10_digest_46 (fun o17 => (z_bipush (pc := 49) dX10_digest_49 bp_60 (z_iload_n (pc := 51) dX10_digest_51 rfl 1 rfl (z_imul (pc := 52) dX10_digest_52 (z_callV_V (pc := 53) (avs := [vi (hI h13 a16 (ix x12)), vr o17, vi (60 * x12)]) (st := []) rfl (q := (RX10, TX10, 62)) rfl rfl (t_X10_mixRow F a11 (hI h13 a16 (ix x12)) o17 (60 * x12) h13) ky_X10_mixRow wm_X10_mixRow we_X10_mixRow wz_RX10_389 (rm_X10_digest_X10_mixRow) (Nat.le_of_ble_eq_true rfl) dX10_digest_53 (fun h18 => (?_)))))))))
      refine z_iincl (pc := 56) (L' := fun x19 => [(0, vr (some a11)), (1, vi x19)]) dX10_digest_56 1 rfl ic_1 (Nat.le_of_ble_eq_true rfl) (fun _ => rfl) (fun x19 => (z_goto (pc := 59) (tgt := 32) dX10_digest_59 (by decide) (?_)))
      exact ih x19 h18
set_option maxRecDepth 20000 in
set_option maxHeartbeats 4000000 in
theorem g_X10_digest_L64 (F : Nat) (a21 : Nat) (k94 : z_Hp → Option (Int64 × z_Hp)) (qk94 : ∀ (h24 : z_Hp), z_G zl mi_X10_digest 94 [(0, vr (some a21))] [] h24 (k94 h24)) : ∀ (n : Nat) (x22 : Int32) (h23 : z_Hp), z_G zl mi_X10_digest 64 [(0, vr (some a21)), (1, vi x22)] [] h23 (c_X10_digest_L64 F a21 k94 n x22 h23) := by
  intro n
  induction n with
  | zero => intro x22 h23; rw [c_X10_digest_L64]; exact z_none
  | succ n ih =>
    intro x22 h23
    rw [c_X10_digest_L64]
    refine z_iload_n (pc := 64) dX10_digest_64 rfl 1 rfl (z_bipush (pc := 65) dX10_digest_65 bp_6 (?_))
    refine z_icmp_ge (pc := 67) (tgt := 94) dX10_digest_67 (by decide) ?_ ?_
    · exact z_sub [0] rfl (qk94 h23)
    · refine z_aload_n (pc := 70) dX10_digest_70 rfl 0 rfl (z_aload_n (pc := 71) dX10_digest_71 rfl 0 rfl (z_getRl (pc := 72) fl_RX10_44 rfl dX10_digest_72 (fun o25 => (z_iload_n (pc := 75) dX10_digest_75 rfl 1 rfl (?_)))))
      refine z_nn (fun a26 ea26 => ?_)
      subst ea26
      refine z_iaload (pc := 76) dX10_digest_76 (z_aload_n (pc := 77) dX10_digest_77 rfl 0 rfl (z_getRl (pc := 78) fl_RX10_47 rfl dX10_digest_78 (fun o27 => (z_bipush (pc := 81) dX10_digest_81 bp_8 (z_iload_n (pc := 83) dX10_digest_83 rfl 1 rfl (z_imul (pc := 84) dX10_digest_84 (z_callV_V (pc := 85) (avs := [vi (hI h23 a26 (ix x22)), vr o27, vi (8 * x22)]) (st := []) rfl (q := (RX10, TX10, 62)) rfl rfl (t_X10_mixRow F a21 (hI h23 a26 (ix x22)) o27 (8 * x22) h23) ky_X10_mixRow wm_X10_mixRow we_X10_mixRow wz_RX10_389 (rm_X10_digest_X10_mixRow) (Nat.le_of_ble_eq_true rfl) dX10_digest_85 (fun h28 => (?_)))))))))
      refine z_iincl (pc := 88) (L' := fun x29 => [(0, vr (some a21)), (1, vi x29)]) dX10_digest_88 1 rfl ic_1 (Nat.le_of_ble_eq_true rfl) (fun _ => rfl) (fun x29 => (z_goto (pc := 91) (tgt := 64) dX10_digest_91 (by decide) (?_)))
      exact ih x29 h28
set_option maxRecDepth 20000 in
set_option maxHeartbeats 4000000 in
theorem g_X10_digest_L96 (F : Nat) (a31 : Nat) (k128 : z_Hp → Option (Int64 × z_Hp)) (qk128 : ∀ (h34 : z_Hp), z_G zl mi_X10_digest 128 [(0, vr (some a31))] [] h34 (k128 h34)) : ∀ (n : Nat) (x32 : Int32) (h33 : z_Hp), z_G zl mi_X10_digest 96 [(0, vr (some a31)), (1, vi x32)] [] h33 (c_X10_digest_L96 F a31 k128 n x32 h33) := by
  intro n
  induction n with
  | zero => intro x32 h33; rw [c_X10_digest_L96]; exact z_none
  | succ n ih =>
    intro x32 h33
    rw [c_X10_digest_L96]
    refine z_iload_n (pc := 96) dX10_digest_96 rfl 1 rfl (z_bipush (pc := 97) dX10_digest_97 bp_8 (?_))
    refine z_icmp_ge (pc := 99) (tgt := 128) dX10_digest_99 (by decide) ?_ ?_
    · exact z_sub [0] rfl (qk128 h33)
    · refine z_aload_n (pc := 102) dX10_digest_102 rfl 0 rfl (z_aload_n (pc := 103) dX10_digest_103 rfl 0 rfl (z_getRl (pc := 104) fl_RX10_62 rfl dX10_digest_104 (fun o35 => (z_iload_n (pc := 107) dX10_digest_107 rfl 1 rfl (?_)))))
      refine z_nn (fun a36 ea36 => ?_)
      subst ea36
      refine z_iaload (pc := 108) dX10_digest_108 (z_callV_V (pc := 109) (avs := [vi (hI h33 a36 (ix x32))]) (st := []) rfl (q := (RX10, TX10, 62)) rfl rfl (t_X10_mix F a31 (hI h33 a36 (ix x32)) h33) ky_X10_mix wm_X10_mix we_X10_mix wz_RX10_386 (rm_X10_digest_X10_mix) (Nat.le_of_ble_eq_true rfl) dX10_digest_109 (fun h37 => (?_)))
      refine z_aload_n (pc := 112) dX10_digest_112 rfl 0 rfl (z_aload_n (pc := 113) dX10_digest_113 rfl 0 rfl (z_getRl (pc := 114) fl_RX10_65 rfl dX10_digest_114 (fun o38 => (z_iload_n (pc := 117) dX10_digest_117 rfl 1 rfl (?_)))))
      refine z_nn (fun a39 ea39 => ?_)
      subst ea39
      refine z_iaload (pc := 118) dX10_digest_118 (z_callV_V (pc := 119) (avs := [vi (hI h37 a39 (ix x32))]) (st := []) rfl (q := (RX10, TX10, 62)) rfl rfl (t_X10_mix F a31 (hI h37 a39 (ix x32)) h37) ky_X10_mix wm_X10_mix we_X10_mix wz_RX10_386 (rm_X10_digest_X10_mix) (Nat.le_of_ble_eq_true rfl) dX10_digest_119 (fun h40 => (?_)))
      refine z_iincl (pc := 122) (L' := fun x41 => [(0, vr (some a31)), (1, vi x41)]) dX10_digest_122 1 rfl ic_1 (Nat.le_of_ble_eq_true rfl) (fun _ => rfl) (fun x41 => (z_goto (pc := 125) (tgt := 96) dX10_digest_125 (by decide) (?_)))
      exact ih x41 h40
set_option maxRecDepth 20000 in
set_option maxHeartbeats 4000000 in
theorem g_X10_digest_L134 (F : Nat) (a44 : Nat) (k168 : z_Hp → Option (Int64 × z_Hp)) (qk168 : ∀ (h47 : z_Hp), z_G zl mi_X10_digest 168 [(0, vr (some a44))] [] h47 (k168 h47)) : ∀ (n : Nat) (x45 : Int32) (h46 : z_Hp), z_G zl mi_X10_digest 134 [(0, vr (some a44)), (1, vi x45)] [] h46 (c_X10_digest_L134 F a44 k168 n x45 h46) := by
  intro n
  induction n with
  | zero => intro x45 h46; rw [c_X10_digest_L134]; exact z_none
  | succ n ih =>
    intro x45 h46
    rw [c_X10_digest_L134]
    refine z_iload_n (pc := 134) dX10_digest_134 rfl 1 rfl (z_aload_n (pc := 135) dX10_digest_135 rfl 0 rfl (z_getI (pc := 136) fl_RX10_243 rfl dX10_digest_136 (?_)))
    refine z_icmp_ge (pc := 139) (tgt := 168) dX10_digest_139 (by decide) ?_ ?_
    · exact z_sub [0] rfl (qk168 h46)
    · refine z_aload_n (pc := 142) dX10_digest_142 rfl 0 rfl (z_aload_n (pc := 143) dX10_digest_143 rfl 0 rfl (z_getRl (pc := 144) fl_RX10_50 rfl dX10_digest_144 (fun o48 => (z_iload_n (pc := 147) dX10_digest_147 rfl 1 rfl (?_)))))
      refine z_nn (fun a49 ea49 => ?_)
      subst ea49
      refine z_iaload (pc := 148) dX10_digest_148 (z_callV_V (pc := 149) (avs := [vi (hI h46 a49 (ix x45))]) (st := []) rfl (q := (RX10, TX10, 62)) rfl rfl (t_X10_mix F a44 (hI h46 a49 (ix x45)) h46) ky_X10_mix wm_X10_mix we_X10_mix wz_RX10_386 (rm_X10_digest_X10_mix) (Nat.le_of_ble_eq_true rfl) dX10_digest_149 (fun h50 => (?_)))
      refine z_aload_n (pc := 152) dX10_digest_152 rfl 0 rfl (z_aload_n (pc := 153) dX10_digest_153 rfl 0 rfl (z_getRl (pc := 154) fl_RX10_53 rfl dX10_digest_154 (fun o51 => (z_iload_n (pc := 157) dX10_digest_157 rfl 1 rfl (?_)))))
      refine z_nn (fun a52 ea52 => ?_)
      subst ea52
      refine z_iaload (pc := 158) dX10_digest_158 (z_callV_V (pc := 159) (avs := [vi (hI h50 a52 (ix x45))]) (st := []) rfl (q := (RX10, TX10, 62)) rfl rfl (t_X10_mix F a44 (hI h50 a52 (ix x45)) h50) ky_X10_mix wm_X10_mix we_X10_mix wz_RX10_386 (rm_X10_digest_X10_mix) (Nat.le_of_ble_eq_true rfl) dX10_digest_159 (fun h53 => (?_)))
      refine z_iincl (pc := 162) (L' := fun x54 => [(0, vr (some a44)), (1, vi x54)]) dX10_digest_162 1 rfl ic_1 (Nat.le_of_ble_eq_true rfl) (fun _ => rfl) (fun x54 => (z_goto (pc := 165) (tgt := 134) dX10_digest_165 (by decide) (?_)))
      exact ih x54 h53
set_option maxRecDepth 20000 in
set_option maxHeartbeats 4000000 in
theorem g_X10_digest_L170 (F : Nat) (a56 : Nat) (k214 : z_Hp → Option (Int64 × z_Hp)) (qk214 : ∀ (h59 : z_Hp), z_G zl mi_X10_digest 214 [(0, vr (some a56))] [] h59 (k214 h59)) : ∀ (n : Nat) (x57 : Int32) (h58 : z_Hp), z_G zl mi_X10_digest 170 [(0, vr (some a56)), (1, vi x57)] [] h58 (c_X10_digest_L170 F a56 k214 n x57 h58) := by
  intro n
  induction n with
  | zero => intro x57 h58; rw [c_X10_digest_L170]; exact z_none
  | succ n ih =>
    intro x57 h58
    rw [c_X10_digest_L170]
    refine z_iload_n (pc := 170) dX10_digest_170 rfl 1 rfl (z_aload_n (pc := 171) dX10_digest_171 rfl 0 rfl (z_getI (pc := 172) fl_RX10_291 rfl dX10_digest_172 (?_)))
    refine z_icmp_ge (pc := 175) (tgt := 214) dX10_digest_175 (by decide) ?_ ?_
    · exact z_sub [0] rfl (qk214 h58)
    · refine z_aload_n (pc := 178) dX10_digest_178 rfl 0 rfl (z_aload_n (pc := 179) dX10_digest_179 rfl 0 rfl (z_getRl (pc := 180) fl_RX10_132 rfl dX10_digest_180 (fun o60 => (z_iload_n (pc := 183) dX10_digest_183 rfl 1 rfl (?_)))))
      refine z_nn (fun a61 ea61 => ?_)
      subst ea61
      refine z_iaload (pc := 184) dX10_digest_184 (z_callV_V (pc := 185) (avs := [vi (hI h58 a61 (ix x57))]) (st := []) rfl (q := (RX10, TX10, 62)) rfl rfl (t_X10_mix F a56 (hI h58 a61 (ix x57)) h58) ky_X10_mix wm_X10_mix we_X10_mix wz_RX10_386 (rm_X10_digest_X10_mix) (Nat.le_of_ble_eq_true rfl) dX10_digest_185 (fun h62 => (?_)))
      refine z_aload_n (pc := 188) dX10_digest_188 rfl 0 rfl (z_aload_n (pc := 189) dX10_digest_189 rfl 0 rfl (z_getRl (pc := 190) fl_RX10_135 rfl dX10_digest_190 (fun o63 => (z_iload_n (pc := 193) dX10_digest_193 rfl 1 rfl (?_)))))
      refine z_nn (fun a64 ea64 => ?_)
      subst ea64
      refine z_iaload (pc := 194) dX10_digest_194 (z_callV_V (pc := 195) (avs := [vi (hI h62 a64 (ix x57))]) (st := []) rfl (q := (RX10, TX10, 62)) rfl rfl (t_X10_mix F a56 (hI h62 a64 (ix x57)) h62) ky_X10_mix wm_X10_mix we_X10_mix wz_RX10_386 (rm_X10_digest_X10_mix) (Nat.le_of_ble_eq_true rfl) dX10_digest_195 (fun h65 => (?_)))
      refine z_aload_n (pc := 198) dX10_digest_198 rfl 0 rfl (z_aload_n (pc := 199) dX10_digest_199 rfl 0 rfl (z_getRl (pc := 200) fl_RX10_138 rfl dX10_digest_200 (fun o66 => (z_iload_n (pc := 203) dX10_digest_203 rfl 1 rfl (?_)))))
      refine z_nn (fun a67 ea67 => ?_)
      subst ea67
      refine z_iaload (pc := 204) dX10_digest_204 (z_callV_V (pc := 205) (avs := [vi (hI h65 a67 (ix x57))]) (st := []) rfl (q := (RX10, TX10, 62)) rfl rfl (t_X10_mix F a56 (hI h65 a67 (ix x57)) h65) ky_X10_mix wm_X10_mix we_X10_mix wz_RX10_386 (rm_X10_digest_X10_mix) (Nat.le_of_ble_eq_true rfl) dX10_digest_205 (fun h68 => (?_)))
      refine z_iincl (pc := 208) (L' := fun x69 => [(0, vr (some a56)), (1, vi x69)]) dX10_digest_208 1 rfl ic_1 (Nat.le_of_ble_eq_true rfl) (fun _ => rfl) (fun x69 => (z_goto (pc := 211) (tgt := 170) dX10_digest_211 (by decide) (?_)))
      exact ih x69 h68
set_option maxRecDepth 20000 in
set_option maxHeartbeats 4000000 in
theorem g_X10_digest_L216 (F : Nat) (a71 : Nat) (k245 : z_Hp → Option (Int64 × z_Hp)) (qk245 : ∀ (h74 : z_Hp), z_G zl mi_X10_digest 245 [(0, vr (some a71))] [] h74 (k245 h74)) : ∀ (n : Nat) (x72 : Int32) (h73 : z_Hp), z_G zl mi_X10_digest 216 [(0, vr (some a71)), (1, vi x72)] [] h73 (c_X10_digest_L216 F a71 k245 n x72 h73) := by
  intro n
  induction n with
  | zero => intro x72 h73; rw [c_X10_digest_L216]; exact z_none
  | succ n ih =>
    intro x72 h73
    rw [c_X10_digest_L216]
    refine z_iload_n (pc := 216) dX10_digest_216 rfl 1 rfl (z_iconst (pc := 217) dX10_digest_217 ic_4 (?_))
    refine z_icmp_ge (pc := 218) (tgt := 245) dX10_digest_218 (by decide) ?_ ?_
    · exact z_sub [0] rfl (qk245 h73)
    · refine z_aload_n (pc := 221) dX10_digest_221 rfl 0 rfl (z_aload_n (pc := 222) dX10_digest_222 rfl 0 rfl (z_getRl (pc := 223) fl_RX10_141 rfl dX10_digest_223 (fun o75 => (z_iload_n (pc := 226) dX10_digest_226 rfl 1 rfl (?_)))))
      refine z_nn (fun a76 ea76 => ?_)
      subst ea76
      refine z_iaload (pc := 227) dX10_digest_227 (z_aload_n (pc := 228) dX10_digest_228 rfl 0 rfl (z_getRl (pc := 229) fl_RX10_144 rfl dX10_digest_229 (fun o77 => (z_bipush (pc := 232) dX10_digest_232 bp_40 (z_iload_n (pc := 234) dX10_digest_234 rfl 1 rfl (z_imul (pc := 235) dX10_digest_235 (z_callV_V (pc := 236) (avs := [vi (hI h73 a76 (ix x72)), vr o77, vi (40 * x72)]) (st := []) rfl (q := (RX10, TX10, 62)) rfl rfl (t_X10_mixRow F a71 (hI h73 a76 (ix x72)) o77 (40 * x72) h73) ky_X10_mixRow wm_X10_mixRow we_X10_mixRow wz_RX10_389 (rm_X10_digest_X10_mixRow) (Nat.le_of_ble_eq_true rfl) dX10_digest_236 (fun h78 => (?_)))))))))
      refine z_iincl (pc := 239) (L' := fun x79 => [(0, vr (some a71)), (1, vi x79)]) dX10_digest_239 1 rfl ic_1 (Nat.le_of_ble_eq_true rfl) (fun _ => rfl) (fun x79 => (z_goto (pc := 242) (tgt := 216) dX10_digest_242 (by decide) (?_)))
      exact ih x79 h78
set_option maxRecDepth 20000 in
set_option maxHeartbeats 4000000 in
theorem g_X10_digest_L247 (F : Nat) (a81 : Nat) (k291 : z_Hp → Option (Int64 × z_Hp)) (qk291 : ∀ (h84 : z_Hp), z_G zl mi_X10_digest 291 [(0, vr (some a81))] [] h84 (k291 h84)) : ∀ (n : Nat) (x82 : Int32) (h83 : z_Hp), z_G zl mi_X10_digest 247 [(0, vr (some a81)), (1, vi x82)] [] h83 (c_X10_digest_L247 F a81 k291 n x82 h83) := by
  intro n
  induction n with
  | zero => intro x82 h83; rw [c_X10_digest_L247]; exact z_none
  | succ n ih =>
    intro x82 h83
    rw [c_X10_digest_L247]
    refine z_iload_n (pc := 247) dX10_digest_247 rfl 1 rfl (z_aload_n (pc := 248) dX10_digest_248 rfl 0 rfl (z_getI (pc := 249) fl_RX10_361 rfl dX10_digest_249 (?_)))
    refine z_icmp_ge (pc := 252) (tgt := 291) dX10_digest_252 (by decide) ?_ ?_
    · exact z_sub [0] rfl (qk291 h83)
    · refine z_aload_n (pc := 255) dX10_digest_255 rfl 0 rfl (z_aload_n (pc := 256) dX10_digest_256 rfl 0 rfl (z_getRl (pc := 257) fl_RX10_147 rfl dX10_digest_257 (fun o85 => (z_iload_n (pc := 260) dX10_digest_260 rfl 1 rfl (?_)))))
      refine z_nn (fun a86 ea86 => ?_)
      subst ea86
      refine z_iaload (pc := 261) dX10_digest_261 (z_callV_V (pc := 262) (avs := [vi (hI h83 a86 (ix x82))]) (st := []) rfl (q := (RX10, TX10, 62)) rfl rfl (t_X10_mix F a81 (hI h83 a86 (ix x82)) h83) ky_X10_mix wm_X10_mix we_X10_mix wz_RX10_386 (rm_X10_digest_X10_mix) (Nat.le_of_ble_eq_true rfl) dX10_digest_262 (fun h87 => (?_)))
      refine z_aload_n (pc := 265) dX10_digest_265 rfl 0 rfl (z_aload_n (pc := 266) dX10_digest_266 rfl 0 rfl (z_getRl (pc := 267) fl_RX10_150 rfl dX10_digest_267 (fun o88 => (z_iload_n (pc := 270) dX10_digest_270 rfl 1 rfl (?_)))))
      refine z_nn (fun a89 ea89 => ?_)
      subst ea89
      refine z_iaload (pc := 271) dX10_digest_271 (z_callV_V (pc := 272) (avs := [vi (hI h87 a89 (ix x82))]) (st := []) rfl (q := (RX10, TX10, 62)) rfl rfl (t_X10_mix F a81 (hI h87 a89 (ix x82)) h87) ky_X10_mix wm_X10_mix we_X10_mix wz_RX10_386 (rm_X10_digest_X10_mix) (Nat.le_of_ble_eq_true rfl) dX10_digest_272 (fun h90 => (?_)))
      refine z_aload_n (pc := 275) dX10_digest_275 rfl 0 rfl (z_aload_n (pc := 276) dX10_digest_276 rfl 0 rfl (z_getRl (pc := 277) fl_RX10_153 rfl dX10_digest_277 (fun o91 => (z_iload_n (pc := 280) dX10_digest_280 rfl 1 rfl (?_)))))
      refine z_nn (fun a92 ea92 => ?_)
      subst ea92
      refine z_iaload (pc := 281) dX10_digest_281 (z_callV_V (pc := 282) (avs := [vi (hI h90 a92 (ix x82))]) (st := []) rfl (q := (RX10, TX10, 62)) rfl rfl (t_X10_mix F a81 (hI h90 a92 (ix x82)) h90) ky_X10_mix wm_X10_mix we_X10_mix wz_RX10_386 (rm_X10_digest_X10_mix) (Nat.le_of_ble_eq_true rfl) dX10_digest_282 (fun h93 => (?_)))
      refine z_iincl (pc := 285) (L' := fun x94 => [(0, vr (some a81)), (1, vi x94)]) dX10_digest_285 1 rfl ic_1 (Nat.le_of_ble_eq_true rfl) (fun _ => rfl) (fun x94 => (z_goto (pc := 288) (tgt := 247) dX10_digest_288 (by decide) (?_)))
      exact ih x94 h93
set_option maxRecDepth 20000 in
set_option maxHeartbeats 4000000 in
theorem g_X10_digest_L293 (F : Nat) (a96 : Nat) (k323 : z_Hp → Option (Int64 × z_Hp)) (qk323 : ∀ (h99 : z_Hp), z_G zl mi_X10_digest 323 [(0, vr (some a96))] [] h99 (k323 h99)) : ∀ (n : Nat) (x97 : Int32) (h98 : z_Hp), z_G zl mi_X10_digest 293 [(0, vr (some a96)), (1, vi x97)] [] h98 (c_X10_digest_L293 F a96 k323 n x97 h98) := by
  intro n
  induction n with
  | zero => intro x97 h98; rw [c_X10_digest_L293]; exact z_none
  | succ n ih =>
    intro x97 h98
    rw [c_X10_digest_L293]
    refine z_iload_n (pc := 293) dX10_digest_293 rfl 1 rfl (z_bipush (pc := 294) dX10_digest_294 bp_6 (?_))
    refine z_icmp_ge (pc := 296) (tgt := 323) dX10_digest_296 (by decide) ?_ ?_
    · exact z_sub [0] rfl (qk323 h98)
    · refine z_aload_n (pc := 299) dX10_digest_299 rfl 0 rfl (z_aload_n (pc := 300) dX10_digest_300 rfl 0 rfl (z_getRl (pc := 301) fl_RX10_17 rfl dX10_digest_301 (fun o100 => (z_iload_n (pc := 304) dX10_digest_304 rfl 1 rfl (?_)))))
      refine z_nn (fun a101 ea101 => ?_)
      subst ea101
      refine z_iaload (pc := 305) dX10_digest_305 (z_aload_n (pc := 306) dX10_digest_306 rfl 0 rfl (z_getRl (pc := 307) fl_RX10_20 rfl dX10_digest_307 (fun o102 => (z_bipush (pc := 310) dX10_digest_310 bp_40 (z_iload_n (pc := 312) dX10_digest_312 rfl 1 rfl (z_imul (pc := 313) dX10_digest_313 (z_callV_V (pc := 314) (avs := [vi (hI h98 a101 (ix x97)), vr o102, vi (40 * x97)]) (st := []) rfl (q := (RX10, TX10, 62)) rfl rfl (t_X10_mixRow F a96 (hI h98 a101 (ix x97)) o102 (40 * x97) h98) ky_X10_mixRow wm_X10_mixRow we_X10_mixRow wz_RX10_389 (rm_X10_digest_X10_mixRow) (Nat.le_of_ble_eq_true rfl) dX10_digest_314 (fun h103 => (?_)))))))))
      refine z_iincl (pc := 317) (L' := fun x104 => [(0, vr (some a96)), (1, vi x104)]) dX10_digest_317 1 rfl ic_1 (Nat.le_of_ble_eq_true rfl) (fun _ => rfl) (fun x104 => (z_goto (pc := 320) (tgt := 293) dX10_digest_320 (by decide) (?_)))
      exact ih x104 h103
set_option maxRecDepth 20000 in
set_option maxHeartbeats 4000000 in
theorem g_X10_digest_L325 (F : Nat) (a106 : Nat) : ∀ (n : Nat) (x107 : Int32) (h108 : z_Hp), z_G zl mi_X10_digest 325 [(0, vr (some a106)), (1, vi x107)] [] h108 (c_X10_digest_L325 F a106 n x107 h108) := by
  intro n
  induction n with
  | zero => intro x107 h108; rw [c_X10_digest_L325]; exact z_none
  | succ n ih =>
    intro x107 h108
    rw [c_X10_digest_L325]
    refine z_iload_n (pc := 325) dX10_digest_325 rfl 1 rfl (z_iconst (pc := 326) dX10_digest_326 ic_4 (?_))
    refine z_icmp_ge (pc := 327) (tgt := 354) dX10_digest_327 (by decide) ?_ ?_
    · refine z_aload_n (pc := 354) dX10_digest_354 rfl 0 rfl (z_getJ (pc := 355) fl_RX10_383 rfl dX10_digest_355 (?_))
      exact z_lret (pc := 358) dX10_digest_358 rfl
    · refine z_aload_n (pc := 330) dX10_digest_330 rfl 0 rfl (z_aload_n (pc := 331) dX10_digest_331 rfl 0 rfl (z_getRl (pc := 332) fl_RX10_26 rfl dX10_digest_332 (fun o109 => (z_iload_n (pc := 335) dX10_digest_335 rfl 1 rfl (?_)))))
      refine z_nn (fun a110 ea110 => ?_)
      subst ea110
      refine z_iaload (pc := 336) dX10_digest_336 (z_aload_n (pc := 337) dX10_digest_337 rfl 0 rfl (z_getRl (pc := 338) fl_RX10_29 rfl dX10_digest_338 (fun o111 => (z_bipush (pc := 341) dX10_digest_341 bp_60 (z_iload_n (pc := 343) dX10_digest_343 rfl 1 rfl (z_imul (pc := 344) dX10_digest_344 (z_callV_V (pc := 345) (avs := [vi (hI h108 a110 (ix x107)), vr o111, vi (60 * x107)]) (st := []) rfl (q := (RX10, TX10, 62)) rfl rfl (t_X10_mixRow F a106 (hI h108 a110 (ix x107)) o111 (60 * x107) h108) ky_X10_mixRow wm_X10_mixRow we_X10_mixRow wz_RX10_389 (rm_X10_digest_X10_mixRow) (Nat.le_of_ble_eq_true rfl) dX10_digest_345 (fun h112 => (?_)))))))))
      refine z_iincl (pc := 348) (L' := fun x113 => [(0, vr (some a106)), (1, vi x113)]) dX10_digest_348 1 rfl ic_1 (Nat.le_of_ble_eq_true rfl) (fun _ => rfl) (fun x113 => (z_goto (pc := 351) (tgt := 325) dX10_digest_351 (by decide) (?_)))
      exact ih x113 h112
set_option maxRecDepth 20000 in
set_option maxHeartbeats 4000000 in
theorem t_X10_digest (F : Nat) (a0 : Nat) (h0 : z_Hp) : z_Ct zl mi_X10_digest [vr (some a0)] h0 (c_X10_digest F a0 h0) := by
  refine z_entry (by decide) (Nat.le_of_ble_eq_true rfl) [(0, vr (some a0))] rfl ?_
  unfold c_X10_digest
  refine z_aload_n (pc := 0) dX10_digest_0 rfl 0 rfl (z_ldc2 (pc := 1) dX10_digest_1 wj_RX10_393 (z_putJl (pc := 4) fl_RX10_383 (fin_X_10_61 _) rfl dX10_digest_4 (fun h1 => (z_iconst (pc := 7) dX10_digest_7 ic_0 (z_istore_n (pc := 8) (L' := [(0, vr (some a0)), (1, vi 0)]) dX10_digest_8 rfl (Nat.le_of_ble_eq_true rfl) rfl (?_))))))
  refine g_X10_digest_L9 F a0 _ (fun h10 => ?_) F 0 h1
  refine z_iconst (pc := 30) dX10_digest_30 ic_0 (z_istore_n (pc := 31) (L' := [(0, vr (some a0)), (1, vi 0)]) dX10_digest_31 rfl (Nat.le_of_ble_eq_true rfl) rfl (?_))
  refine g_X10_digest_L32 F a0 _ (fun h20 => ?_) F 0 h10
  refine z_iconst (pc := 62) dX10_digest_62 ic_0 (z_istore_n (pc := 63) (L' := [(0, vr (some a0)), (1, vi 0)]) dX10_digest_63 rfl (Nat.le_of_ble_eq_true rfl) rfl (?_))
  refine g_X10_digest_L64 F a0 _ (fun h30 => ?_) F 0 h20
  refine z_iconst (pc := 94) dX10_digest_94 ic_0 (z_istore_n (pc := 95) (L' := [(0, vr (some a0)), (1, vi 0)]) dX10_digest_95 rfl (Nat.le_of_ble_eq_true rfl) rfl (?_))
  refine g_X10_digest_L96 F a0 _ (fun h42 => ?_) F 0 h30
  refine z_aload_n (pc := 128) dX10_digest_128 rfl 0 rfl (z_callV_V (pc := 129) (avs := []) (st := []) rfl (q := (RX10, TX10, 62)) rfl rfl (t_X10_mixSheets F a0 h42) ky_X10_mixSheets wm_X10_mixSheets we_X10_mixSheets wz_RX10_395 (rm_X10_digest_X10_mixSheets) (Nat.le_of_ble_eq_true rfl) dX10_digest_129 (fun h43 => (?_)))
  refine z_iconst (pc := 132) dX10_digest_132 ic_0 (z_istore_n (pc := 133) (L' := [(0, vr (some a0)), (1, vi 0)]) dX10_digest_133 rfl (Nat.le_of_ble_eq_true rfl) rfl (?_))
  refine g_X10_digest_L134 F a0 _ (fun h55 => ?_) F 0 h43
  refine z_iconst (pc := 168) dX10_digest_168 ic_0 (z_istore_n (pc := 169) (L' := [(0, vr (some a0)), (1, vi 0)]) dX10_digest_169 rfl (Nat.le_of_ble_eq_true rfl) rfl (?_))
  refine g_X10_digest_L170 F a0 _ (fun h70 => ?_) F 0 h55
  refine z_iconst (pc := 214) dX10_digest_214 ic_0 (z_istore_n (pc := 215) (L' := [(0, vr (some a0)), (1, vi 0)]) dX10_digest_215 rfl (Nat.le_of_ble_eq_true rfl) rfl (?_))
  refine g_X10_digest_L216 F a0 _ (fun h80 => ?_) F 0 h70
  refine z_iconst (pc := 245) dX10_digest_245 ic_0 (z_istore_n (pc := 246) (L' := [(0, vr (some a0)), (1, vi 0)]) dX10_digest_246 rfl (Nat.le_of_ble_eq_true rfl) rfl (?_))
  refine g_X10_digest_L247 F a0 _ (fun h95 => ?_) F 0 h80
  refine z_iconst (pc := 291) dX10_digest_291 ic_0 (z_istore_n (pc := 292) (L' := [(0, vr (some a0)), (1, vi 0)]) dX10_digest_292 rfl (Nat.le_of_ble_eq_true rfl) rfl (?_))
  refine g_X10_digest_L293 F a0 _ (fun h105 => ?_) F 0 h95
  refine z_iconst (pc := 323) dX10_digest_323 ic_0 (z_istore_n (pc := 324) (L' := [(0, vr (some a0)), (1, vi 0)]) dX10_digest_324 rfl (Nat.le_of_ble_eq_true rfl) rfl (?_))
  refine g_X10_digest_L325 F a0 F 0 h105
