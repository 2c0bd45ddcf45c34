theorem dX10_compare_0 : decode cX10_compare 0 = .ok (.iload_n 0, 1) := by decide +kernel
theorem dX10_compare_1 : decode cX10_compare 1 = .ok (.iload_n 1, 1) := by decide +kernel
theorem dX10_compare_2 : decode cX10_compare 2 = .ok (.if_icmp .ne 5, 3) := by decide +kernel
theorem dX10_compare_5 : decode cX10_compare 5 = .ok (.iconst 0, 1) := by decide +kernel
theorem dX10_compare_6 : decode cX10_compare 6 = .ok (.ireturn, 1) := by decide +kernel
theorem dX10_compare_7 : decode cX10_compare 7 = .ok (.iload_n 0, 1) := by decide +kernel
theorem dX10_compare_8 : decode cX10_compare 8 = .ok (.iload_n 1, 1) := by decide +kernel
theorem dX10_compare_9 : decode cX10_compare 9 = .ok (.iconst (-1), 1) := by decide +kernel
theorem dX10_compare_10 : decode cX10_compare 10 = .ok (.ixor, 1) := by decide +kernel
theorem dX10_compare_11 : decode cX10_compare 11 = .ok (.iand, 1) := by decide +kernel
theorem dX10_compare_12 : decode cX10_compare 12 = .ok (.ifCond .ne 7, 3) := by decide +kernel
theorem dX10_compare_15 : decode cX10_compare 15 = .ok (.iconst 1, 1) := by decide +kernel
theorem dX10_compare_16 : decode cX10_compare 16 = .ok (.goto 16, 3) := by decide +kernel
theorem dX10_compare_19 : decode cX10_compare 19 = .ok (.iload_n 1, 1) := by decide +kernel
theorem dX10_compare_20 : decode cX10_compare 20 = .ok (.iload_n 0, 1) := by decide +kernel
theorem dX10_compare_21 : decode cX10_compare 21 = .ok (.iconst (-1), 1) := by decide +kernel
theorem dX10_compare_22 : decode cX10_compare 22 = .ok (.ixor, 1) := by decide +kernel
theorem dX10_compare_23 : decode cX10_compare 23 = .ok (.iand, 1) := by decide +kernel
theorem dX10_compare_24 : decode cX10_compare 24 = .ok (.ifCond .ne 7, 3) := by decide +kernel
theorem dX10_compare_27 : decode cX10_compare 27 = .ok (.iconst (-1), 1) := by decide +kernel
theorem dX10_compare_28 : decode cX10_compare 28 = .ok (.goto 4, 3) := by decide +kernel
theorem dX10_compare_31 : decode cX10_compare 31 = .ok (.iconst 2, 1) := by decide +kernel
theorem dX10_compare_32 : decode cX10_compare 32 = .ok (.ireturn, 1) := by decide +kernel
def c_X10_compare (F : Nat) (x1 : Int32) (x2 : Int32) (h0 : z_Hp) : Option (Int32 × z_Hp) := (if x1 = x2 then (some (0, h0)) else (if (x1 &&& (x2 ^^^ (-1))) = 0 then (some (1, h0)) else (if (x2 &&& (x1 ^^^ (-1))) = 0 then (some ((-1), h0)) else (some (2, h0)))))
set_option maxRecDepth 20000 in
set_option maxHeartbeats 4000000 in
theorem t_X10_compare (F : Nat) (x1 : Int32) (x2 : Int32) (h0 : z_Hp) : z_Ct zi mi_X10_compare [vi x1, vi x2] h0 (c_X10_compare F x1 x2 h0) := by
  refine z_entry (by decide) (Nat.le_of_ble_eq_true rfl) [(0, vi x1), (1, vi x2)] rfl ?_
  unfold c_X10_compare
  refine z_iload_n (pc := 0) dX10_compare_0 rfl 0 rfl (z_iload_n (pc := 1) dX10_compare_1 rfl 1 rfl (?_))
  refine z_icmp_ne (pc := 2) (tgt := 7) dX10_compare_2 (by decide) ?_ ?_
  · refine z_iload_n (pc := 7) dX10_compare_7 rfl 0 rfl (z_iload_n (pc := 8) dX10_compare_8 rfl 1 rfl (z_iconst (pc := 9) dX10_compare_9 ic_m1 (z_ixor (pc := 10) dX10_compare_10 (z_iand (pc := 11) dX10_compare_11 (?_)))))
    refine z_if_ne (pc := 12) (tgt := 19) dX10_compare_12 (by decide) ?_ ?_
    · refine z_iload_n (pc := 19) dX10_compare_19 rfl 1 rfl (z_iload_n (pc := 20) dX10_compare_20 rfl 0 rfl (z_iconst (pc := 21) dX10_compare_21 ic_m1 (z_ixor (pc := 22) dX10_compare_22 (z_iand (pc := 23) dX10_compare_23 (?_)))))
      refine z_if_ne (pc := 24) (tgt := 31) dX10_compare_24 (by decide) ?_ ?_
      · refine z_iconst (pc := 31) dX10_compare_31 ic_2 (?_)
        exact z_iret (pc := 32) dX10_compare_32 rfl rfl
      · refine z_iconst (pc := 27) dX10_compare_27 ic_m1 (z_goto (pc := 28) (tgt := 32) dX10_compare_28 (by decide) (?_))
        exact z_iret (pc := 32) dX10_compare_32 rfl rfl
    · refine z_iconst (pc := 15) dX10_compare_15 ic_1 (z_goto (pc := 16) (tgt := 32) dX10_compare_16 (by decide) (?_))
      exact z_iret (pc := 32) dX10_compare_32 rfl rfl
  · refine z_iconst (pc := 5) dX10_compare_5 ic_0 (?_)
    exact z_iret (pc := 6) dX10_compare_6 rfl rfl
theorem dX10_byBlock_0 : decode cX10_byBlock 0 = .ok (.aload_n 0, 1) := by decide +kernel
theorem dX10_byBlock_1 : decode cX10_byBlock 1 = .ok (.getfield 77, 3) := by decide +kernel
theorem dX10_byBlock_4 : decode cX10_byBlock 4 = .ok (.iload_n 1, 1) := by decide +kernel
theorem dX10_byBlock_5 : decode cX10_byBlock 5 = .ok (.iaload, 1) := by decide +kernel
theorem dX10_byBlock_6 : decode cX10_byBlock 6 = .ok (.bipush (-9), 2) := by decide +kernel
theorem dX10_byBlock_8 : decode cX10_byBlock 8 = .ok (.if_icmp .eq 18, 3) := by decide +kernel
theorem dX10_byBlock_11 : decode cX10_byBlock 11 = .ok (.aload_n 0, 1) := by decide +kernel
theorem dX10_byBlock_12 : decode cX10_byBlock 12 = .ok (.getfield 77, 3) := by decide +kernel
theorem dX10_byBlock_15 : decode cX10_byBlock 15 = .ok (.iload_n 1, 1) := by decide +kernel
theorem dX10_byBlock_16 : decode cX10_byBlock 16 = .ok (.iaload, 1) := by decide +kernel
theorem dX10_byBlock_17 : decode cX10_byBlock 17 = .ok (.aload_n 0, 1) := by decide +kernel
theorem dX10_byBlock_18 : decode cX10_byBlock 18 = .ok (.getfield 77, 3) := by decide +kernel
theorem dX10_byBlock_21 : decode cX10_byBlock 21 = .ok (.iload_n 2, 1) := by decide +kernel
theorem dX10_byBlock_22 : decode cX10_byBlock 22 = .ok (.iaload, 1) := by decide +kernel
theorem dX10_byBlock_23 : decode cX10_byBlock 23 = .ok (.if_icmp .eq 7, 3) := by decide +kernel
theorem dX10_byBlock_26 : decode cX10_byBlock 26 = .ok (.iconst 0, 1) := by decide +kernel
theorem dX10_byBlock_27 : decode cX10_byBlock 27 = .ok (.goto 18, 3) := by decide +kernel
theorem dX10_byBlock_30 : decode cX10_byBlock 30 = .ok (.aload_n 0, 1) := by decide +kernel
theorem dX10_byBlock_31 : decode cX10_byBlock 31 = .ok (.getfield 80, 3) := by decide +kernel
theorem dX10_byBlock_34 : decode cX10_byBlock 34 = .ok (.iload_n 1, 1) := by decide +kernel
theorem dX10_byBlock_35 : decode cX10_byBlock 35 = .ok (.iaload, 1) := by decide +kernel
theorem dX10_byBlock_36 : decode cX10_byBlock 36 = .ok (.aload_n 0, 1) := by decide +kernel
theorem dX10_byBlock_37 : decode cX10_byBlock 37 = .ok (.getfield 80, 3) := by decide +kernel
theorem dX10_byBlock_40 : decode cX10_byBlock 40 = .ok (.iload_n 2, 1) := by decide +kernel
theorem dX10_byBlock_41 : decode cX10_byBlock 41 = .ok (.iaload, 1) := by decide +kernel
theorem dX10_byBlock_42 : decode cX10_byBlock 42 = .ok (.invokestatic 294, 3) := by decide +kernel
theorem dX10_byBlock_45 : decode cX10_byBlock 45 = .ok (.ireturn, 1) := by decide +kernel
def c_X10_byBlock (F : Nat) (a0 : Nat) (x1 : Int32) (x2 : Int32) (h0 : z_Hp) : Option (Int32 × z_Hp) := (if hT h0 a0 = 10 then (lt_ (hR h0 a0 30) (fun o3 => (nn o3 (fun a4 => (if okA h0 a4 20 x1 = true then (if (hI h0 a4 (ix x1)) = (-9) then (some (0, h0)) else (if hT h0 a0 = 10 then (lt_ (hR h0 a0 30) (fun o5 => (nn o5 (fun a6 => (if okA h0 a6 20 x1 = true then (if hT h0 a0 = 10 then (lt_ (hR h0 a0 30) (fun o7 => (nn o7 (fun a8 => (if okA h0 a8 20 x2 = true then (if (hI h0 a6 (ix x1)) = (hI h0 a8 (ix x2)) then (if hT h0 a0 = 10 then (lt_ (hR h0 a0 31) (fun o9 => (nn o9 (fun a10 => (if okA h0 a10 20 x1 = true then (if hT h0 a0 = 10 then (lt_ (hR h0 a0 31) (fun o11 => (nn o11 (fun a12 => (if okA h0 a12 20 x2 = true then (bI (c_X10_compare F (hI h0 a10 (ix x1)) (hI h0 a12 (ix x2)) h0) (fun x14 h13 => (some (x14, h13)))) else none))))) else none) else none))))) else none) else (some (0, h0))) else none))))) else none) else none))))) else none)) else none))))) else none)
set_option maxRecDepth 20000 in
set_option maxHeartbeats 4000000 in
theorem t_X10_byBlock (F : Nat) (a0 : Nat) (x1 : Int32) (x2 : Int32) (h0 : z_Hp) : z_Ct zi mi_X10_byBlock [vr (some a0), vi x1, vi x2] h0 (c_X10_byBlock F a0 x1 x2 h0) := by
  refine z_entry (by decide) (Nat.le_of_ble_eq_true rfl) [(0, vr (some a0)), (1, vi x1), (2, vi x2)] rfl ?_
  unfold c_X10_byBlock
  refine z_aload_n (pc := 0) dX10_byBlock_0 rfl 0 rfl (z_getRl (pc := 1) fl_RX10_77 rfl dX10_byBlock_1 (fun o3 => (z_iload_n (pc := 4) dX10_byBlock_4 rfl 1 rfl (?_))))
  refine z_nn (fun a4 ea4 => ?_)
  subst ea4
  refine z_iaload (pc := 5) dX10_byBlock_5 (z_bipush (pc := 6) dX10_byBlock_6 bp_m9 (?_))
  refine z_icmp_eq (pc := 8) (tgt := 26) dX10_byBlock_8 (by decide) ?_ ?_
  · refine z_iconst (pc := 26) dX10_byBlock_26 ic_0 (z_goto (pc := 27) (tgt := 45) dX10_byBlock_27 (by decide) (?_))
    exact z_iret (pc := 45) dX10_byBlock_45 rfl rfl
  · refine z_aload_n (pc := 11) dX10_byBlock_11 rfl 0 rfl (z_getRl (pc := 12) fl_RX10_77 rfl dX10_byBlock_12 (fun o5 => (z_iload_n (pc := 15) dX10_byBlock_15 rfl 1 rfl (?_))))
    refine z_nn (fun a6 ea6 => ?_)
    subst ea6
    refine z_iaload (pc := 16) dX10_byBlock_16 (z_aload_n (pc := 17) dX10_byBlock_17 rfl 0 rfl (z_getRl (pc := 18) fl_RX10_77 rfl dX10_byBlock_18 (fun o7 => (z_iload_n (pc := 21) dX10_byBlock_21 rfl 2 rfl (?_)))))
    refine z_nn (fun a8 ea8 => ?_)
    subst ea8
    refine z_iaload (pc := 22) dX10_byBlock_22 (?_)
    refine z_icmp_eq (pc := 23) (tgt := 30) dX10_byBlock_23 (by decide) ?_ ?_
    · refine z_aload_n (pc := 30) dX10_byBlock_30 rfl 0 rfl (z_getRl (pc := 31) fl_RX10_80 rfl dX10_byBlock_31 (fun o9 => (z_iload_n (pc := 34) dX10_byBlock_34 rfl 1 rfl (?_))))
      refine z_nn (fun a10 ea10 => ?_)
      subst ea10
      refine z_iaload (pc := 35) dX10_byBlock_35 (z_aload_n (pc := 36) dX10_byBlock_36 rfl 0 rfl (z_getRl (pc := 37) fl_RX10_80 rfl dX10_byBlock_37 (fun o11 => (z_iload_n (pc := 40) dX10_byBlock_40 rfl 2 rfl (?_)))))
      refine z_nn (fun a12 ea12 => ?_)
      subst ea12
      refine z_iaload (pc := 41) dX10_byBlock_41 (z_callS_I (pc := 42) (avs := [vi (hI h0 a10 (ix x1)), vi (hI h0 a12 (ix x2))]) (st := []) rfl (t_X10_compare F (hI h0 a10 (ix x1)) (hI h0 a12 (ix x2)) h0) ky_X10_compare ws_X10_compare wz_RX10_294 (rm_X10_byBlock_X10_compare) (Nat.le_of_ble_eq_true rfl) dX10_byBlock_42 (fun x14 h13 => (?_)))
      exact z_iret (pc := 45) dX10_byBlock_45 rfl rfl
    · refine z_iconst (pc := 26) dX10_byBlock_26 ic_0 (z_goto (pc := 27) (tgt := 45) dX10_byBlock_27 (by decide) (?_))
      exact z_iret (pc := 45) dX10_byBlock_45 rfl rfl
theorem dX10_byType_0 : decode cX10_byType 0 = .ok (.aload_n 0, 1) := by decide +kernel
theorem dX10_byType_1 : decode cX10_byType 1 = .ok (.getfield 71, 3) := by decide +kernel
theorem dX10_byType_4 : decode cX10_byType 4 = .ok (.iload_n 1, 1) := by decide +kernel
theorem dX10_byType_5 : decode cX10_byType 5 = .ok (.iaload, 1) := by decide +kernel
theorem dX10_byType_6 : decode cX10_byType 6 = .ok (.bipush (-9), 2) := by decide +kernel
theorem dX10_byType_8 : decode cX10_byType 8 = .ok (.if_icmp .eq 18, 3) := by decide +kernel
theorem dX10_byType_11 : decode cX10_byType 11 = .ok (.aload_n 0, 1) := by decide +kernel
theorem dX10_byType_12 : decode cX10_byType 12 = .ok (.getfield 71, 3) := by decide +kernel
theorem dX10_byType_15 : decode cX10_byType 15 = .ok (.iload_n 1, 1) := by decide +kernel
theorem dX10_byType_16 : decode cX10_byType 16 = .ok (.iaload, 1) := by decide +kernel
theorem dX10_byType_17 : decode cX10_byType 17 = .ok (.aload_n 0, 1) := by decide +kernel
theorem dX10_byType_18 : decode cX10_byType 18 = .ok (.getfield 71, 3) := by decide +kernel
theorem dX10_byType_21 : decode cX10_byType 21 = .ok (.iload_n 2, 1) := by decide +kernel
theorem dX10_byType_22 : decode cX10_byType 22 = .ok (.iaload, 1) := by decide +kernel
theorem dX10_byType_23 : decode cX10_byType 23 = .ok (.if_icmp .eq 7, 3) := by decide +kernel
theorem dX10_byType_26 : decode cX10_byType 26 = .ok (.iconst 0, 1) := by decide +kernel
theorem dX10_byType_27 : decode cX10_byType 27 = .ok (.goto 18, 3) := by decide +kernel
theorem dX10_byType_30 : decode cX10_byType 30 = .ok (.aload_n 0, 1) := by decide +kernel
theorem dX10_byType_31 : decode cX10_byType 31 = .ok (.getfield 83, 3) := by decide +kernel
theorem dX10_byType_34 : decode cX10_byType 34 = .ok (.iload_n 1, 1) := by decide +kernel
theorem dX10_byType_35 : decode cX10_byType 35 = .ok (.iaload, 1) := by decide +kernel
theorem dX10_byType_36 : decode cX10_byType 36 = .ok (.aload_n 0, 1) := by decide +kernel
theorem dX10_byType_37 : decode cX10_byType 37 = .ok (.getfield 83, 3) := by decide +kernel
theorem dX10_byType_40 : decode cX10_byType 40 = .ok (.iload_n 2, 1) := by decide +kernel
theorem dX10_byType_41 : decode cX10_byType 41 = .ok (.iaload, 1) := by decide +kernel
theorem dX10_byType_42 : decode cX10_byType 42 = .ok (.invokestatic 294, 3) := by decide +kernel
theorem dX10_byType_45 : decode cX10_byType 45 = .ok (.ireturn, 1) := by decide +kernel
def c_X10_byType (F : Nat) (a0 : Nat) (x1 : Int32) (x2 : Int32) (h0 : z_Hp) : Option (Int32 × z_Hp) := (if hT h0 a0 = 10 then (lt_ (hR h0 a0 28) (fun o3 => (nn o3 (fun a4 => (if okA h0 a4 20 x1 = true then (if (hI h0 a4 (ix x1)) = (-9) then (some (0, h0)) else (if hT h0 a0 = 10 then (lt_ (hR h0 a0 28) (fun o5 => (nn o5 (fun a6 => (if okA h0 a6 20 x1 = true then (if hT h0 a0 = 10 then (lt_ (hR h0 a0 28) (fun o7 => (nn o7 (fun a8 => (if okA h0 a8 20 x2 = true then (if (hI h0 a6 (ix x1)) = (hI h0 a8 (ix x2)) then (if hT h0 a0 = 10 then (lt_ (hR h0 a0 32) (fun o9 => (nn o9 (fun a10 => (if okA h0 a10 20 x1 = true then (if hT h0 a0 = 10 then (lt_ (hR h0 a0 32) (fun o11 => (nn o11 (fun a12 => (if okA h0 a12 20 x2 = true then (bI (c_X10_compare F (hI h0 a10 (ix x1)) (hI h0 a12 (ix x2)) h0) (fun x14 h13 => (some (x14, h13)))) else none))))) else none) else none))))) else none) else (some (0, h0))) else none))))) else none) else none))))) else none)) else none))))) else none)
set_option maxRecDepth 20000 in
set_option maxHeartbeats 4000000 in
theorem t_X10_byType (F : Nat) (a0 : Nat) (x1 : Int32) (x2 : Int32) (h0 : z_Hp) : z_Ct zi mi_X10_byType [vr (some a0), vi x1, vi x2] h0 (c_X10_byType F a0 x1 x2 h0) := by
  refine z_entry (by decide) (Nat.le_of_ble_eq_true rfl) [(0, vr (some a0)), (1, vi x1), (2, vi x2)] rfl ?_
  unfold c_X10_byType
  refine z_aload_n (pc := 0) dX10_byType_0 rfl 0 rfl (z_getRl (pc := 1) fl_RX10_71 rfl dX10_byType_1 (fun o3 => (z_iload_n (pc := 4) dX10_byType_4 rfl 1 rfl (?_))))
  refine z_nn (fun a4 ea4 => ?_)
  subst ea4
  refine z_iaload (pc := 5) dX10_byType_5 (z_bipush (pc := 6) dX10_byType_6 bp_m9 (?_))
  refine z_icmp_eq (pc := 8) (tgt := 26) dX10_byType_8 (by decide) ?_ ?_
  · refine z_iconst (pc := 26) dX10_byType_26 ic_0 (z_goto (pc := 27) (tgt := 45) dX10_byType_27 (by decide) (?_))
    exact z_iret (pc := 45) dX10_byType_45 rfl rfl
  · refine z_aload_n (pc := 11) dX10_byType_11 rfl 0 rfl (z_getRl (pc := 12) fl_RX10_71 rfl dX10_byType_12 (fun o5 => (z_iload_n (pc := 15) dX10_byType_15 rfl 1 rfl (?_))))
    refine z_nn (fun a6 ea6 => ?_)
    subst ea6
    refine z_iaload (pc := 16) dX10_byType_16 (z_aload_n (pc := 17) dX10_byType_17 rfl 0 rfl (z_getRl (pc := 18) fl_RX10_71 rfl dX10_byType_18 (fun o7 => (z_iload_n (pc := 21) dX10_byType_21 rfl 2 rfl (?_)))))
    refine z_nn (fun a8 ea8 => ?_)
    subst ea8
    refine z_iaload (pc := 22) dX10_byType_22 (?_)
    refine z_icmp_eq (pc := 23) (tgt := 30) dX10_byType_23 (by decide) ?_ ?_
    · refine z_aload_n (pc := 30) dX10_byType_30 rfl 0 rfl (z_getRl (pc := 31) fl_RX10_83 rfl dX10_byType_31 (fun o9 => (z_iload_n (pc := 34) dX10_byType_34 rfl 1 rfl (?_))))
      refine z_nn (fun a10 ea10 => ?_)
      subst ea10
      refine z_iaload (pc := 35) dX10_byType_35 (z_aload_n (pc := 36) dX10_byType_36 rfl 0 rfl (z_getRl (pc := 37) fl_RX10_83 rfl dX10_byType_37 (fun o11 => (z_iload_n (pc := 40) dX10_byType_40 rfl 2 rfl (?_)))))
      refine z_nn (fun a12 ea12 => ?_)
      subst ea12
      refine z_iaload (pc := 41) dX10_byType_41 (z_callS_I (pc := 42) (avs := [vi (hI h0 a10 (ix x1)), vi (hI h0 a12 (ix x2))]) (st := []) rfl (t_X10_compare F (hI h0 a10 (ix x1)) (hI h0 a12 (ix x2)) h0) ky_X10_compare ws_X10_compare wz_RX10_294 (rm_X10_byType_X10_compare) (Nat.le_of_ble_eq_true rfl) dX10_byType_42 (fun x14 h13 => (?_)))
      exact z_iret (pc := 45) dX10_byType_45 rfl rfl
    · refine z_iconst (pc := 26) dX10_byType_26 ic_0 (z_goto (pc := 27) (tgt := 45) dX10_byType_27 (by decide) (?_))
      exact z_iret (pc := 45) dX10_byType_45 rfl rfl
theorem dX10_isAhead_0 : decode cX10_isAhead 0 = .ok (.aload_n 0, 1) := by decide +kernel
theorem dX10_isAhead_1 : decode cX10_isAhead 1 = .ok (.iload_n 1, 1) := by decide +kernel
theorem dX10_isAhead_2 : decode cX10_isAhead 2 = .ok (.iload_n 2, 1) := by decide +kernel
theorem dX10_isAhead_3 : decode cX10_isAhead 3 = .ok (.invokevirtual 297, 3) := by decide +kernel
theorem dX10_isAhead_6 : decode cX10_isAhead 6 = .ok (.iconst 1, 1) := by decide +kernel
theorem dX10_isAhead_7 : decode cX10_isAhead 7 = .ok (.if_icmp .eq 13, 3) := by decide +kernel
theorem dX10_isAhead_10 : decode cX10_isAhead 10 = .ok (.aload_n 0, 1) := by decide +kernel
theorem dX10_isAhead_11 : decode cX10_isAhead 11 = .ok (.iload_n 1, 1) := by decide +kernel
theorem dX10_isAhead_12 : decode cX10_isAhead 12 = .ok (.iload_n 2, 1) := by decide +kernel
theorem dX10_isAhead_13 : decode cX10_isAhead 13 = .ok (.invokevirtual 300, 3) := by decide +kernel
theorem dX10_isAhead_16 : decode cX10_isAhead 16 = .ok (.iconst 1, 1) := by decide +kernel
theorem dX10_isAhead_17 : decode cX10_isAhead 17 = .ok (.if_icmp .ne 7, 3) := by decide +kernel
theorem dX10_isAhead_20 : decode cX10_isAhead 20 = .ok (.iconst 1, 1) := by decide +kernel
theorem dX10_isAhead_21 : decode cX10_isAhead 21 = .ok (.goto 4, 3) := by decide +kernel
theorem dX10_isAhead_24 : decode cX10_isAhead 24 = .ok (.iconst 0, 1) := by decide +kernel
theorem dX10_isAhead_25 : decode cX10_isAhead 25 = .ok (.ireturn, 1) := by decide +kernel
def c_X10_isAhead (F : Nat) (a0 : Nat) (x1 : Int32) (x2 : Int32) (h0 : z_Hp) : Option (Int32 × z_Hp) := (if hT h0 a0 = 10 then (bI (c_X10_byBlock F a0 x1 x2 h0) (fun x4 h3 => (if x4 = 1 then (some (1, h3)) else (if hT h3 a0 = 10 then (bI (c_X10_byType F a0 x1 x2 h3) (fun x6 h5 => (if x6 = 1 then (some (1, h5)) else (some (0, h5))))) else none)))) else none)
set_option maxRecDepth 20000 in
set_option maxHeartbeats 4000000 in
theorem t_X10_isAhead (F : Nat) (a0 : Nat) (x1 : Int32) (x2 : Int32) (h0 : z_Hp) : z_Ct zi mi_X10_isAhead [vr (some a0), vi x1, vi x2] h0 (c_X10_isAhead F a0 x1 x2 h0) := by
  refine z_entry (by decide) (Nat.le_of_ble_eq_true rfl) [(0, vr (some a0)), (1, vi x1), (2, vi x2)] rfl ?_
  unfold c_X10_isAhead
  refine z_aload_n (pc := 0) dX10_isAhead_0 rfl 0 rfl (z_iload_n (pc := 1) dX10_isAhead_1 rfl 1 rfl (z_iload_n (pc := 2) dX10_isAhead_2 rfl 2 rfl (z_callV_I (pc := 3) (avs := [vi x1, vi x2]) (st := []) rfl (q := (RX10, TX10, 62)) rfl rfl (t_X10_byBlock F a0 x1 x2 h0) ky_X10_byBlock wm_X10_byBlock we_X10_byBlock wz_RX10_297 (rm_X10_isAhead_X10_byBlock) (Nat.le_of_ble_eq_true rfl) dX10_isAhead_3 (fun x4 h3 => (?_)))))
  refine z_iconst (pc := 6) dX10_isAhead_6 ic_1 (?_)
  refine z_icmp_eq (pc := 7) (tgt := 20) dX10_isAhead_7 (by decide) ?_ ?_
  · refine z_iconst (pc := 20) dX10_isAhead_20 ic_1 (z_goto (pc := 21) (tgt := 25) dX10_isAhead_21 (by decide) (?_))
    exact z_iret (pc := 25) dX10_isAhead_25 rfl rfl
  · refine z_aload_n (pc := 10) dX10_isAhead_10 rfl 0 rfl (z_iload_n (pc := 11) dX10_isAhead_11 rfl 1 rfl (z_iload_n (pc := 12) dX10_isAhead_12 rfl 2 rfl (z_callV_I (pc := 13) (avs := [vi x1, vi x2]) (st := []) rfl (q := (RX10, TX10, 62)) rfl rfl (t_X10_byType F a0 x1 x2 h3) ky_X10_byType wm_X10_byType we_X10_byType wz_RX10_300 (rm_X10_isAhead_X10_byType) (Nat.le_of_ble_eq_true rfl) dX10_isAhead_13 (fun x6 h5 => (?_)))))
    refine z_iconst (pc := 16) dX10_isAhead_16 ic_1 (?_)
    refine z_icmp_ne (pc := 17) (tgt := 24) dX10_isAhead_17 (by decide) ?_ ?_
    · refine z_iconst (pc := 24) dX10_isAhead_24 ic_0 (?_)
      exact z_iret (pc := 25) dX10_isAhead_25 rfl rfl
    · refine z_iconst (pc := 20) dX10_isAhead_20 ic_1 (z_goto (pc := 21) (tgt := 25) dX10_isAhead_21 (by decide) (?_))
      exact z_iret (pc := 25) dX10_isAhead_25 rfl rfl
theorem dX10_aheadOf_0 : decode cX10_aheadOf 0 = .ok (.aload_n 0, 1) := by decide +kernel
theorem dX10_aheadOf_1 : decode cX10_aheadOf 1 = .ok (.iload_n 1, 1) := by decide +kernel
theorem dX10_aheadOf_2 : decode cX10_aheadOf 2 = .ok (.iload_n 2, 1) := by decide +kernel
theorem dX10_aheadOf_3 : decode cX10_aheadOf 3 = .ok (.invokevirtual 297, 3) := by decide +kernel
theorem dX10_aheadOf_6 : decode cX10_aheadOf 6 = .ok (.istore_n 3, 1) := by decide +kernel
theorem dX10_aheadOf_7 : decode cX10_aheadOf 7 = .ok (.aload_n 0, 1) := by decide +kernel
theorem dX10_aheadOf_8 : decode cX10_aheadOf 8 = .ok (.iload_n 1, 1) := by decide +kernel
theorem dX10_aheadOf_9 : decode cX10_aheadOf 9 = .ok (.iload_n 2, 1) := by decide +kernel
theorem dX10_aheadOf_10 : decode cX10_aheadOf 10 = .ok (.invokevirtual 300, 3) := by decide +kernel
theorem dX10_aheadOf_13 : decode cX10_aheadOf 13 = .ok (.istore 4, 2) := by decide +kernel
theorem dX10_aheadOf_15 : decode cX10_aheadOf 15 = .ok (.iload_n 3, 1) := by decide +kernel
theorem dX10_aheadOf_16 : decode cX10_aheadOf 16 = .ok (.iconst 2, 1) := by decide +kernel
theorem dX10_aheadOf_17 : decode cX10_aheadOf 17 = .ok (.if_icmp .eq 9, 3) := by decide +kernel
theorem dX10_aheadOf_20 : decode cX10_aheadOf 20 = .ok (.iload 4, 2) := by decide +kernel
theorem dX10_aheadOf_22 : decode cX10_aheadOf 22 = .ok (.iconst 2, 1) := by decide +kernel
theorem dX10_aheadOf_23 : decode cX10_aheadOf 23 = .ok (.if_icmp .ne 28, 3) := by decide +kernel
theorem dX10_aheadOf_26 : decode cX10_aheadOf 26 = .ok (.iload_n 3, 1) := by decide +kernel
theorem dX10_aheadOf_27 : decode cX10_aheadOf 27 = .ok (.iconst 2, 1) := by decide +kernel
theorem dX10_aheadOf_28 : decode cX10_aheadOf 28 = .ok (.if_icmp .ne 8, 3) := by decide +kernel
theorem dX10_aheadOf_31 : decode cX10_aheadOf 31 = .ok (.bipush (-10), 2) := by decide +kernel
theorem dX10_aheadOf_33 : decode cX10_aheadOf 33 = .ok (.goto 4, 3) := by decide +kernel
theorem dX10_aheadOf_36 : decode cX10_aheadOf 36 = .ok (.iconst 0, 1) := by decide +kernel
theorem dX10_aheadOf_37 : decode cX10_aheadOf 37 = .ok (.iload 4, 2) := by decide +kernel
theorem dX10_aheadOf_39 : decode cX10_aheadOf 39 = .ok (.iconst 2, 1) := by decide +kernel
theorem dX10_aheadOf_40 : decode cX10_aheadOf 40 = .ok (.if_icmp .ne 8, 3) := by decide +kernel
theorem dX10_aheadOf_43 : decode cX10_aheadOf 43 = .ok (.bipush (-20), 2) := by decide +kernel
theorem dX10_aheadOf_45 : decode cX10_aheadOf 45 = .ok (.goto 4, 3) := by decide +kernel
theorem dX10_aheadOf_48 : decode cX10_aheadOf 48 = .ok (.iconst 0, 1) := by decide +kernel
theorem dX10_aheadOf_49 : decode cX10_aheadOf 49 = .ok (.iadd, 1) := by decide +kernel
theorem dX10_aheadOf_50 : decode cX10_aheadOf 50 = .ok (.ireturn, 1) := by decide +kernel
theorem dX10_aheadOf_51 : decode cX10_aheadOf 51 = .ok (.iload_n 3, 1) := by decide +kernel
theorem dX10_aheadOf_52 : decode cX10_aheadOf 52 = .ok (.iload 4, 2) := by decide +kernel
theorem dX10_aheadOf_54 : decode cX10_aheadOf 54 = .ok (.imul, 1) := by decide +kernel
theorem dX10_aheadOf_55 : decode cX10_aheadOf 55 = .ok (.iconst (-1), 1) := by decide +kernel
theorem dX10_aheadOf_56 : decode cX10_aheadOf 56 = .ok (.if_icmp .ne 6, 3) := by decide +kernel
theorem dX10_aheadOf_59 : decode cX10_aheadOf 59 = .ok (.bipush (-40), 2) := by decide +kernel
theorem dX10_aheadOf_61 : decode cX10_aheadOf 61 = .ok (.ireturn, 1) := by decide +kernel
theorem dX10_aheadOf_62 : decode cX10_aheadOf 62 = .ok (.iload_n 3, 1) := by decide +kernel
theorem dX10_aheadOf_63 : decode cX10_aheadOf 63 = .ok (.iconst 1, 1) := by decide +kernel
theorem dX10_aheadOf_64 : decode cX10_aheadOf 64 = .ok (.if_icmp .ne 7, 3) := by decide +kernel
theorem dX10_aheadOf_67 : decode cX10_aheadOf 67 = .ok (.iconst 1, 1) := by decide +kernel
theorem dX10_aheadOf_68 : decode cX10_aheadOf 68 = .ok (.goto 4, 3) := by decide +kernel
theorem dX10_aheadOf_71 : decode cX10_aheadOf 71 = .ok (.iconst 0, 1) := by decide +kernel
theorem dX10_aheadOf_72 : decode cX10_aheadOf 72 = .ok (.iload 4, 2) := by decide +kernel
theorem dX10_aheadOf_74 : decode cX10_aheadOf 74 = .ok (.iconst 1, 1) := by decide +kernel
theorem dX10_aheadOf_75 : decode cX10_aheadOf 75 = .ok (.if_icmp .ne 7, 3) := by decide +kernel
theorem dX10_aheadOf_78 : decode cX10_aheadOf 78 = .ok (.iconst 2, 1) := by decide +kernel
theorem dX10_aheadOf_79 : decode cX10_aheadOf 79 = .ok (.goto 4, 3) := by decide +kernel
theorem dX10_aheadOf_82 : decode cX10_aheadOf 82 = .ok (.iconst 0, 1) := by decide +kernel
theorem dX10_aheadOf_83 : decode cX10_aheadOf 83 = .ok (.iadd, 1) := by decide +kernel
theorem dX10_aheadOf_84 : decode cX10_aheadOf 84 = .ok (.ireturn, 1) := by decide +kernel
def c_X10_aheadOf (F : Nat) (a0 : Nat) (x1 : Int32) (x2 : Int32) (h0 : z_Hp) : Option (Int32 × z_Hp) := (if hT h0 a0 = 10 then (bI (c_X10_byBlock F a0 x1 x2 h0) (fun x4 h3 => (if hT h3 a0 = 10 then (bI (c_X10_byType F a0 x1 x2 h3) (fun x6 h5 => (lt_ (fun (h8 : z_Hp) => (lt_ (fun (x10 : Int32) (h11 : z_Hp) => (if x6 = 2 then (some (x10 + (-20), h11)) else (some (x10 + 0, h11)))) (fun (j37_9 : Int32 → z_Hp → Option (Int32 × z_Hp)) => (if x4 = 2 then (j37_9 (-10) h8) else (j37_9 0 h8))))) (fun (j26_7 : z_Hp → Option (Int32 × z_Hp)) => (if x4 = 2 then (j26_7 h5) else (if x6 = 2 then (j26_7 h5) else (if (x4 * x6) = (-1) then (some ((-40), h5)) else (lt_ (fun (x13 : Int32) (h14 : z_Hp) => (if x6 = 1 then (some (x13 + 2, h14)) else (some (x13 + 0, h14)))) (fun (j72_12 : Int32 → z_Hp → Option (Int32 × z_Hp)) => (if x4 = 1 then (j72_12 1 h5) else (j72_12 0 h5))))))))))) else none))) else none)
set_option maxRecDepth 20000 in
set_option maxHeartbeats 4000000 in
theorem t_X10_aheadOf (F : Nat) (a0 : Nat) (x1 : Int32) (x2 : Int32) (h0 : z_Hp) : z_Ct zi mi_X10_aheadOf [vr (some a0), vi x1, vi x2] h0 (c_X10_aheadOf F a0 x1 x2 h0) := by
  refine z_entry (by decide) (Nat.le_of_ble_eq_true rfl) [(0, vr (some a0)), (1, vi x1), (2, vi x2)] rfl ?_
  unfold c_X10_aheadOf
  refine z_aload_n (pc := 0) dX10_aheadOf_0 rfl 0 rfl (z_iload_n (pc := 1) dX10_aheadOf_1 rfl 1 rfl (z_iload_n (pc := 2) dX10_aheadOf_2 rfl 2 rfl (z_callV_I (pc := 3) (avs := [vi x1, vi x2]) (st := []) rfl (q := (RX10, TX10, 62)) rfl rfl (t_X10_byBlock F a0 x1 x2 h0) ky_X10_byBlock wm_X10_byBlock we_X10_byBlock wz_RX10_297 (rm_X10_aheadOf_X10_byBlock) (Nat.le_of_ble_eq_true rfl) dX10_aheadOf_3 (fun x4 h3 => (?_)))))
  refine z_istore_n (pc := 6) (L' := [(0, vr (some a0)), (1, vi x1), (2, vi x2), (3, vi x4)]) dX10_aheadOf_6 rfl (Nat.le_of_ble_eq_true rfl) rfl (z_aload_n (pc := 7) dX10_aheadOf_7 rfl 0 rfl (z_iload_n (pc := 8) dX10_aheadOf_8 rfl 1 rfl (z_iload_n (pc := 9) dX10_aheadOf_9 rfl 2 rfl (z_callV_I (pc := 10) (avs := [vi x1, vi x2]) (st := []) rfl (q := (RX10, TX10, 62)) rfl rfl (t_X10_byType F a0 x1 x2 h3) ky_X10_byType wm_X10_byType we_X10_byType wz_RX10_300 (rm_X10_aheadOf_X10_byType) (Nat.le_of_ble_eq_true rfl) dX10_aheadOf_10 (fun x6 h5 => (?_))))))
  refine z_istore (pc := 13) (L' := [(0, vr (some a0)), (1, vi x1), (2, vi x2), (3, vi x4), (4, vi x6)]) dX10_aheadOf_13 (Nat.le_of_ble_eq_true rfl) rfl (z_iload_n (pc := 15) dX10_aheadOf_15 rfl 3 rfl (z_iconst (pc := 16) dX10_aheadOf_16 ic_2 (?_)))
  refine z_jn (P := fun (j : z_Hp → Option (Int32 × z_Hp)) => ∀ (h8 : z_Hp), z_G zi mi_X10_aheadOf 26 [(3, vi x4), (4, vi x6)] [] h8 (j h8)) (fun h8 => ?_) (fun j26_7 qj26_7 => ?_)
  · refine z_iload_n (pc := 26) dX10_aheadOf_26 rfl 0 rfl (z_iconst (pc := 27) dX10_aheadOf_27 ic_2 (?_))
    refine z_jn (P := fun (j : Int32 → z_Hp → Option (Int32 × z_Hp)) => ∀ (x10 : Int32) (h11 : z_Hp), z_G zi mi_X10_aheadOf 37 [(4, vi x6)] [vi x10] h11 (j x10 h11)) (fun x10 h11 => ?_) (fun j37_9 qj37_9 => ?_)
    · refine z_iload (pc := 37) dX10_aheadOf_37 0 rfl (z_iconst (pc := 39) dX10_aheadOf_39 ic_2 (?_))
      refine z_icmp_ne (pc := 40) (tgt := 48) dX10_aheadOf_40 (by decide) ?_ ?_
      · refine z_iconst (pc := 48) dX10_aheadOf_48 ic_0 (z_iadd (pc := 49) dX10_aheadOf_49 (?_))
        exact z_iret (pc := 50) dX10_aheadOf_50 rfl rfl
      · refine z_bipush (pc := 43) dX10_aheadOf_43 bp_m20 (z_goto (pc := 45) (tgt := 49) dX10_aheadOf_45 (by decide) (z_iadd (pc := 49) dX10_aheadOf_49 (?_)))
        exact z_iret (pc := 50) dX10_aheadOf_50 rfl rfl
    refine z_icmp_ne (pc := 28) (tgt := 36) dX10_aheadOf_28 (by decide) ?_ ?_
    · refine z_iconst (pc := 36) dX10_aheadOf_36 ic_0 (?_)
      exact z_sub [1] rfl (qj37_9 0 h8)
    · refine z_bipush (pc := 31) dX10_aheadOf_31 bp_m10 (z_goto (pc := 33) (tgt := 37) dX10_aheadOf_33 (by decide) (?_))
      exact z_sub [1] rfl (qj37_9 (-10) h8)
  refine z_icmp_eq (pc := 17) (tgt := 26) dX10_aheadOf_17 (by decide) ?_ ?_
  · exact z_sub [3, 4] rfl (qj26_7 h5)
  · refine z_iload (pc := 20) dX10_aheadOf_20 4 rfl (z_iconst (pc := 22) dX10_aheadOf_22 ic_2 (?_))
    refine z_icmp_ne (pc := 23) (tgt := 51) dX10_aheadOf_23 (by decide) ?_ ?_
    · refine z_iload_n (pc := 51) dX10_aheadOf_51 rfl 3 rfl (z_iload (pc := 52) dX10_aheadOf_52 4 rfl (z_imul (pc := 54) dX10_aheadOf_54 (z_iconst (pc := 55) dX10_aheadOf_55 ic_m1 (?_))))
      refine z_icmp_ne (pc := 56) (tgt := 62) dX10_aheadOf_56 (by decide) ?_ ?_
      · refine z_iload_n (pc := 62) dX10_aheadOf_62 rfl 3 rfl (z_iconst (pc := 63) dX10_aheadOf_63 ic_1 (?_))
        refine z_jn (P := fun (j : Int32 → z_Hp → Option (Int32 × z_Hp)) => ∀ (x13 : Int32) (h14 : z_Hp), z_G zi mi_X10_aheadOf 72 [(4, vi x6)] [vi x13] h14 (j x13 h14)) (fun x13 h14 => ?_) (fun j72_12 qj72_12 => ?_)
        · refine z_iload (pc := 72) dX10_aheadOf_72 0 rfl (z_iconst (pc := 74) dX10_aheadOf_74 ic_1 (?_))
          refine z_icmp_ne (pc := 75) (tgt := 82) dX10_aheadOf_75 (by decide) ?_ ?_
          · refine z_iconst (pc := 82) dX10_aheadOf_82 ic_0 (z_iadd (pc := 83) dX10_aheadOf_83 (?_))
            exact z_iret (pc := 84) dX10_aheadOf_84 rfl rfl
          · refine z_iconst (pc := 78) dX10_aheadOf_78 ic_2 (z_goto (pc := 79) (tgt := 83) dX10_aheadOf_79 (by decide) (z_iadd (pc := 83) dX10_aheadOf_83 (?_)))
            exact z_iret (pc := 84) dX10_aheadOf_84 rfl rfl
        refine z_icmp_ne (pc := 64) (tgt := 71) dX10_aheadOf_64 (by decide) ?_ ?_
        · refine z_iconst (pc := 71) dX10_aheadOf_71 ic_0 (?_)
          exact z_sub [4] rfl (qj72_12 0 h5)
        · refine z_iconst (pc := 67) dX10_aheadOf_67 ic_1 (z_goto (pc := 68) (tgt := 72) dX10_aheadOf_68 (by decide) (?_))
          exact z_sub [4] rfl (qj72_12 1 h5)
      · refine z_bipush (pc := 59) dX10_aheadOf_59 bp_m40 (?_)
        exact z_iret (pc := 61) dX10_aheadOf_61 rfl rfl
    · exact z_sub [3, 4] rfl (qj26_7 h5)
theorem dX10_ahead_0 : decode cX10_ahead 0 = .ok (.aload_n 0, 1) := by decide +kernel
theorem dX10_ahead_1 : decode cX10_ahead 1 = .ok (.iload_n 1, 1) := by decide +kernel
theorem dX10_ahead_2 : decode cX10_ahead 2 = .ok (.invokevirtual 265, 3) := by decide +kernel
theorem dX10_ahead_5 : decode cX10_ahead 5 = .ok (.ifCond .eq 25, 3) := by decide +kernel
theorem dX10_ahead_8 : decode cX10_ahead 8 = .ok (.aload_n 0, 1) := by decide +kernel
theorem dX10_ahead_9 : decode cX10_ahead 9 = .ok (.iload_n 2, 1) := by decide +kernel
theorem dX10_ahead_10 : decode cX10_ahead 10 = .ok (.invokevirtual 265, 3) := by decide +kernel
theorem dX10_ahead_13 : decode cX10_ahead 13 = .ok (.ifCond .eq 17, 3) := by decide +kernel
theorem dX10_ahead_16 : decode cX10_ahead 16 = .ok (.iload_n 1, 1) := by decide +kernel
theorem dX10_ahead_17 : decode cX10_ahead 17 = .ok (.iload_n 2, 1) := by decide +kernel
theorem dX10_ahead_18 : decode cX10_ahead 18 = .ok (.if_icmp .eq 12, 3) := by decide +kernel
theorem dX10_ahead_21 : decode cX10_ahead 21 = .ok (.aload_n 0, 1) := by decide +kernel
theorem dX10_ahead_22 : decode cX10_ahead 22 = .ok (.iload_n 1, 1) := by decide +kernel
theorem dX10_ahead_23 : decode cX10_ahead 23 = .ok (.iload_n 2, 1) := by decide +kernel
theorem dX10_ahead_24 : decode cX10_ahead 24 = .ok (.invokevirtual 303, 3) := by decide +kernel
theorem dX10_ahead_27 : decode cX10_ahead 27 = .ok (.goto 5, 3) := by decide +kernel
theorem dX10_ahead_30 : decode cX10_ahead 30 = .ok (.bipush (-100), 2) := by decide +kernel
theorem dX10_ahead_32 : decode cX10_ahead 32 = .ok (.ireturn, 1) := by decide +kernel
def c_X10_ahead (F : Nat) (a0 : Nat) (x1 : Int32) (x2 : Int32) (h0 : z_Hp) : Option (Int32 × z_Hp) := (if hT h0 a0 = 10 then (bI (c_X10_isSheet F a0 x1 h0) (fun x4 h3 => (if x4 = 0 then (some ((-100), h3)) else (if hT h3 a0 = 10 then (bI (c_X10_isSheet F a0 x2 h3) (fun x6 h5 => (if x6 = 0 then (some ((-100), h5)) else (if x1 = x2 then (some ((-100), h5)) else (if hT h5 a0 = 10 then (bI (c_X10_aheadOf F a0 x1 x2 h5) (fun x8 h7 => (some (x8, h7)))) else none))))) else none)))) else none)
set_option maxRecDepth 20000 in
set_option maxHeartbeats 4000000 in
theorem t_X10_ahead (F : Nat) (a0 : Nat) (x1 : Int32) (x2 : Int32) (h0 : z_Hp) : z_Ct zi mi_X10_ahead [vr (some a0), vi x1, vi x2] h0 (c_X10_ahead F a0 x1 x2 h0) := by
  refine z_entry (by decide) (Nat.le_of_ble_eq_true rfl) [(0, vr (some a0)), (1, vi x1), (2, vi x2)] rfl ?_
  unfold c_X10_ahead
  refine z_aload_n (pc := 0) dX10_ahead_0 rfl 0 rfl (z_iload_n (pc := 1) dX10_ahead_1 rfl 1 rfl (z_callV_I (pc := 2) (avs := [vi x1]) (st := []) rfl (q := (RX10, TX10, 62)) rfl rfl (t_X10_isSheet F a0 x1 h0) ky_X10_isSheet wm_X10_isSheet we_X10_isSheet wz_RX10_265 (rm_X10_ahead_X10_isSheet) (Nat.le_of_ble_eq_true rfl) dX10_ahead_2 (fun x4 h3 => (?_))))
  refine z_if_eq (pc := 5) (tgt := 30) dX10_ahead_5 (by decide) ?_ ?_
  · refine z_bipush (pc := 30) dX10_ahead_30 bp_m100 (?_)
    exact z_iret (pc := 32) dX10_ahead_32 rfl rfl
  · refine z_aload_n (pc := 8) dX10_ahead_8 rfl 0 rfl (z_iload_n (pc := 9) dX10_ahead_9 rfl 2 rfl (z_callV_I (pc := 10) (avs := [vi x2]) (st := []) rfl (q := (RX10, TX10, 62)) rfl rfl (t_X10_isSheet F a0 x2 h3) ky_X10_isSheet wm_X10_isSheet we_X10_isSheet wz_RX10_265 (rm_X10_ahead_X10_isSheet) (Nat.le_of_ble_eq_true rfl) dX10_ahead_10 (fun x6 h5 => (?_))))
    refine z_if_eq (pc := 13) (tgt := 30) dX10_ahead_13 (by decide) ?_ ?_
    · refine z_bipush (pc := 30) dX10_ahead_30 bp_m100 (?_)
      exact z_iret (pc := 32) dX10_ahead_32 rfl rfl
    · refine z_iload_n (pc := 16) dX10_ahead_16 rfl 1 rfl (z_iload_n (pc := 17) dX10_ahead_17 rfl 2 rfl (?_))
      refine z_icmp_eq (pc := 18) (tgt := 30) dX10_ahead_18 (by decide) ?_ ?_
      · refine z_bipush (pc := 30) dX10_ahead_30 bp_m100 (?_)
        exact z_iret (pc := 32) dX10_ahead_32 rfl rfl
      · refine z_aload_n (pc := 21) dX10_ahead_21 rfl 0 rfl (z_iload_n (pc := 22) dX10_ahead_22 rfl 1 rfl (z_iload_n (pc := 23) dX10_ahead_23 rfl 2 rfl (z_callV_I (pc := 24) (avs := [vi x1, vi x2]) (st := []) rfl (q := (RX10, TX10, 62)) rfl rfl (t_X10_aheadOf F a0 x1 x2 h5) ky_X10_aheadOf wm_X10_aheadOf we_X10_aheadOf wz_RX10_303 (rm_X10_ahead_X10_aheadOf) (Nat.le_of_ble_eq_true rfl) dX10_ahead_24 (fun x8 h7 => (?_)))))
        refine z_goto (pc := 27) (tgt := 32) dX10_ahead_27 (by decide) (?_)
        exact z_iret (pc := 32) dX10_ahead_32 rfl rfl
theorem dX10_quarrel_0 : decode cX10_quarrel 0 = .ok (.iconst 0, 1) := by decide +kernel
theorem dX10_quarrel_1 : decode cX10_quarrel 1 = .ok (.istore_n 1, 1) := by decide +kernel
theorem dX10_quarrel_2 : decode cX10_quarrel 2 = .ok (.iload_n 1, 1) := by decide +kernel
theorem dX10_quarrel_3 : decode cX10_quarrel 3 = .ok (.aload_n 0, 1) := by decide +kernel
theorem dX10_quarrel_4 : decode cX10_quarrel 4 = .ok (.getfield 262, 3) := by decide +kernel
theorem dX10_quarrel_7 : decode cX10_quarrel 7 = .ok (.if_icmp .ge 43, 3) := by decide +kernel
theorem dX10_quarrel_10 : decode cX10_quarrel 10 = .ok (.iload_n 1, 1) := by decide +kernel
theorem dX10_quarrel_11 : decode cX10_quarrel 11 = .ok (.iconst 1, 1) := by decide +kernel
theorem dX10_quarrel_12 : decode cX10_quarrel 12 = .ok (.iadd, 1) := by decide +kernel
theorem dX10_quarrel_13 : decode cX10_quarrel 13 = .ok (.istore_n 2, 1) := by decide +kernel
theorem dX10_quarrel_14 : decode cX10_quarrel 14 = .ok (.iload_n 2, 1) := by decide +kernel
theorem dX10_quarrel_15 : decode cX10_quarrel 15 = .ok (.aload_n 0, 1) := by decide +kernel
theorem dX10_quarrel_16 : decode cX10_quarrel 16 = .ok (.getfield 262, 3) := by decide +kernel
theorem dX10_quarrel_19 : decode cX10_quarrel 19 = .ok (.if_icmp .ge 25, 3) := by decide +kernel
theorem dX10_quarrel_22 : decode cX10_quarrel 22 = .ok (.aload_n 0, 1) := by decide +kernel
theorem dX10_quarrel_23 : decode cX10_quarrel 23 = .ok (.iload_n 1, 1) := by decide +kernel
theorem dX10_quarrel_24 : decode cX10_quarrel 24 = .ok (.iload_n 2, 1) := by decide +kernel
theorem dX10_quarrel_25 : decode cX10_quarrel 25 = .ok (.invokevirtual 303, 3) := by decide +kernel
theorem dX10_quarrel_28 : decode cX10_quarrel 28 = .ok (.ifCond .ge 10, 3) := by decide +kernel
theorem dX10_quarrel_31 : decode cX10_quarrel 31 = .ok (.bipush 100, 2) := by decide +kernel
theorem dX10_quarrel_33 : decode cX10_quarrel 33 = .ok (.iload_n 1, 1) := by decide +kernel
theorem dX10_quarrel_34 : decode cX10_quarrel 34 = .ok (.imul, 1) := by decide +kernel
theorem dX10_quarrel_35 : decode cX10_quarrel 35 = .ok (.iload_n 2, 1) := by decide +kernel
theorem dX10_quarrel_36 : decode cX10_quarrel 36 = .ok (.iadd, 1) := by decide +kernel
theorem dX10_quarrel_37 : decode cX10_quarrel 37 = .ok (.ireturn, 1) := by decide +kernel
theorem dX10_quarrel_38 : decode cX10_quarrel 38 = .ok (.iinc 2 1, 3) := by decide +kernel
theorem dX10_quarrel_41 : decode cX10_quarrel 41 = .ok (.goto (-27), 3) := by decide +kernel
theorem dX10_quarrel_44 : decode cX10_quarrel 44 = .ok (.iinc 1 1, 3) := by decide +kernel
theorem dX10_quarrel_47 : decode cX10_quarrel 47 = .ok (.goto (-45), 3) := by decide +kernel
theorem dX10_quarrel_50 : decode cX10_quarrel 50 = .ok (.bipush (-9), 2) := by decide +kernel
theorem dX10_quarrel_52 : decode cX10_quarrel 52 = .ok (.ireturn, 1) := by decide +kernel
def c_X10_quarrel_L14 (F : Nat) (a5 : Nat) (x6 : Int32) (k44 : z_Hp → Option (Int32 × z_Hp)) : Nat → Int32 → z_Hp → Option (Int32 × z_Hp)
  | 0, _, _ => none
  | n + 1, x7, h8 => (if hT h8 a5 = 10 then (if (hI h8 a5 26) ≤ x7 then (k44 h8) else (if hT h8 a5 = 10 then (bI (c_X10_aheadOf F a5 x6 x7 h8) (fun x11 h10 => (if 0 ≤ x11 then (lt_ (x7 + 1) (fun x12 => (c_X10_quarrel_L14 F a5 x6 k44 n x12 h10))) else (some ((100 * x6) + x7, h10))))) else none)) else none)
def c_X10_quarrel_L2 (F : Nat) (a1 : Nat) : Nat → Int32 → z_Hp → Option (Int32 × z_Hp)
  | 0, _, _ => none
  | n + 1, x2, h3 => (if hT h3 a1 = 10 then (if (hI h3 a1 26) ≤ x2 then (some ((-9), h3)) else (lt_ (x2 + 1) (fun x4 => (c_X10_quarrel_L14 F a1 x2 (fun h13 => (lt_ (x2 + 1) (fun x14 => (c_X10_quarrel_L2 F a1 n x14 h13)))) F x4 h3)))) else none)
def c_X10_quarrel (F : Nat) (a0 : Nat) (h0 : z_Hp) : Option (Int32 × z_Hp) := (c_X10_quarrel_L2 F a0 F 0 h0)
set_option maxRecDepth 20000 in
set_option maxHeartbeats 4000000 in
theorem g_X10_quarrel_L14 (F : Nat) (a5 : Nat) (x6 : Int32) (k44 : z_Hp → Option (Int32 × z_Hp)) (qk44 : ∀ (h9 : z_Hp), z_G zi mi_X10_quarrel 44 [(0, vr (some a5)), (1, vi x6)] [] h9 (k44 h9)) : ∀ (n : Nat) (x7 : Int32) (h8 : z_Hp), z_G zi mi_X10_quarrel 14 [(0, vr (some a5)), (1, vi x6), (2, vi x7)] [] h8 (c_X10_quarrel_L14 F a5 x6 k44 n x7 h8) := by
  intro n
  induction n with
  | zero => intro x7 h8; rw [c_X10_quarrel_L14]; exact z_none
  | succ n ih =>
    intro x7 h8
    rw [c_X10_quarrel_L14]
    refine z_iload_n (pc := 14) dX10_quarrel_14 rfl 2 rfl (z_aload_n (pc := 15) dX10_quarrel_15 rfl 0 rfl (z_getI (pc := 16) fl_RX10_262 rfl dX10_quarrel_16 (?_)))
    refine z_icmp_ge (pc := 19) (tgt := 44) dX10_quarrel_19 (by decide) ?_ ?_
    · exact z_sub [0, 1] rfl (qk44 h8)
    · refine z_aload_n (pc := 22) dX10_quarrel_22 rfl 0 rfl (z_iload_n (pc := 23) dX10_quarrel_23 rfl 1 rfl (z_iload_n (pc := 24) dX10_quarrel_24 rfl 2 rfl (z_callV_I (pc := 25) (avs := [vi x6, vi x7]) (st := []) rfl (q := (RX10, TX10, 62)) rfl rfl (t_X10_aheadOf F a5 x6 x7 h8) ky_X10_aheadOf wm_X10_aheadOf we_X10_aheadOf wz_RX10_303 (rm_X10_quarrel_X10_aheadOf) (Nat.le_of_ble_eq_true rfl) dX10_quarrel_25 (fun x11 h10 => (?_)))))
      refine z_if_ge (pc := 28) (tgt := 38) dX10_quarrel_28 (by decide) ?_ ?_
      · refine z_iincl (pc := 38) (L' := fun x12 => [(0, vr (some a5)), (1, vi x6), (2, vi x12)]) dX10_quarrel_38 2 rfl ic_1 (Nat.le_of_ble_eq_true rfl) (fun _ => rfl) (fun x12 => (z_goto (pc := 41) (tgt := 14) dX10_quarrel_41 (by decide) (?_)))
        exact ih x12 h10
      · refine z_bipush (pc := 31) dX10_quarrel_31 bp_100 (z_iload_n (pc := 33) dX10_quarrel_33 rfl 1 rfl (z_imul (pc := 34) dX10_quarrel_34 (z_iload_n (pc := 35) dX10_quarrel_35 rfl 2 rfl (z_iadd (pc := 36) dX10_quarrel_36 (?_)))))
        exact z_iret (pc := 37) dX10_quarrel_37 rfl rfl
set_option maxRecDepth 20000 in
set_option maxHeartbeats 4000000 in
theorem g_X10_quarrel_L2 (F : Nat) (a1 : Nat) : ∀ (n : Nat) (x2 : Int32) (h3 : z_Hp), z_G zi mi_X10_quarrel 2 [(0, vr (some a1)), (1, vi x2)] [] h3 (c_X10_quarrel_L2 F a1 n x2 h3) := by
  intro n
  induction n with
  | zero => intro x2 h3; rw [c_X10_quarrel_L2]; exact z_none
  | succ n ih =>
    intro x2 h3
    rw [c_X10_quarrel_L2]
    refine z_iload_n (pc := 2) dX10_quarrel_2 rfl 1 rfl (z_aload_n (pc := 3) dX10_quarrel_3 rfl 0 rfl (z_getI (pc := 4) fl_RX10_262 rfl dX10_quarrel_4 (?_)))
    refine z_icmp_ge (pc := 7) (tgt := 50) dX10_quarrel_7 (by decide) ?_ ?_
    · refine z_bipush (pc := 50) dX10_quarrel_50 bp_m9 (?_)
      exact z_iret (pc := 52) dX10_quarrel_52 rfl rfl
    · refine z_iload_n (pc := 10) dX10_quarrel_10 rfl 1 rfl (z_iconst (pc := 11) dX10_quarrel_11 ic_1 (z_iadd (pc := 12) dX10_quarrel_12 (z_istorel_n (pc := 13) (L' := fun x4 => [(0, vr (some a1)), (1, vi x2), (2, vi x4)]) dX10_quarrel_13 rfl (Nat.le_of_ble_eq_true rfl) (fun _ => rfl) (fun x4 => (?_)))))
      refine g_X10_quarrel_L14 F a1 x2 _ (fun h13 => ?_) F x4 h3
      refine z_iincl (pc := 44) (L' := fun x14 => [(0, vr (some a1)), (1, vi x14)]) dX10_quarrel_44 1 rfl ic_1 (Nat.le_of_ble_eq_true rfl) (fun _ => rfl) (fun x14 => (z_goto (pc := 47) (tgt := 2) dX10_quarrel_47 (by decide) (?_)))
      exact ih x14 h13
set_option maxRecDepth 20000 in
set_option maxHeartbeats 4000000 in
theorem t_X10_quarrel (F : Nat) (a0 : Nat) (h0 : z_Hp) : z_Ct zi mi_X10_quarrel [vr (some a0)] h0 (c_X10_quarrel F a0 h0) := by
  refine z_entry (by decide) (Nat.le_of_ble_eq_true rfl) [(0, vr (some a0))] rfl ?_
  unfold c_X10_quarrel
  refine z_iconst (pc := 0) dX10_quarrel_0 ic_0 (z_istore_n (pc := 1) (L' := [(0, vr (some a0)), (1, vi 0)]) dX10_quarrel_1 rfl (Nat.le_of_ble_eq_true rfl) rfl (?_))
  refine g_X10_quarrel_L2 F a0 F 0 h0
theorem dX10_setOrder_0 : decode cX10_setOrder 0 = .ok (.aload_n 0, 1) := by decide +kernel
theorem dX10_setOrder_1 : decode cX10_setOrder 1 = .ok (.iconst 0, 1) := by decide +kernel
theorem dX10_setOrder_2 : decode cX10_setOrder 2 = .ok (.putfield 306, 3) := by decide +kernel
theorem dX10_setOrder_5 : decode cX10_setOrder 5 = .ok (.iconst 0, 1) := by decide +kernel
theorem dX10_setOrder_6 : decode cX10_setOrder 6 = .ok (.istore_n 2, 1) := by decide +kernel
theorem dX10_setOrder_7 : decode cX10_setOrder 7 = .ok (.iload_n 2, 1) := by decide +kernel
theorem dX10_setOrder_8 : decode cX10_setOrder 8 = .ok (.aload_n 0, 1) := by decide +kernel
theorem dX10_setOrder_9 : decode cX10_setOrder 9 = .ok (.getfield 262, 3) := by decide +kernel
theorem dX10_setOrder_12 : decode cX10_setOrder 12 = .ok (.if_icmp .ge 39, 3) := by decide +kernel
theorem dX10_setOrder_15 : decode cX10_setOrder 15 = .ok (.aload_n 0, 1) := by decide +kernel
theorem dX10_setOrder_16 : decode cX10_setOrder 16 = .ok (.getfield 77, 3) := by decide +kernel
theorem dX10_setOrder_19 : decode cX10_setOrder 19 = .ok (.iload_n 2, 1) := by decide +kernel
theorem dX10_setOrder_20 : decode cX10_setOrder 20 = .ok (.iaload, 1) := by decide +kernel
theorem dX10_setOrder_21 : decode cX10_setOrder 21 = .ok (.iload_n 1, 1) := by decide +kernel
theorem dX10_setOrder_22 : decode cX10_setOrder 22 = .ok (.if_icmp .ne 23, 3) := by decide +kernel
theorem dX10_setOrder_25 : decode cX10_setOrder 25 = .ok (.aload_n 0, 1) := by decide +kernel
theorem dX10_setOrder_26 : decode cX10_setOrder 26 = .ok (.getfield 104, 3) := by decide +kernel
theorem dX10_setOrder_29 : decode cX10_setOrder 29 = .ok (.aload_n 0, 1) := by decide +kernel
theorem dX10_setOrder_30 : decode cX10_setOrder 30 = .ok (.getfield 306, 3) := by decide +kernel
theorem dX10_setOrder_33 : decode cX10_setOrder 33 = .ok (.iload_n 2, 1) := by decide +kernel
theorem dX10_setOrder_34 : decode cX10_setOrder 34 = .ok (.iastore, 1) := by decide +kernel
theorem dX10_setOrder_35 : decode cX10_setOrder 35 = .ok (.aload_n 0, 1) := by decide +kernel
theorem dX10_setOrder_36 : decode cX10_setOrder 36 = .ok (.dup, 1) := by decide +kernel
theorem dX10_setOrder_37 : decode cX10_setOrder 37 = .ok (.getfield 306, 3) := by decide +kernel
theorem dX10_setOrder_40 : decode cX10_setOrder 40 = .ok (.iconst 1, 1) := by decide +kernel
theorem dX10_setOrder_41 : decode cX10_setOrder 41 = .ok (.iadd, 1) := by decide +kernel
theorem dX10_setOrder_42 : decode cX10_setOrder 42 = .ok (.putfield 306, 3) := by decide +kernel
theorem dX10_setOrder_45 : decode cX10_setOrder 45 = .ok (.iinc 2 1, 3) := by decide +kernel
theorem dX10_setOrder_48 : decode cX10_setOrder 48 = .ok (.goto (-41), 3) := by decide +kernel
theorem dX10_setOrder_51 : decode cX10_setOrder 51 = .ok (.iconst 0, 1) := by decide +kernel
theorem dX10_setOrder_52 : decode cX10_setOrder 52 = .ok (.istore_n 2, 1) := by decide +kernel
theorem dX10_setOrder_53 : decode cX10_setOrder 53 = .ok (.iload_n 2, 1) := by decide +kernel
theorem dX10_setOrder_54 : decode cX10_setOrder 54 = .ok (.aload_n 0, 1) := by decide +kernel
theorem dX10_setOrder_55 : decode cX10_setOrder 55 = .ok (.getfield 306, 3) := by decide +kernel
theorem dX10_setOrder_58 : decode cX10_setOrder 58 = .ok (.if_icmp .ge 67, 3) := by decide +kernel
theorem dX10_setOrder_61 : decode cX10_setOrder 61 = .ok (.aload_n 0, 1) := by decide +kernel
theorem dX10_setOrder_62 : decode cX10_setOrder 62 = .ok (.getfield 107, 3) := by decide +kernel
theorem dX10_setOrder_65 : decode cX10_setOrder 65 = .ok (.iload_n 2, 1) := by decide +kernel
theorem dX10_setOrder_66 : decode cX10_setOrder 66 = .ok (.iconst 0, 1) := by decide +kernel
theorem dX10_setOrder_67 : decode cX10_setOrder 67 = .ok (.iastore, 1) := by decide +kernel
theorem dX10_setOrder_68 : decode cX10_setOrder 68 = .ok (.iconst 0, 1) := by decide +kernel
theorem dX10_setOrder_69 : decode cX10_setOrder 69 = .ok (.istore_n 3, 1) := by decide +kernel
theorem dX10_setOrder_70 : decode cX10_setOrder 70 = .ok (.iload_n 3, 1) := by decide +kernel
theorem dX10_setOrder_71 : decode cX10_setOrder 71 = .ok (.aload_n 0, 1) := by decide +kernel
theorem dX10_setOrder_72 : decode cX10_setOrder 72 = .ok (.getfield 306, 3) := by decide +kernel
theorem dX10_setOrder_75 : decode cX10_setOrder 75 = .ok (.if_icmp .ge 44, 3) := by decide +kernel
theorem dX10_setOrder_78 : decode cX10_setOrder 78 = .ok (.aload_n 0, 1) := by decide +kernel
theorem dX10_setOrder_79 : decode cX10_setOrder 79 = .ok (.getfield 107, 3) := by decide +kernel
theorem dX10_setOrder_82 : decode cX10_setOrder 82 = .ok (.iload_n 2, 1) := by decide +kernel
theorem dX10_setOrder_83 : decode cX10_setOrder 83 = .ok (.dup2, 1) := by decide +kernel
theorem dX10_setOrder_84 : decode cX10_setOrder 84 = .ok (.iaload, 1) := by decide +kernel
theorem dX10_setOrder_85 : decode cX10_setOrder 85 = .ok (.aload_n 0, 1) := by decide +kernel
theorem dX10_setOrder_86 : decode cX10_setOrder 86 = .ok (.aload_n 0, 1) := by decide +kernel
theorem dX10_setOrder_87 : decode cX10_setOrder 87 = .ok (.getfield 104, 3) := by decide +kernel
theorem dX10_setOrder_90 : decode cX10_setOrder 90 = .ok (.iload_n 3, 1) := by decide +kernel
theorem dX10_setOrder_91 : decode cX10_setOrder 91 = .ok (.iaload, 1) := by decide +kernel
theorem dX10_setOrder_92 : decode cX10_setOrder 92 = .ok (.aload_n 0, 1) := by decide +kernel
theorem dX10_setOrder_93 : decode cX10_setOrder 93 = .ok (.getfield 104, 3) := by decide +kernel
theorem dX10_setOrder_96 : decode cX10_setOrder 96 = .ok (.iload_n 2, 1) := by decide +kernel
theorem dX10_setOrder_97 : decode cX10_setOrder 97 = .ok (.iaload, 1) := by decide +kernel
theorem dX10_setOrder_98 : decode cX10_setOrder 98 = .ok (.invokevirtual 309, 3) := by decide +kernel
theorem dX10_setOrder_101 : decode cX10_setOrder 101 = .ok (.ifCond .eq 9, 3) := by decide +kernel
theorem dX10_setOrder_104 : decode cX10_setOrder 104 = .ok (.iconst 1, 1) := by decide +kernel
theorem dX10_setOrder_105 : decode cX10_setOrder 105 = .ok (.iload_n 3, 1) := by decide +kernel
theorem dX10_setOrder_106 : decode cX10_setOrder 106 = .ok (.ishl, 1) := by decide +kernel
theorem dX10_setOrder_107 : decode cX10_setOrder 107 = .ok (.goto 4, 3) := by decide +kernel
theorem dX10_setOrder_110 : decode cX10_setOrder 110 = .ok (.iconst 0, 1) := by decide +kernel
theorem dX10_setOrder_111 : decode cX10_setOrder 111 = .ok (.ior, 1) := by decide +kernel
theorem dX10_setOrder_112 : decode cX10_setOrder 112 = .ok (.iastore, 1) := by decide +kernel
theorem dX10_setOrder_113 : decode cX10_setOrder 113 = .ok (.iinc 3 1, 3) := by decide +kernel
theorem dX10_setOrder_116 : decode cX10_setOrder 116 = .ok (.goto (-46), 3) := by decide +kernel
theorem dX10_setOrder_119 : decode cX10_setOrder 119 = .ok (.iinc 2 1, 3) := by decide +kernel
theorem dX10_setOrder_122 : decode cX10_setOrder 122 = .ok (.goto (-69), 3) := by decide +kernel
theorem dX10_setOrder_125 : decode cX10_setOrder 125 = .ok (.return_, 1) := by decide +kernel
def c_X10_setOrder_L7 (F : Nat) (a3 : Nat) (x4 : Int32) (k51 : z_Hp → Option (z_Hp)) : Nat → Int32 → z_Hp → Option (z_Hp)
  | 0, _, _ => none
  | n + 1, x5, h6 => (if hT h6 a3 = 10 then (if (hI h6 a3 26) ≤ x5 then (k51 h6) else (if hT h6 a3 = 10 then (lt_ (hR h6 a3 30) (fun o8 => (nn o8 (fun a9 => (if okA h6 a9 20 x5 = true then (lt_ (fun (h11 : z_Hp) => (lt_ (x5 + 1) (fun x12 => (c_X10_setOrder_L7 F a3 x4 k51 n x12 h11)))) (fun (j45_10 : z_Hp → Option (z_Hp)) => (if (hI h6 a9 (ix x5)) = x4 then (if hT h6 a3 = 10 then (lt_ (hR h6 a3 40) (fun o13 => (if hT h6 a3 = 10 then (nn o13 (fun a14 => (if okA h6 a14 20 (hI h6 a3 39) = true then (lt_ (sI h6 a14 (ix (hI h6 a3 39)) x5) (fun h15 => (if hT h15 a3 = 10 then (if hT h15 a3 = 10 then (lt_ (sI h15 a3 39 ((hI h15 a3 39) + 1)) (fun h16 => (j45_10 h16))) else none) else none))) else none))) else none))) else none) else (j45_10 h6)))) else none))))) else none)) else none)
def c_X10_setOrder_L70 (F : Nat) (a24 : Nat) (x25 : Int32) (k119 : z_Hp → Option (z_Hp)) : Nat → Int32 → z_Hp → Option (z_Hp)
  | 0, _, _ => none
  | n + 1, x26, h27 => (if hT h27 a24 = 10 then (if (hI h27 a24 39) ≤ x26 then (k119 h27) else (if hT h27 a24 = 10 then (lt_ (hR h27 a24 41) (fun o29 => (nn o29 (fun a30 => (if okA h27 a30 20 x25 = true then (if hT h27 a24 = 10 then (lt_ (hR h27 a24 40) (fun o31 => (nn o31 (fun a32 => (if okA h27 a32 20 x26 = true then (if hT h27 a24 = 10 then (lt_ (hR h27 a24 40) (fun o33 => (nn o33 (fun a34 => (if okA h27 a34 20 x25 = true then (if hT h27 a24 = 10 then (bI (c_X10_isAhead F a24 (hI h27 a32 (ix x26)) (hI h27 a34 (ix x25)) h27) (fun x36 h35 => (lt_ (fun (x38 : Int32) (h39 : z_Hp) => (if okA h39 a30 20 x25 = true then (lt_ (sI h39 a30 (ix x25) ((hI h27 a30 (ix x25)) ||| x38)) (fun h40 => (lt_ (x26 + 1) (fun x41 => (c_X10_setOrder_L70 F a24 x25 k119 n x41 h40))))) else none)) (fun (j111_37 : Int32 → z_Hp → Option (z_Hp)) => (if x36 = 0 then (j111_37 0 h35) else (j111_37 (1 <<< (x26 &&& 31)) h35)))))) else none) else none))))) else none) else none))))) else none) else none))))) else none)) else none)
def c_X10_setOrder_L53 (F : Nat) (a18 : Nat) : Nat → Int32 → z_Hp → Option (z_Hp)
  | 0, _, _ => none
  | n + 1, x19, h20 => (if hT h20 a18 = 10 then (if (hI h20 a18 39) ≤ x19 then (some h20) else (if hT h20 a18 = 10 then (lt_ (hR h20 a18 41) (fun o21 => (nn o21 (fun a22 => (if okA h20 a22 20 x19 = true then (lt_ (sI h20 a22 (ix x19) 0) (fun h23 => (c_X10_setOrder_L70 F a18 x19 (fun h42 => (lt_ (x19 + 1) (fun x43 => (c_X10_setOrder_L53 F a18 n x43 h42)))) F 0 h23))) else none))))) else none)) else none)
def c_X10_setOrder (F : Nat) (a0 : Nat) (x1 : Int32) (h0 : z_Hp) : Option (z_Hp) := (if hT h0 a0 = 10 then (lt_ (sI h0 a0 39 0) (fun h2 => (c_X10_setOrder_L7 F a0 x1 (fun h17 => (c_X10_setOrder_L53 F a0 F 0 h17)) F 0 h2))) else none)
set_option maxRecDepth 20000 in
set_option maxHeartbeats 4000000 in
theorem g_X10_setOrder_L7 (F : Nat) (a3 : Nat) (x4 : Int32) (k51 : z_Hp → Option (z_Hp)) (qk51 : ∀ (h7 : z_Hp), z_G zv mi_X10_setOrder 51 [(0, vr (some a3))] [] h7 (k51 h7)) : ∀ (n : Nat) (x5 : Int32) (h6 : z_Hp), z_G zv mi_X10_setOrder 7 [(0, vr (some a3)), (1, vi x4), (2, vi x5)] [] h6 (c_X10_setOrder_L7 F a3 x4 k51 n x5 h6) := by
  intro n
  induction n with
  | zero => intro x5 h6; rw [c_X10_setOrder_L7]; exact z_none
  | succ n ih =>
    intro x5 h6
    rw [c_X10_setOrder_L7]
    refine z_iload_n (pc := 7) dX10_setOrder_7 rfl 2 rfl (z_aload_n (pc := 8) dX10_setOrder_8 rfl 0 rfl (z_getI (pc := 9) fl_RX10_262 rfl dX10_setOrder_9 (?_)))
    refine z_icmp_ge (pc := 12) (tgt := 51) dX10_setOrder_12 (by decide) ?_ ?_
    · exact z_sub [0] rfl (qk51 h6)
    · refine z_aload_n (pc := 15) dX10_setOrder_15 rfl 0 rfl (z_getRl (pc := 16) fl_RX10_77 rfl dX10_setOrder_16 (fun o8 => (z_iload_n (pc := 19) dX10_setOrder_19 rfl 2 rfl (?_))))
      refine z_nn (fun a9 ea9 => ?_)
      subst ea9
      refine z_iaload (pc := 20) dX10_setOrder_20 (z_iload_n (pc := 21) dX10_setOrder_21 rfl 1 rfl (?_))
      refine z_jn (P := fun (j : z_Hp → Option (z_Hp)) => ∀ (h11 : z_Hp), z_G zv mi_X10_setOrder 45 [(0, vr (some a3)), (1, vi x4), (2, vi x5)] [] h11 (j h11)) (fun h11 => ?_) (fun j45_10 qj45_10 => ?_)
      · refine z_iincl (pc := 45) (L' := fun x12 => [(0, vr (some a3)), (1, vi x4), (2, vi x12)]) dX10_setOrder_45 2 rfl ic_1 (Nat.le_of_ble_eq_true rfl) (fun _ => rfl) (fun x12 => (z_goto (pc := 48) (tgt := 7) dX10_setOrder_48 (by decide) (?_)))
        exact ih x12 h11
      refine z_icmp_ne (pc := 22) (tgt := 45) dX10_setOrder_22 (by decide) ?_ ?_
      · exact qj45_10 h6
      · refine z_aload_n (pc := 25) dX10_setOrder_25 rfl 0 rfl (z_getRl (pc := 26) fl_RX10_104 rfl dX10_setOrder_26 (fun o13 => (z_aload_n (pc := 29) dX10_setOrder_29 rfl 0 rfl (z_getI (pc := 30) fl_RX10_306 rfl dX10_setOrder_30 (z_iload_n (pc := 33) dX10_setOrder_33 rfl 2 rfl (?_))))))
        refine z_nn (fun a14 ea14 => ?_)
        subst ea14
        refine z_iastorel (pc := 34) dX10_setOrder_34 (fun h15 => (z_aload_n (pc := 35) dX10_setOrder_35 rfl 0 rfl (z_dup (pc := 36) dX10_setOrder_36 rfl (z_getI (pc := 37) fl_RX10_306 rfl dX10_setOrder_37 (z_iconst (pc := 40) dX10_setOrder_40 ic_1 (z_iadd (pc := 41) dX10_setOrder_41 (z_putIl (pc := 42) fl_RX10_306 (fin_X_10_39 _) rfl dX10_setOrder_42 (fun h16 => (?_)))))))))
        exact qj45_10 h16
set_option maxRecDepth 20000 in
set_option maxHeartbeats 4000000 in
theorem g_X10_setOrder_L70 (F : Nat) (a24 : Nat) (x25 : Int32) (k119 : z_Hp → Option (z_Hp)) (qk119 : ∀ (h28 : z_Hp), z_G zv mi_X10_setOrder 119 [(0, vr (some a24)), (2, vi x25)] [] h28 (k119 h28)) : ∀ (n : Nat) (x26 : Int32) (h27 : z_Hp), z_G zv mi_X10_setOrder 70 [(0, vr (some a24)), (2, vi x25), (3, vi x26)] [] h27 (c_X10_setOrder_L70 F a24 x25 k119 n x26 h27) := by
  intro n
  induction n with
  | zero => intro x26 h27; rw [c_X10_setOrder_L70]; exact z_none
  | succ n ih =>
    intro x26 h27
    rw [c_X10_setOrder_L70]
    refine z_iload_n (pc := 70) dX10_setOrder_70 rfl 2 rfl (z_aload_n (pc := 71) dX10_setOrder_71 rfl 0 rfl (z_getI (pc := 72) fl_RX10_306 rfl dX10_setOrder_72 (?_)))
    refine z_icmp_ge (pc := 75) (tgt := 119) dX10_setOrder_75 (by decide) ?_ ?_
    · exact z_sub [0, 1] rfl (qk119 h27)
    · refine z_aload_n (pc := 78) dX10_setOrder_78 rfl 0 rfl (z_getRl (pc := 79) fl_RX10_107 rfl dX10_setOrder_79 (fun o29 => (z_iload_n (pc := 82) dX10_setOrder_82 rfl 1 rfl (z_dup2 (pc := 83) dX10_setOrder_83 rfl rfl (?_)))))
      refine z_nn (fun a30 ea30 => ?_)
      subst ea30
      refine z_iaload (pc := 84) dX10_setOrder_84 (z_aload_n (pc := 85) dX10_setOrder_85 rfl 0 rfl (z_aload_n (pc := 86) dX10_setOrder_86 rfl 0 rfl (z_getRl (pc := 87) fl_RX10_104 rfl dX10_setOrder_87 (fun o31 => (z_iload_n (pc := 90) dX10_setOrder_90 rfl 2 rfl (?_))))))
      refine z_nn (fun a32 ea32 => ?_)
      subst ea32
      refine z_iaload (pc := 91) dX10_setOrder_91 (z_aload_n (pc := 92) dX10_setOrder_92 rfl 0 rfl (z_getRl (pc := 93) fl_RX10_104 rfl dX10_setOrder_93 (fun o33 => (z_iload_n (pc := 96) dX10_setOrder_96 rfl 1 rfl (?_)))))
      refine z_nn (fun a34 ea34 => ?_)
      subst ea34
      refine z_iaload (pc := 97) dX10_setOrder_97 (z_callV_I (pc := 98) (avs := [vi (hI h27 a32 (ix x26)), vi (hI h27 a34 (ix x25))]) (st := [vi (hI h27 a30 (ix x25)), vi x25, vr (some a30)]) rfl (q := (RX10, TX10, 62)) rfl rfl (t_X10_isAhead F a24 (hI h27 a32 (ix x26)) (hI h27 a34 (ix x25)) h27) ky_X10_isAhead wm_X10_isAhead we_X10_isAhead wz_RX10_309 (rm_X10_setOrder_X10_isAhead) (Nat.le_of_ble_eq_true rfl) dX10_setOrder_98 (fun x36 h35 => (?_)))
      refine z_jn (P := fun (j : Int32 → z_Hp → Option (z_Hp)) => ∀ (x38 : Int32) (h39 : z_Hp), z_G zv mi_X10_setOrder 111 [(0, vr (some a24)), (2, vi x25), (3, vi x26)] [vi x38, vi (hI h27 a30 (ix x25)), vi x25, vr (some a30)] h39 (j x38 h39)) (fun x38 h39 => ?_) (fun j111_37 qj111_37 => ?_)
      · refine z_ior (pc := 111) dX10_setOrder_111 (z_iastorel (pc := 112) dX10_setOrder_112 (fun h40 => (z_iincl (pc := 113) (L' := fun x41 => [(0, vr (some a24)), (2, vi x25), (3, vi x41)]) dX10_setOrder_113 2 rfl ic_1 (Nat.le_of_ble_eq_true rfl) (fun _ => rfl) (fun x41 => (z_goto (pc := 116) (tgt := 70) dX10_setOrder_116 (by decide) (?_))))))
        exact ih x41 h40
      refine z_if_eq (pc := 101) (tgt := 110) dX10_setOrder_101 (by decide) ?_ ?_
      · refine z_iconst (pc := 110) dX10_setOrder_110 ic_0 (?_)
        exact qj111_37 0 h35
      · refine z_iconst (pc := 104) dX10_setOrder_104 ic_1 (z_iload_n (pc := 105) dX10_setOrder_105 rfl 2 rfl (z_ishl (pc := 106) dX10_setOrder_106 (z_goto (pc := 107) (tgt := 111) dX10_setOrder_107 (by decide) (?_))))
        exact qj111_37 (1 <<< (x26 &&& 31)) h35
set_option maxRecDepth 20000 in
set_option maxHeartbeats 4000000 in
theorem g_X10_setOrder_L53 (F : Nat) (a18 : Nat) : ∀ (n : Nat) (x19 : Int32) (h20 : z_Hp), z_G zv mi_X10_setOrder 53 [(0, vr (some a18)), (2, vi x19)] [] h20 (c_X10_setOrder_L53 F a18 n x19 h20) := by
  intro n
  induction n with
  | zero => intro x19 h20; rw [c_X10_setOrder_L53]; exact z_none
  | succ n ih =>
    intro x19 h20
    rw [c_X10_setOrder_L53]
    refine z_iload_n (pc := 53) dX10_setOrder_53 rfl 1 rfl (z_aload_n (pc := 54) dX10_setOrder_54 rfl 0 rfl (z_getI (pc := 55) fl_RX10_306 rfl dX10_setOrder_55 (?_)))
    refine z_icmp_ge (pc := 58) (tgt := 125) dX10_setOrder_58 (by decide) ?_ ?_
    · exact z_vret (pc := 125) dX10_setOrder_125 rfl
    · refine z_aload_n (pc := 61) dX10_setOrder_61 rfl 0 rfl (z_getRl (pc := 62) fl_RX10_107 rfl dX10_setOrder_62 (fun o21 => (z_iload_n (pc := 65) dX10_setOrder_65 rfl 1 rfl (z_iconst (pc := 66) dX10_setOrder_66 ic_0 (?_)))))
      refine z_nn (fun a22 ea22 => ?_)
      subst ea22
      refine z_iastorel (pc := 67) dX10_setOrder_67 (fun h23 => (z_iconst (pc := 68) dX10_setOrder_68 ic_0 (z_istore_n (pc := 69) (L' := [(0, vr (some a18)), (2, vi x19), (3, vi 0)]) dX10_setOrder_69 rfl (Nat.le_of_ble_eq_true rfl) rfl (?_))))
      refine g_X10_setOrder_L70 F a18 x19 _ (fun h42 => ?_) F 0 h23
      refine z_iincl (pc := 119) (L' := fun x43 => [(0, vr (some a18)), (2, vi x43)]) dX10_setOrder_119 1 rfl ic_1 (Nat.le_of_ble_eq_true rfl) (fun _ => rfl) (fun x43 => (z_goto (pc := 122) (tgt := 53) dX10_setOrder_122 (by decide) (?_)))
      exact ih x43 h42
set_option maxRecDepth 20000 in
set_option maxHeartbeats 4000000 in
theorem t_X10_setOrder (F : Nat) (a0 : Nat) (x1 : Int32) (h0 : z_Hp) : z_Ct zv mi_X10_setOrder [vr (some a0), vi x1] h0 (c_X10_setOrder F a0 x1 h0) := by
  refine z_entry (by decide) (Nat.le_of_ble_eq_true rfl) [(0, vr (some a0)), (1, vi x1)] rfl ?_
  unfold c_X10_setOrder
  refine z_aload_n (pc := 0) dX10_setOrder_0 rfl 0 rfl (z_iconst (pc := 1) dX10_setOrder_1 ic_0 (z_putIl (pc := 2) fl_RX10_306 (fin_X_10_39 _) rfl dX10_setOrder_2 (fun h2 => (z_iconst (pc := 5) dX10_setOrder_5 ic_0 (z_istore_n (pc := 6) (L' := [(0, vr (some a0)), (1, vi x1), (2, vi 0)]) dX10_setOrder_6 rfl (Nat.le_of_ble_eq_true rfl) rfl (?_))))))
  refine g_X10_setOrder_L7 F a0 x1 _ (fun h17 => ?_) F 0 h2
  refine z_iconst (pc := 51) dX10_setOrder_51 ic_0 (z_istore_n (pc := 52) (L' := [(0, vr (some a0)), (2, vi 0)]) dX10_setOrder_52 rfl (Nat.le_of_ble_eq_true rfl) rfl (?_))
  refine g_X10_setOrder_L53 F a0 F 0 h17
theorem dX10_ordersOf_0 : decode cX10_ordersOf 0 = .ok (.iconst 0, 1) := by decide +kernel
theorem dX10_ordersOf_1 : decode cX10_ordersOf 1 = .ok (.istore_n 1, 1) := by decide +kernel
theorem dX10_ordersOf_2 : decode cX10_ordersOf 2 = .ok (.iload_n 1, 1) := by decide +kernel
theorem dX10_ordersOf_3 : decode cX10_ordersOf 3 = .ok (.iconst 1, 1) := by decide +kernel
theorem dX10_ordersOf_4 : decode cX10_ordersOf 4 = .ok (.aload_n 0, 1) := by decide +kernel
theorem dX10_ordersOf_5 : decode cX10_ordersOf 5 = .ok (.getfield 306, 3) := by decide +kernel
theorem dX10_ordersOf_8 : decode cX10_ordersOf 8 = .ok (.ishl, 1) := by decide +kernel
theorem dX10_ordersOf_9 : decode cX10_ordersOf 9 = .ok (.if_icmp .ge 88, 3) := by decide +kernel
theorem dX10_ordersOf_12 : decode cX10_ordersOf 12 = .ok (.aload_n 0, 1) := by decide +kernel
theorem dX10_ordersOf_13 : decode cX10_ordersOf 13 = .ok (.getfield 110, 3) := by decide +kernel
theorem dX10_ordersOf_16 : decode cX10_ordersOf 16 = .ok (.iload_n 1, 1) := by decide +kernel
theorem dX10_ordersOf_17 : decode cX10_ordersOf 17 = .ok (.iload_n 1, 1) := by decide +kernel
theorem dX10_ordersOf_18 : decode cX10_ordersOf 18 = .ok (.ifCond .ne 7, 3) := by decide +kernel
theorem dX10_ordersOf_21 : decode cX10_ordersOf 21 = .ok (.lconst 1, 1) := by decide +kernel
theorem dX10_ordersOf_22 : decode cX10_ordersOf 22 = .ok (.goto 4, 3) := by decide +kernel
theorem dX10_ordersOf_25 : decode cX10_ordersOf 25 = .ok (.lconst 0, 1) := by decide +kernel
theorem dX10_ordersOf_26 : decode cX10_ordersOf 26 = .ok (.lastore, 1) := by decide +kernel
theorem dX10_ordersOf_27 : decode cX10_ordersOf 27 = .ok (.iconst 0, 1) := by decide +kernel
theorem dX10_ordersOf_28 : decode cX10_ordersOf 28 = .ok (.istore_n 2, 1) := by decide +kernel
theorem dX10_ordersOf_29 : decode cX10_ordersOf 29 = .ok (.iload_n 2, 1) := by decide +kernel
theorem dX10_ordersOf_30 : decode cX10_ordersOf 30 = .ok (.aload_n 0, 1) := by decide +kernel
theorem dX10_ordersOf_31 : decode cX10_ordersOf 31 = .ok (.getfield 306, 3) := by decide +kernel
theorem dX10_ordersOf_34 : decode cX10_ordersOf 34 = .ok (.if_icmp .ge 57, 3) := by decide +kernel
theorem dX10_ordersOf_37 : decode cX10_ordersOf 37 = .ok (.iload_n 1, 1) := by decide +kernel
theorem dX10_ordersOf_38 : decode cX10_ordersOf 38 = .ok (.iconst 1, 1) := by decide +kernel
theorem dX10_ordersOf_39 : decode cX10_ordersOf 39 = .ok (.iload_n 2, 1) := by decide +kernel
theorem dX10_ordersOf_40 : decode cX10_ordersOf 40 = .ok (.ishl, 1) := by decide +kernel
theorem dX10_ordersOf_41 : decode cX10_ordersOf 41 = .ok (.iconst (-1), 1) := by decide +kernel
theorem dX10_ordersOf_42 : decode cX10_ordersOf 42 = .ok (.ixor, 1) := by decide +kernel
theorem dX10_ordersOf_43 : decode cX10_ordersOf 43 = .ok (.iand, 1) := by decide +kernel
theorem dX10_ordersOf_44 : decode cX10_ordersOf 44 = .ok (.istore_n 3, 1) := by decide +kernel
theorem dX10_ordersOf_45 : decode cX10_ordersOf 45 = .ok (.aload_n 0, 1) := by decide +kernel
theorem dX10_ordersOf_46 : decode cX10_ordersOf 46 = .ok (.getfield 110, 3) := by decide +kernel
theorem dX10_ordersOf_49 : decode cX10_ordersOf 49 = .ok (.iload_n 1, 1) := by decide +kernel
theorem dX10_ordersOf_50 : decode cX10_ordersOf 50 = .ok (.dup2, 1) := by decide +kernel
theorem dX10_ordersOf_51 : decode cX10_ordersOf 51 = .ok (.laload, 1) := by decide +kernel
theorem dX10_ordersOf_52 : decode cX10_ordersOf 52 = .ok (.iload_n 1, 1) := by decide +kernel
theorem dX10_ordersOf_53 : decode cX10_ordersOf 53 = .ok (.iload_n 2, 1) := by decide +kernel
theorem dX10_ordersOf_54 : decode cX10_ordersOf 54 = .ok (.invokestatic 312, 3) := by decide +kernel
theorem dX10_ordersOf_57 : decode cX10_ordersOf 57 = .ok (.ifCond .eq 25, 3) := by decide +kernel
theorem dX10_ordersOf_60 : decode cX10_ordersOf 60 = .ok (.aload_n 0, 1) := by decide +kernel
theorem dX10_ordersOf_61 : decode cX10_ordersOf 61 = .ok (.getfield 107, 3) := by decide +kernel
theorem dX10_ordersOf_64 : decode cX10_ordersOf 64 = .ok (.iload_n 2, 1) := by decide +kernel
theorem dX10_ordersOf_65 : decode cX10_ordersOf 65 = .ok (.iaload, 1) := by decide +kernel
theorem dX10_ordersOf_66 : decode cX10_ordersOf 66 = .ok (.iload_n 3, 1) := by decide +kernel
theorem dX10_ordersOf_67 : decode cX10_ordersOf 67 = .ok (.iconst (-1), 1) := by decide +kernel
theorem dX10_ordersOf_68 : decode cX10_ordersOf 68 = .ok (.ixor, 1) := by decide +kernel
theorem dX10_ordersOf_69 : decode cX10_ordersOf 69 = .ok (.iand, 1) := by decide +kernel
theorem dX10_ordersOf_70 : decode cX10_ordersOf 70 = .ok (.ifCond .ne 12, 3) := by decide +kernel
theorem dX10_ordersOf_73 : decode cX10_ordersOf 73 = .ok (.aload_n 0, 1) := by decide +kernel
theorem dX10_ordersOf_74 : decode cX10_ordersOf 74 = .ok (.getfield 110, 3) := by decide +kernel
theorem dX10_ordersOf_77 : decode cX10_ordersOf 77 = .ok (.iload_n 3, 1) := by decide +kernel
theorem dX10_ordersOf_78 : decode cX10_ordersOf 78 = .ok (.laload, 1) := by decide +kernel
theorem dX10_ordersOf_79 : decode cX10_ordersOf 79 = .ok (.goto 4, 3) := by decide +kernel
theorem dX10_ordersOf_82 : decode cX10_ordersOf 82 = .ok (.lconst 0, 1) := by decide +kernel
theorem dX10_ordersOf_83 : decode cX10_ordersOf 83 = .ok (.ladd, 1) := by decide +kernel
theorem dX10_ordersOf_84 : decode cX10_ordersOf 84 = .ok (.lastore, 1) := by decide +kernel
theorem dX10_ordersOf_85 : decode cX10_ordersOf 85 = .ok (.iinc 2 1, 3) := by decide +kernel
theorem dX10_ordersOf_88 : decode cX10_ordersOf 88 = .ok (.goto (-59), 3) := by decide +kernel
theorem dX10_ordersOf_91 : decode cX10_ordersOf 91 = .ok (.iinc 1 1, 3) := by decide +kernel
theorem dX10_ordersOf_94 : decode cX10_ordersOf 94 = .ok (.goto (-92), 3) := by decide +kernel
theorem dX10_ordersOf_97 : decode cX10_ordersOf 97 = .ok (.aload_n 0, 1) := by decide +kernel
theorem dX10_ordersOf_98 : decode cX10_ordersOf 98 = .ok (.getfield 110, 3) := by decide +kernel
theorem dX10_ordersOf_101 : decode cX10_ordersOf 101 = .ok (.iconst 1, 1) := by decide +kernel
theorem dX10_ordersOf_102 : decode cX10_ordersOf 102 = .ok (.aload_n 0, 1) := by decide +kernel
theorem dX10_ordersOf_103 : decode cX10_ordersOf 103 = .ok (.getfield 306, 3) := by decide +kernel
theorem dX10_ordersOf_106 : decode cX10_ordersOf 106 = .ok (.ishl, 1) := by decide +kernel
theorem dX10_ordersOf_107 : decode cX10_ordersOf 107 = .ok (.iconst 1, 1) := by decide +kernel
theorem dX10_ordersOf_108 : decode cX10_ordersOf 108 = .ok (.isub, 1) := by decide +kernel
theorem dX10_ordersOf_109 : decode cX10_ordersOf 109 = .ok (.laload, 1) := by decide +kernel
theorem dX10_ordersOf_110 : decode cX10_ordersOf 110 = .ok (.lreturn, 1) := by decide +kernel
def c_X10_ordersOf_L29 (F : Nat) (a11 : Nat) (x12 : Int32) (k91 : z_Hp → Option (Int64 × z_Hp)) : Nat → Int32 → z_Hp → Option (Int64 × z_Hp)
  | 0, _, _ => none
  | n + 1, x13, h14 => (if hT h14 a11 = 10 then (if (hI h14 a11 39) ≤ x13 then (k91 h14) else (lt_ (x12 &&& ((1 <<< (x13 &&& 31)) ^^^ (-1))) (fun x16 => (if hT h14 a11 = 10 then (lt_ (hR h14 a11 42) (fun o17 => (nn o17 (fun a18 => (if okA h14 a18 22 x12 = true then (bI (c_X10_has F x12 x13 h14) (fun x20 h19 => (lt_ (fun (y22 : Int64) (h23 : z_Hp) => (if okA h23 a18 22 x12 = true then (lt_ (sJ h23 a18 (ix x12) ((hJ h14 a18 (ix x12)) + y22)) (fun h24 => (lt_ (x13 + 1) (fun x25 => (c_X10_ordersOf_L29 F a11 x12 k91 n x25 h24))))) else none)) (fun (j83_21 : Int64 → z_Hp → Option (Int64 × z_Hp)) => (lt_ (fun (h27 : z_Hp) => (j83_21 0 h27)) (fun (j82_26 : z_Hp → Option (Int64 × z_Hp)) => (if x20 = 0 then (j82_26 h19) else (if hT h19 a11 = 10 then (lt_ (hR h19 a11 41) (fun o28 => (nn o28 (fun a29 => (if okA h19 a29 20 x13 = true then (if ((hI h19 a29 (ix x13)) &&& (x16 ^^^ (-1))) = 0 then (if hT h19 a11 = 10 then (lt_ (hR h19 a11 42) (fun o30 => (nn o30 (fun a31 => (if okA h19 a31 22 x16 = true then (j83_21 (hJ h19 a31 (ix x16)) h19) else none))))) else none) else (j82_26 h19)) else none))))) else none)))))))) else none))))) else none)))) else none)
def c_X10_ordersOf_L2 (F : Nat) (a1 : Nat) (k97 : z_Hp → Option (Int64 × z_Hp)) : Nat → Int32 → z_Hp → Option (Int64 × z_Hp)
  | 0, _, _ => none
  | n + 1, x2, h3 => (if hT h3 a1 = 10 then (if (1 <<< ((hI h3 a1 39) &&& 31)) ≤ x2 then (k97 h3) else (if hT h3 a1 = 10 then (lt_ (hR h3 a1 42) (fun o5 => (lt_ (fun (y7 : Int64) (h8 : z_Hp) => (nn o5 (fun a9 => (if okA h8 a9 22 x2 = true then (lt_ (sJ h8 a9 (ix x2) y7) (fun h10 => (c_X10_ordersOf_L29 F a1 x2 (fun h32 => (lt_ (x2 + 1) (fun x33 => (c_X10_ordersOf_L2 F a1 k97 n x33 h32)))) F 0 h10))) else none)))) (fun (j26_6 : Int64 → z_Hp → Option (Int64 × z_Hp)) => (if x2 = 0 then (j26_6 1 h3) else (j26_6 0 h3)))))) else none)) else none)
def c_X10_ordersOf (F : Nat) (a0 : Nat) (h0 : z_Hp) : Option (Int64 × z_Hp) := (c_X10_ordersOf_L2 F a0 (fun h34 => (if hT h34 a0 = 10 then (lt_ (hR h34 a0 42) (fun o35 => (if hT h34 a0 = 10 then (nn o35 (fun a36 => (if okA h34 a36 22 ((1 <<< ((hI h34 a0 39) &&& 31)) - 1) = true then (some (hJ h34 a36 (ix ((1 <<< ((hI h34 a0 39) &&& 31)) - 1)), h34)) else none))) else none))) else none)) F 0 h0)
set_option maxRecDepth 20000 in
set_option maxHeartbeats 4000000 in
theorem g_X10_ordersOf_L29 (F : Nat) (a11 : Nat) (x12 : Int32) (k91 : z_Hp → Option (Int64 × z_Hp)) (qk91 : ∀ (h15 : z_Hp), z_G zl mi_X10_ordersOf 91 [(0, vr (some a11)), (1, vi x12)] [] h15 (k91 h15)) : ∀ (n : Nat) (x13 : Int32) (h14 : z_Hp), z_G zl mi_X10_ordersOf 29 [(0, vr (some a11)), (1, vi x12), (2, vi x13)] [] h14 (c_X10_ordersOf_L29 F a11 x12 k91 n x13 h14) := by
  intro n
  induction n with
  | zero => intro x13 h14; rw [c_X10_ordersOf_L29]; exact z_none
  | succ n ih =>
    intro x13 h14
    rw [c_X10_ordersOf_L29]
    refine z_iload_n (pc := 29) dX10_ordersOf_29 rfl 2 rfl (z_aload_n (pc := 30) dX10_ordersOf_30 rfl 0 rfl (z_getI (pc := 31) fl_RX10_306 rfl dX10_ordersOf_31 (?_)))
    refine z_icmp_ge (pc := 34) (tgt := 91) dX10_ordersOf_34 (by decide) ?_ ?_
    · exact z_sub [0, 1] rfl (qk91 h14)
    · refine z_iload_n (pc := 37) dX10_ordersOf_37 rfl 1 rfl (z_iconst (pc := 38) dX10_ordersOf_38 ic_1 (z_iload_n (pc := 39) dX10_ordersOf_39 rfl 2 rfl (z_ishl (pc := 40) dX10_ordersOf_40 (z_iconst (pc := 41) dX10_ordersOf_41 ic_m1 (z_ixor (pc := 42) dX10_ordersOf_42 (z_iand (pc := 43) dX10_ordersOf_43 (z_istorel_n (pc := 44) (L' := fun x16 => [(0, vr (some a11)), (1, vi x12), (2, vi x13), (3, vi x16)]) dX10_ordersOf_44 rfl (Nat.le_of_ble_eq_true rfl) (fun _ => rfl) (fun x16 => (?_)))))))))
      refine z_aload_n (pc := 45) dX10_ordersOf_45 rfl 0 rfl (z_getRl (pc := 46) fl_RX10_110 rfl dX10_ordersOf_46 (fun o17 => (z_iload_n (pc := 49) dX10_ordersOf_49 rfl 1 rfl (z_dup2 (pc := 50) dX10_ordersOf_50 rfl rfl (?_)))))
      refine z_nn (fun a18 ea18 => ?_)
      subst ea18
      refine z_laload (pc := 51) dX10_ordersOf_51 (z_iload_n (pc := 52) dX10_ordersOf_52 rfl 1 rfl (z_iload_n (pc := 53) dX10_ordersOf_53 rfl 2 rfl (z_callS_I (pc := 54) (avs := [vi x12, vi x13]) (st := [vl (hJ h14 a18 (ix x12)), vi x12, vr (some a18)]) rfl (t_X10_has F x12 x13 h14) ky_X10_has ws_X10_has wz_RX10_312 (rm_X10_ordersOf_X10_has) (Nat.le_of_ble_eq_true rfl) dX10_ordersOf_54 (fun x20 h19 => (?_)))))
      refine z_jn (P := fun (j : Int64 → z_Hp → Option (Int64 × z_Hp)) => ∀ (y22 : Int64) (h23 : z_Hp), z_G zl mi_X10_ordersOf 83 [(0, vr (some a11)), (1, vi x12), (2, vi x13)] [vl y22, vl (hJ h14 a18 (ix x12)), vi x12, vr (some a18)] h23 (j y22 h23)) (fun y22 h23 => ?_) (fun j83_21 qj83_21 => ?_)
      · refine z_ladd (pc := 83) dX10_ordersOf_83 (z_lastorel (pc := 84) dX10_ordersOf_84 (fun h24 => (z_iincl (pc := 85) (L' := fun x25 => [(0, vr (some a11)), (1, vi x12), (2, vi x25)]) dX10_ordersOf_85 2 rfl ic_1 (Nat.le_of_ble_eq_true rfl) (fun _ => rfl) (fun x25 => (z_goto (pc := 88) (tgt := 29) dX10_ordersOf_88 (by decide) (?_))))))
        exact ih x25 h24
      refine z_jn (P := fun (j : z_Hp → Option (Int64 × z_Hp)) => ∀ (h27 : z_Hp), z_G zl mi_X10_ordersOf 82 [(0, vr (some a11)), (1, vi x12), (2, vi x13)] [vl (hJ h14 a18 (ix x12)), vi x12, vr (some a18)] h27 (j h27)) (fun h27 => ?_) (fun j82_26 qj82_26 => ?_)
      · refine z_lconst (pc := 82) dX10_ordersOf_82 lc_0 (?_)
        exact qj83_21 0 h27
      refine z_if_eq (pc := 57) (tgt := 82) dX10_ordersOf_57 (by decide) ?_ ?_
      · exact z_sub [0, 1, 2] rfl (qj82_26 h19)
      · refine z_aload_n (pc := 60) dX10_ordersOf_60 rfl 0 rfl (z_getRl (pc := 61) fl_RX10_107 rfl dX10_ordersOf_61 (fun o28 => (z_iload_n (pc := 64) dX10_ordersOf_64 rfl 2 rfl (?_))))
        refine z_nn (fun a29 ea29 => ?_)
        subst ea29
        refine z_iaload (pc := 65) dX10_ordersOf_65 (z_iload_n (pc := 66) dX10_ordersOf_66 rfl 3 rfl (z_iconst (pc := 67) dX10_ordersOf_67 ic_m1 (z_ixor (pc := 68) dX10_ordersOf_68 (z_iand (pc := 69) dX10_ordersOf_69 (?_)))))
        refine z_if_ne (pc := 70) (tgt := 82) dX10_ordersOf_70 (by decide) ?_ ?_
        · exact z_sub [0, 1, 2] rfl (qj82_26 h19)
        · refine z_aload_n (pc := 73) dX10_ordersOf_73 rfl 0 rfl (z_getRl (pc := 74) fl_RX10_110 rfl dX10_ordersOf_74 (fun o30 => (z_iload_n (pc := 77) dX10_ordersOf_77 rfl 3 rfl (?_))))
          refine z_nn (fun a31 ea31 => ?_)
          subst ea31
          refine z_laload (pc := 78) dX10_ordersOf_78 (z_goto (pc := 79) (tgt := 83) dX10_ordersOf_79 (by decide) (?_))
          exact z_sub [0, 1, 2] rfl (qj83_21 (hJ h19 a31 (ix x16)) h19)
set_option maxRecDepth 20000 in
set_option maxHeartbeats 4000000 in
theorem g_X10_ordersOf_L2 (F : Nat) (a1 : Nat) (k97 : z_Hp → Option (Int64 × z_Hp)) (qk97 : ∀ (h4 : z_Hp), z_G zl mi_X10_ordersOf 97 [(0, vr (some a1))] [] h4 (k97 h4)) : ∀ (n : Nat) (x2 : Int32) (h3 : z_Hp), z_G zl mi_X10_ordersOf 2 [(0, vr (some a1)), (1, vi x2)] [] h3 (c_X10_ordersOf_L2 F a1 k97 n x2 h3) := by
  intro n
  induction n with
  | zero => intro x2 h3; rw [c_X10_ordersOf_L2]; exact z_none
  | succ n ih =>
    intro x2 h3
    rw [c_X10_ordersOf_L2]
    refine z_iload_n (pc := 2) dX10_ordersOf_2 rfl 1 rfl (z_iconst (pc := 3) dX10_ordersOf_3 ic_1 (z_aload_n (pc := 4) dX10_ordersOf_4 rfl 0 rfl (z_getI (pc := 5) fl_RX10_306 rfl dX10_ordersOf_5 (z_ishl (pc := 8) dX10_ordersOf_8 (?_)))))
    refine z_icmp_ge (pc := 9) (tgt := 97) dX10_ordersOf_9 (by decide) ?_ ?_
    · exact z_sub [0] rfl (qk97 h3)
    · refine z_aload_n (pc := 12) dX10_ordersOf_12 rfl 0 rfl (z_getRl (pc := 13) fl_RX10_110 rfl dX10_ordersOf_13 (fun o5 => (z_iload_n (pc := 16) dX10_ordersOf_16 rfl 1 rfl (z_iload_n (pc := 17) dX10_ordersOf_17 rfl 1 rfl (?_)))))
      refine z_jn (P := fun (j : Int64 → z_Hp → Option (Int64 × z_Hp)) => ∀ (y7 : Int64) (h8 : z_Hp), z_G zl mi_X10_ordersOf 26 [(0, vr (some a1)), (1, vi x2)] [vl y7, vi x2, vr o5] h8 (j y7 h8)) (fun y7 h8 => ?_) (fun j26_6 qj26_6 => ?_)
      · refine z_nn (fun a9 ea9 => ?_)
        subst ea9
        refine z_lastorel (pc := 26) dX10_ordersOf_26 (fun h10 => (z_iconst (pc := 27) dX10_ordersOf_27 ic_0 (z_istore_n (pc := 28) (L' := [(0, vr (some a1)), (1, vi x2), (2, vi 0)]) dX10_ordersOf_28 rfl (Nat.le_of_ble_eq_true rfl) rfl (?_))))
        refine g_X10_ordersOf_L29 F a1 x2 _ (fun h32 => ?_) F 0 h10
        refine z_iincl (pc := 91) (L' := fun x33 => [(0, vr (some a1)), (1, vi x33)]) dX10_ordersOf_91 1 rfl ic_1 (Nat.le_of_ble_eq_true rfl) (fun _ => rfl) (fun x33 => (z_goto (pc := 94) (tgt := 2) dX10_ordersOf_94 (by decide) (?_)))
        exact ih x33 h32
      refine z_if_ne (pc := 18) (tgt := 25) dX10_ordersOf_18 (by decide) ?_ ?_
      · refine z_lconst (pc := 25) dX10_ordersOf_25 lc_0 (?_)
        exact qj26_6 0 h3
      · refine z_lconst (pc := 21) dX10_ordersOf_21 lc_1 (z_goto (pc := 22) (tgt := 26) dX10_ordersOf_22 (by decide) (?_))
        exact qj26_6 1 h3
set_option maxRecDepth 20000 in
set_option maxHeartbeats 4000000 in
theorem t_X10_ordersOf (F : Nat) (a0 : Nat) (h0 : z_Hp) : z_Ct zl mi_X10_ordersOf [vr (some a0)] h0 (c_X10_ordersOf F a0 h0) := by
  refine z_entry (by decide) (Nat.le_of_ble_eq_true rfl) [(0, vr (some a0))] rfl ?_
  unfold c_X10_ordersOf
  refine z_iconst (pc := 0) dX10_ordersOf_0 ic_0 (z_istore_n (pc := 1) (L' := [(0, vr (some a0)), (1, vi 0)]) dX10_ordersOf_1 rfl (Nat.le_of_ble_eq_true rfl) rfl (?_))
  refine g_X10_ordersOf_L2 F a0 _ (fun h34 => ?_) F 0 h0
  refine z_aload_n (pc := 97) dX10_ordersOf_97 rfl 0 rfl (z_getRl (pc := 98) fl_RX10_110 rfl dX10_ordersOf_98 (fun o35 => (z_iconst (pc := 101) dX10_ordersOf_101 ic_1 (z_aload_n (pc := 102) dX10_ordersOf_102 rfl 0 rfl (z_getI (pc := 103) fl_RX10_306 rfl dX10_ordersOf_103 (z_ishl (pc := 106) dX10_ordersOf_106 (z_iconst (pc := 107) dX10_ordersOf_107 ic_1 (z_isub (pc := 108) dX10_ordersOf_108 (?_)))))))))
  refine z_nn (fun a36 ea36 => ?_)
  subst ea36
  refine z_laload (pc := 109) dX10_ordersOf_109 (?_)
  exact z_lret (pc := 110) dX10_ordersOf_110 rfl
theorem dX10_orders_0 : decode cX10_orders 0 = .ok (.iload_n 1, 1) := by decide +kernel
theorem dX10_orders_1 : decode cX10_orders 1 = .ok (.iconst 0, 1) := by decide +kernel
theorem dX10_orders_2 : decode cX10_orders 2 = .ok (.iconst 5, 1) := by decide +kernel
theorem dX10_orders_3 : decode cX10_orders 3 = .ok (.invokestatic 166, 3) := by decide +kernel
theorem dX10_orders_6 : decode cX10_orders 6 = .ok (.ifCond .ne 5, 3) := by decide +kernel
theorem dX10_orders_9 : decode cX10_orders 9 = .ok (.iconst (-1), 1) := by decide +kernel
theorem dX10_orders_10 : decode cX10_orders 10 = .ok (.ireturn, 1) := by decide +kernel
theorem dX10_orders_11 : decode cX10_orders 11 = .ok (.aload_n 0, 1) := by decide +kernel
theorem dX10_orders_12 : decode cX10_orders 12 = .ok (.iload_n 1, 1) := by decide +kernel
theorem dX10_orders_13 : decode cX10_orders 13 = .ok (.invokevirtual 315, 3) := by decide +kernel
theorem dX10_orders_16 : decode cX10_orders 16 = .ok (.aload_n 0, 1) := by decide +kernel
theorem dX10_orders_17 : decode cX10_orders 17 = .ok (.getfield 306, 3) := by decide +kernel
theorem dX10_orders_20 : decode cX10_orders 20 = .ok (.bipush 12, 2) := by decide +kernel
theorem dX10_orders_22 : decode cX10_orders 22 = .ok (.if_icmp .le 6, 3) := by decide +kernel
theorem dX10_orders_25 : decode cX10_orders 25 = .ok (.bipush (-6), 2) := by decide +kernel
theorem dX10_orders_27 : decode cX10_orders 27 = .ok (.ireturn, 1) := by decide +kernel
theorem dX10_orders_28 : decode cX10_orders 28 = .ok (.aload_n 0, 1) := by decide +kernel
theorem dX10_orders_29 : decode cX10_orders 29 = .ok (.aload_n 0, 1) := by decide +kernel
theorem dX10_orders_30 : decode cX10_orders 30 = .ok (.invokevirtual 318, 3) := by decide +kernel
theorem dX10_orders_33 : decode cX10_orders 33 = .ok (.putfield 322, 3) := by decide +kernel
theorem dX10_orders_36 : decode cX10_orders 36 = .ok (.aload_n 0, 1) := by decide +kernel
theorem dX10_orders_37 : decode cX10_orders 37 = .ok (.getfield 306, 3) := by decide +kernel
theorem dX10_orders_40 : decode cX10_orders 40 = .ok (.ireturn, 1) := by decide +kernel
def c_X10_orders (F : Nat) (a0 : Nat) (x1 : Int32) (h0 : z_Hp) : Option (Int32 × z_Hp) := (bI (c_X10_in F x1 0 5 h0) (fun x3 h2 => (if x3 = 0 then (some ((-1), h2)) else (if hT h2 a0 = 10 then (bV (c_X10_setOrder F a0 x1 h2) (fun h4 => (if hT h4 a0 = 10 then (if (hI h4 a0 39) ≤ 12 then (if hT h4 a0 = 10 then (bL (c_X10_ordersOf F a0 h4) (fun y6 h5 => (if hT h5 a0 = 10 then (lt_ (sJ h5 a0 3 y6) (fun h7 => (if hT h7 a0 = 10 then (some (hI h7 a0 39, h7)) else none))) else none))) else none) else (some ((-6), h4))) else none))) else none))))
set_option maxRecDepth 20000 in
set_option maxHeartbeats 4000000 in
theorem t_X10_orders (F : Nat) (a0 : Nat) (x1 : Int32) (h0 : z_Hp) : z_Ct zi mi_X10_orders [vr (some a0), vi x1] h0 (c_X10_orders F a0 x1 h0) := by
  refine z_entry (by decide) (Nat.le_of_ble_eq_true rfl) [(0, vr (some a0)), (1, vi x1)] rfl ?_
  unfold c_X10_orders
  refine z_iload_n (pc := 0) dX10_orders_0 rfl 1 rfl (z_iconst (pc := 1) dX10_orders_1 ic_0 (z_iconst (pc := 2) dX10_orders_2 ic_5 (z_callS_I (pc := 3) (avs := [vi x1, vi 0, vi 5]) (st := []) rfl (t_X10_in F x1 0 5 h0) ky_X10_in ws_X10_in wz_RX10_166 (rm_X10_orders_X10_in) (Nat.le_of_ble_eq_true rfl) dX10_orders_3 (fun x3 h2 => (?_)))))
  refine z_if_ne (pc := 6) (tgt := 11) dX10_orders_6 (by decide) ?_ ?_
  · refine z_aload_n (pc := 11) dX10_orders_11 rfl 0 rfl (z_iload_n (pc := 12) dX10_orders_12 rfl 1 rfl (z_callV_V (pc := 13) (avs := [vi x1]) (st := []) rfl (q := (RX10, TX10, 62)) rfl rfl (t_X10_setOrder F a0 x1 h2) ky_X10_setOrder wm_X10_setOrder we_X10_setOrder wz_RX10_315 (rm_X10_orders_X10_setOrder) (Nat.le_of_ble_eq_true rfl) dX10_orders_13 (fun h4 => (?_))))
    refine z_aload_n (pc := 16) dX10_orders_16 rfl 0 rfl (z_getI (pc := 17) fl_RX10_306 rfl dX10_orders_17 (z_bipush (pc := 20) dX10_orders_20 bp_12 (?_)))
    refine z_icmp_le (pc := 22) (tgt := 28) dX10_orders_22 (by decide) ?_ ?_
    · refine z_aload_n (pc := 28) dX10_orders_28 rfl 0 rfl (z_aload_n (pc := 29) dX10_orders_29 rfl 0 rfl (z_callV_L (pc := 30) (avs := []) (st := [vr (some a0)]) rfl (q := (RX10, TX10, 62)) rfl rfl (t_X10_ordersOf F a0 h4) ky_X10_ordersOf wm_X10_ordersOf we_X10_ordersOf wz_RX10_318 (rm_X10_orders_X10_ordersOf) (Nat.le_of_ble_eq_true rfl) dX10_orders_30 (fun y6 h5 => (?_))))
      refine z_putJl (pc := 33) fl_RX10_322 (fin_X_10_3 _) rfl dX10_orders_33 (fun h7 => (z_aload_n (pc := 36) dX10_orders_36 rfl 0 rfl (z_getI (pc := 37) fl_RX10_306 rfl dX10_orders_37 (?_))))
      exact z_iret (pc := 40) dX10_orders_40 rfl rfl
    · refine z_bipush (pc := 25) dX10_orders_25 bp_m6 (?_)
      exact z_iret (pc := 27) dX10_orders_27 rfl rfl
  · refine z_iconst (pc := 9) dX10_orders_9 ic_m1 (?_)
    exact z_iret (pc := 10) dX10_orders_10 rfl rfl
theorem dX10_standsAhead_0 : decode cX10_standsAhead 0 = .ok (.aload_n 0, 1) := by decide +kernel
theorem dX10_standsAhead_1 : decode cX10_standsAhead 1 = .ok (.iload_n 1, 1) := by decide +kernel
theorem dX10_standsAhead_2 : decode cX10_standsAhead 2 = .ok (.invokevirtual 265, 3) := by decide +kernel
theorem dX10_standsAhead_5 : decode cX10_standsAhead 5 = .ok (.ifCond .eq 16, 3) := by decide +kernel
theorem dX10_standsAhead_8 : decode cX10_standsAhead 8 = .ok (.aload_n 0, 1) := by decide +kernel
theorem dX10_standsAhead_9 : decode cX10_standsAhead 9 = .ok (.iload_n 2, 1) := by decide +kernel
theorem dX10_standsAhead_10 : decode cX10_standsAhead 10 = .ok (.invokevirtual 265, 3) := by decide +kernel
theorem dX10_standsAhead_13 : decode cX10_standsAhead 13 = .ok (.ifCond .eq 8, 3) := by decide +kernel
theorem dX10_standsAhead_16 : decode cX10_standsAhead 16 = .ok (.iload_n 1, 1) := by decide +kernel
theorem dX10_standsAhead_17 : decode cX10_standsAhead 17 = .ok (.iload_n 2, 1) := by decide +kernel
theorem dX10_standsAhead_18 : decode cX10_standsAhead 18 = .ok (.if_icmp .ne 5, 3) := by decide +kernel
theorem dX10_standsAhead_21 : decode cX10_standsAhead 21 = .ok (.iconst (-1), 1) := by decide +kernel
theorem dX10_standsAhead_22 : decode cX10_standsAhead 22 = .ok (.ireturn, 1) := by decide +kernel
theorem dX10_standsAhead_23 : decode cX10_standsAhead 23 = .ok (.aload_n 0, 1) := by decide +kernel
theorem dX10_standsAhead_24 : decode cX10_standsAhead 24 = .ok (.getfield 77, 3) := by decide +kernel
theorem dX10_standsAhead_27 : decode cX10_standsAhead 27 = .ok (.iload_n 1, 1) := by decide +kernel
theorem dX10_standsAhead_28 : decode cX10_standsAhead 28 = .ok (.iaload, 1) := by decide +kernel
theorem dX10_standsAhead_29 : decode cX10_standsAhead 29 = .ok (.bipush (-9), 2) := by decide +kernel
theorem dX10_standsAhead_31 : decode cX10_standsAhead 31 = .ok (.if_icmp .eq 18, 3) := by decide +kernel
theorem dX10_standsAhead_34 : decode cX10_standsAhead 34 = .ok (.aload_n 0, 1) := by decide +kernel
theorem dX10_standsAhead_35 : decode cX10_standsAhead 35 = .ok (.getfield 77, 3) := by decide +kernel
theorem dX10_standsAhead_38 : decode cX10_standsAhead 38 = .ok (.iload_n 1, 1) := by decide +kernel
theorem dX10_standsAhead_39 : decode cX10_standsAhead 39 = .ok (.iaload, 1) := by decide +kernel
theorem dX10_standsAhead_40 : decode cX10_standsAhead 40 = .ok (.aload_n 0, 1) := by decide +kernel
theorem dX10_standsAhead_41 : decode cX10_standsAhead 41 = .ok (.getfield 77, 3) := by decide +kernel
theorem dX10_standsAhead_44 : decode cX10_standsAhead 44 = .ok (.iload_n 2, 1) := by decide +kernel
theorem dX10_standsAhead_45 : decode cX10_standsAhead 45 = .ok (.iaload, 1) := by decide +kernel
theorem dX10_standsAhead_46 : decode cX10_standsAhead 46 = .ok (.if_icmp .eq 9, 3) := by decide +kernel
theorem dX10_standsAhead_49 : decode cX10_standsAhead 49 = .ok (.aload_n 0, 1) := by decide +kernel
theorem dX10_standsAhead_50 : decode cX10_standsAhead 50 = .ok (.iconst 3, 1) := by decide +kernel
theorem dX10_standsAhead_51 : decode cX10_standsAhead 51 = .ok (.invokevirtual 174, 3) := by decide +kernel
theorem dX10_standsAhead_54 : decode cX10_standsAhead 54 = .ok (.ireturn, 1) := by decide +kernel
theorem dX10_standsAhead_55 : decode cX10_standsAhead 55 = .ok (.aload_n 0, 1) := by decide +kernel
theorem dX10_standsAhead_56 : decode cX10_standsAhead 56 = .ok (.aload_n 0, 1) := by decide +kernel
theorem dX10_standsAhead_57 : decode cX10_standsAhead 57 = .ok (.getfield 77, 3) := by decide +kernel
theorem dX10_standsAhead_60 : decode cX10_standsAhead 60 = .ok (.iload_n 1, 1) := by decide +kernel
theorem dX10_standsAhead_61 : decode cX10_standsAhead 61 = .ok (.iaload, 1) := by decide +kernel
theorem dX10_standsAhead_62 : decode cX10_standsAhead 62 = .ok (.invokevirtual 315, 3) := by decide +kernel
theorem dX10_standsAhead_65 : decode cX10_standsAhead 65 = .ok (.aload_n 0, 1) := by decide +kernel
theorem dX10_standsAhead_66 : decode cX10_standsAhead 66 = .ok (.getfield 306, 3) := by decide +kernel
theorem dX10_standsAhead_69 : decode cX10_standsAhead 69 = .ok (.bipush 12, 2) := by decide +kernel
theorem dX10_standsAhead_71 : decode cX10_standsAhead 71 = .ok (.if_icmp .le 6, 3) := by decide +kernel
theorem dX10_standsAhead_74 : decode cX10_standsAhead 74 = .ok (.bipush (-6), 2) := by decide +kernel
theorem dX10_standsAhead_76 : decode cX10_standsAhead 76 = .ok (.ireturn, 1) := by decide +kernel
theorem dX10_standsAhead_77 : decode cX10_standsAhead 77 = .ok (.iconst 0, 1) := by decide +kernel
theorem dX10_standsAhead_78 : decode cX10_standsAhead 78 = .ok (.istore_n 3, 1) := by decide +kernel
theorem dX10_standsAhead_79 : decode cX10_standsAhead 79 = .ok (.iconst 0, 1) := by decide +kernel
theorem dX10_standsAhead_80 : decode cX10_standsAhead 80 = .ok (.istore 4, 2) := by decide +kernel
theorem dX10_standsAhead_82 : decode cX10_standsAhead 82 = .ok (.iconst 0, 1) := by decide +kernel
theorem dX10_standsAhead_83 : decode cX10_standsAhead 83 = .ok (.istore 5, 2) := by decide +kernel
theorem dX10_standsAhead_85 : decode cX10_standsAhead 85 = .ok (.iload 5, 2) := by decide +kernel
theorem dX10_standsAhead_87 : decode cX10_standsAhead 87 = .ok (.aload_n 0, 1) := by decide +kernel
theorem dX10_standsAhead_88 : decode cX10_standsAhead 88 = .ok (.getfield 306, 3) := by decide +kernel
theorem dX10_standsAhead_91 : decode cX10_standsAhead 91 = .ok (.if_icmp .ge 47, 3) := by decide +kernel
theorem dX10_standsAhead_94 : decode cX10_standsAhead 94 = .ok (.aload_n 0, 1) := by decide +kernel
theorem dX10_standsAhead_95 : decode cX10_standsAhead 95 = .ok (.getfield 104, 3) := by decide +kernel
theorem dX10_standsAhead_98 : decode cX10_standsAhead 98 = .ok (.iload 5, 2) := by decide +kernel
theorem dX10_standsAhead_100 : decode cX10_standsAhead 100 = .ok (.iaload, 1) := by decide +kernel
theorem dX10_standsAhead_101 : decode cX10_standsAhead 101 = .ok (.iload_n 1, 1) := by decide +kernel
theorem dX10_standsAhead_102 : decode cX10_standsAhead 102 = .ok (.if_icmp .ne 8, 3) := by decide +kernel
theorem dX10_standsAhead_105 : decode cX10_standsAhead 105 = .ok (.iload 5, 2) := by decide +kernel
theorem dX10_standsAhead_107 : decode cX10_standsAhead 107 = .ok (.goto 4, 3) := by decide +kernel
theorem dX10_standsAhead_110 : decode cX10_standsAhead 110 = .ok (.iload_n 3, 1) := by decide +kernel
theorem dX10_standsAhead_111 : decode cX10_standsAhead 111 = .ok (.istore_n 3, 1) := by decide +kernel
theorem dX10_standsAhead_112 : decode cX10_standsAhead 112 = .ok (.aload_n 0, 1) := by decide +kernel
theorem dX10_standsAhead_113 : decode cX10_standsAhead 113 = .ok (.getfield 104, 3) := by decide +kernel
theorem dX10_standsAhead_116 : decode cX10_standsAhead 116 = .ok (.iload 5, 2) := by decide +kernel
theorem dX10_standsAhead_118 : decode cX10_standsAhead 118 = .ok (.iaload, 1) := by decide +kernel
theorem dX10_standsAhead_119 : decode cX10_standsAhead 119 = .ok (.iload_n 2, 1) := by decide +kernel
theorem dX10_standsAhead_120 : decode cX10_standsAhead 120 = .ok (.if_icmp .ne 8, 3) := by decide +kernel
theorem dX10_standsAhead_123 : decode cX10_standsAhead 123 = .ok (.iload 5, 2) := by decide +kernel
theorem dX10_standsAhead_125 : decode cX10_standsAhead 125 = .ok (.goto 5, 3) := by decide +kernel
theorem dX10_standsAhead_128 : decode cX10_standsAhead 128 = .ok (.iload 4, 2) := by decide +kernel
theorem dX10_standsAhead_130 : decode cX10_standsAhead 130 = .ok (.istore 4, 2) := by decide +kernel
theorem dX10_standsAhead_132 : decode cX10_standsAhead 132 = .ok (.iinc 5 1, 3) := by decide +kernel
theorem dX10_standsAhead_135 : decode cX10_standsAhead 135 = .ok (.goto (-50), 3) := by decide +kernel
theorem dX10_standsAhead_138 : decode cX10_standsAhead 138 = .ok (.aload_n 0, 1) := by decide +kernel
theorem dX10_standsAhead_139 : decode cX10_standsAhead 139 = .ok (.getfield 107, 3) := by decide +kernel
theorem dX10_standsAhead_142 : decode cX10_standsAhead 142 = .ok (.iload 4, 2) := by decide +kernel
theorem dX10_standsAhead_144 : decode cX10_standsAhead 144 = .ok (.dup2, 1) := by decide +kernel
theorem dX10_standsAhead_145 : decode cX10_standsAhead 145 = .ok (.iaload, 1) := by decide +kernel
theorem dX10_standsAhead_146 : decode cX10_standsAhead 146 = .ok (.iconst 1, 1) := by decide +kernel
theorem dX10_standsAhead_147 : decode cX10_standsAhead 147 = .ok (.iload_n 3, 1) := by decide +kernel
theorem dX10_standsAhead_148 : decode cX10_standsAhead 148 = .ok (.ishl, 1) := by decide +kernel
theorem dX10_standsAhead_149 : decode cX10_standsAhead 149 = .ok (.ior, 1) := by decide +kernel
theorem dX10_standsAhead_150 : decode cX10_standsAhead 150 = .ok (.iastore, 1) := by decide +kernel
theorem dX10_standsAhead_151 : decode cX10_standsAhead 151 = .ok (.aload_n 0, 1) := by decide +kernel
theorem dX10_standsAhead_152 : decode cX10_standsAhead 152 = .ok (.aload_n 0, 1) := by decide +kernel
theorem dX10_standsAhead_153 : decode cX10_standsAhead 153 = .ok (.invokevirtual 318, 3) := by decide +kernel
theorem dX10_standsAhead_156 : decode cX10_standsAhead 156 = .ok (.putfield 322, 3) := by decide +kernel
theorem dX10_standsAhead_159 : decode cX10_standsAhead 159 = .ok (.iconst 1, 1) := by decide +kernel
theorem dX10_standsAhead_160 : decode cX10_standsAhead 160 = .ok (.ireturn, 1) := by decide +kernel
def c_X10_standsAhead_L85 (F : Nat) (a20 : Nat) (x21 : Int32) (x22 : Int32) (k138 : Int32 → Int32 → z_Hp → Option (Int32 × z_Hp)) : Nat → Int32 → Int32 → Int32 → z_Hp → Option (Int32 × z_Hp)
  | 0, _, _, _, _ => none
  | n + 1, x23, x24, x25, h26 => (if hT h26 a20 = 10 then (if (hI h26 a20 39) ≤ x25 then (k138 x23 x24 h26) else (if hT h26 a20 = 10 then (lt_ (hR h26 a20 40) (fun o30 => (nn o30 (fun a31 => (if okA h26 a31 20 x25 = true then (lt_ (fun (x33 : Int32) (h34 : z_Hp) => (if hT h34 a20 = 10 then (lt_ (hR h34 a20 40) (fun o35 => (nn o35 (fun a36 => (if okA h34 a36 20 x25 = true then (lt_ (fun (x38 : Int32) (h39 : z_Hp) => (lt_ (x25 + 1) (fun x40 => (c_X10_standsAhead_L85 F a20 x21 x22 k138 n x33 x38 x40 h39)))) (fun (j130_37 : Int32 → z_Hp → Option (Int32 × z_Hp)) => (if (hI h34 a36 (ix x25)) = x22 then (j130_37 x25 h34) else (j130_37 x24 h34)))) else none))))) else none)) (fun (j111_32 : Int32 → z_Hp → Option (Int32 × z_Hp)) => (if (hI h26 a31 (ix x25)) = x21 then (j111_32 x25 h26) else (j111_32 x23 h26)))) else none))))) else none)) else none)
def c_X10_standsAhead (F : Nat) (a0 : Nat) (x1 : Int32) (x2 : Int32) (h0 : z_Hp) : Option (Int32 × z_Hp) := (if hT h0 a0 = 10 then (bI (c_X10_isSheet F a0 x1 h0) (fun x4 h3 => (if x4 = 0 then (some ((-1), h3)) else (if hT h3 a0 = 10 then (bI (c_X10_isSheet F a0 x2 h3) (fun x6 h5 => (if x6 = 0 then (some ((-1), h5)) else (if x1 = x2 then (some ((-1), h5)) else (if hT h5 a0 = 10 then (lt_ (hR h5 a0 30) (fun o7 => (nn o7 (fun a8 => (if okA h5 a8 20 x1 = true then (lt_ (fun (h10 : z_Hp) => (if hT h10 a0 = 10 then (bI (c_X10_meets F a0 3 h10) (fun x12 h11 => (some (x12, h11)))) else none)) (fun (j49_9 : z_Hp → Option (Int32 × z_Hp)) => (if (hI h5 a8 (ix x1)) = (-9) then (j49_9 h5) else (if hT h5 a0 = 10 then (lt_ (hR h5 a0 30) (fun o13 => (nn o13 (fun a14 => (if okA h5 a14 20 x1 = true then (if hT h5 a0 = 10 then (lt_ (hR h5 a0 30) (fun o15 => (nn o15 (fun a16 => (if okA h5 a16 20 x2 = true then (if (hI h5 a14 (ix x1)) = (hI h5 a16 (ix x2)) then (if hT h5 a0 = 10 then (lt_ (hR h5 a0 30) (fun o17 => (nn o17 (fun a18 => (if okA h5 a18 20 x1 = true then (if hT h5 a0 = 10 then (bV (c_X10_setOrder F a0 (hI h5 a18 (ix x1)) h5) (fun h19 => (if hT h19 a0 = 10 then (if (hI h19 a0 39) ≤ 12 then (c_X10_standsAhead_L85 F a0 x1 x2 (fun x41 x42 h43 => (if hT h43 a0 = 10 then (lt_ (hR h43 a0 41) (fun o44 => (nn o44 (fun a45 => (if okA h43 a45 20 x42 = true then (if okA h43 a45 20 x42 = true then (lt_ (sI h43 a45 (ix x42) ((hI h43 a45 (ix x42)) ||| (1 <<< (x41 &&& 31)))) (fun h46 => (if hT h46 a0 = 10 then (bL (c_X10_ordersOf F a0 h46) (fun y48 h47 => (if hT h47 a0 = 10 then (lt_ (sJ h47 a0 3 y48) (fun h49 => (some (1, h49)))) else none))) else none))) else none) else none))))) else none)) F 0 0 0 h19) else (some ((-6), h19))) else none))) else none) else none))))) else none) else (j49_9 h5)) else none))))) else none) else none))))) else none)))) else none))))) else none))))) else none)))) else none)
set_option maxRecDepth 20000 in
set_option maxHeartbeats 4000000 in
theorem g_X10_standsAhead_L85 (F : Nat) (a20 : Nat) (x21 : Int32) (x22 : Int32) (k138 : Int32 → Int32 → z_Hp → Option (Int32 × z_Hp)) (qk138 : ∀ (x27 : Int32) (x28 : Int32) (h29 : z_Hp), z_G zi mi_X10_standsAhead 138 [(0, vr (some a20)), (3, vi x27), (4, vi x28)] [] h29 (k138 x27 x28 h29)) : ∀ (n : Nat) (x23 : Int32) (x24 : Int32) (x25 : Int32) (h26 : z_Hp), z_G zi mi_X10_standsAhead 85 [(0, vr (some a20)), (1, vi x21), (2, vi x22), (3, vi x23), (4, vi x24), (5, vi x25)] [] h26 (c_X10_standsAhead_L85 F a20 x21 x22 k138 n x23 x24 x25 h26) := by
  intro n
  induction n with
  | zero => intro x23 x24 x25 h26; rw [c_X10_standsAhead_L85]; exact z_none
  | succ n ih =>
    intro x23 x24 x25 h26
    rw [c_X10_standsAhead_L85]
    refine z_iload (pc := 85) dX10_standsAhead_85 5 rfl (z_aload_n (pc := 87) dX10_standsAhead_87 rfl 0 rfl (z_getI (pc := 88) fl_RX10_306 rfl dX10_standsAhead_88 (?_)))
    refine z_icmp_ge (pc := 91) (tgt := 138) dX10_standsAhead_91 (by decide) ?_ ?_
    · exact z_sub [0, 3, 4] rfl (qk138 x23 x24 h26)
    · refine z_aload_n (pc := 94) dX10_standsAhead_94 rfl 0 rfl (z_getRl (pc := 95) fl_RX10_104 rfl dX10_standsAhead_95 (fun o30 => (z_iload (pc := 98) dX10_standsAhead_98 5 rfl (?_))))
      refine z_nn (fun a31 ea31 => ?_)
      subst ea31
      refine z_iaload (pc := 100) dX10_standsAhead_100 (z_iload_n (pc := 101) dX10_standsAhead_101 rfl 1 rfl (?_))
      refine z_jn (P := fun (j : Int32 → z_Hp → Option (Int32 × z_Hp)) => ∀ (x33 : Int32) (h34 : z_Hp), z_G zi mi_X10_standsAhead 111 [(0, vr (some a20)), (1, vi x21), (2, vi x22), (4, vi x24), (5, vi x25)] [vi x33] h34 (j x33 h34)) (fun x33 h34 => ?_) (fun j111_32 qj111_32 => ?_)
      · refine z_istore_n (pc := 111) (L' := [(0, vr (some a20)), (1, vi x21), (2, vi x22), (3, vi x33), (4, vi x24), (5, vi x25)]) dX10_standsAhead_111 rfl (Nat.le_of_ble_eq_true rfl) rfl (z_aload_n (pc := 112) dX10_standsAhead_112 rfl 0 rfl (z_getRl (pc := 113) fl_RX10_104 rfl dX10_standsAhead_113 (fun o35 => (z_iload (pc := 116) dX10_standsAhead_116 5 rfl (?_)))))
        refine z_nn (fun a36 ea36 => ?_)
        subst ea36
        refine z_iaload (pc := 118) dX10_standsAhead_118 (z_iload_n (pc := 119) dX10_standsAhead_119 rfl 2 rfl (?_))
        refine z_jn (P := fun (j : Int32 → z_Hp → Option (Int32 × z_Hp)) => ∀ (x38 : Int32) (h39 : z_Hp), z_G zi mi_X10_standsAhead 130 [(0, vr (some a20)), (1, vi x21), (2, vi x22), (3, vi x33), (5, vi x25)] [vi x38] h39 (j x38 h39)) (fun x38 h39 => ?_) (fun j130_37 qj130_37 => ?_)
        · refine z_istore (pc := 130) (L' := [(0, vr (some a20)), (1, vi x21), (2, vi x22), (3, vi x33), (4, vi x38), (5, vi x25)]) dX10_standsAhead_130 (Nat.le_of_ble_eq_true rfl) rfl (z_iincl (pc := 132) (L' := fun x40 => [(0, vr (some a20)), (1, vi x21), (2, vi x22), (3, vi x33), (4, vi x38), (5, vi x40)]) dX10_standsAhead_132 5 rfl ic_1 (Nat.le_of_ble_eq_true rfl) (fun _ => rfl) (fun x40 => (z_goto (pc := 135) (tgt := 85) dX10_standsAhead_135 (by decide) (?_))))
          exact ih x33 x38 x40 h39
        refine z_icmp_ne (pc := 120) (tgt := 128) dX10_standsAhead_120 (by decide) ?_ ?_
        · refine z_iload (pc := 128) dX10_standsAhead_128 4 rfl (?_)
          exact z_sub [0, 1, 2, 3, 5] rfl (qj130_37 x24 h34)
        · refine z_iload (pc := 123) dX10_standsAhead_123 5 rfl (z_goto (pc := 125) (tgt := 130) dX10_standsAhead_125 (by decide) (?_))
          exact z_sub [0, 1, 2, 3, 5] rfl (qj130_37 x25 h34)
      refine z_icmp_ne (pc := 102) (tgt := 110) dX10_standsAhead_102 (by decide) ?_ ?_
      · refine z_iload_n (pc := 110) dX10_standsAhead_110 rfl 3 rfl (?_)
        exact z_sub [0, 1, 2, 4, 5] rfl (qj111_32 x23 h26)
      · refine z_iload (pc := 105) dX10_standsAhead_105 5 rfl (z_goto (pc := 107) (tgt := 111) dX10_standsAhead_107 (by decide) (?_))
        exact z_sub [0, 1, 2, 4, 5] rfl (qj111_32 x25 h26)
set_option maxRecDepth 20000 in
set_option maxHeartbeats 4000000 in
theorem t_X10_standsAhead (F : Nat) (a0 : Nat) (x1 : Int32) (x2 : Int32) (h0 : z_Hp) : z_Ct zi mi_X10_standsAhead [vr (some a0), vi x1, vi x2] h0 (c_X10_standsAhead F a0 x1 x2 h0) := by
  refine z_entry (by decide) (Nat.le_of_ble_eq_true rfl) [(0, vr (some a0)), (1, vi x1), (2, vi x2)] rfl ?_
  unfold c_X10_standsAhead
  refine z_aload_n (pc := 0) dX10_standsAhead_0 rfl 0 rfl (z_iload_n (pc := 1) dX10_standsAhead_1 rfl 1 rfl (z_callV_I (pc := 2) (avs := [vi x1]) (st := []) rfl (q := (RX10, TX10, 62)) rfl rfl (t_X10_isSheet F a0 x1 h0) ky_X10_isSheet wm_X10_isSheet we_X10_isSheet wz_RX10_265 (rm_X10_standsAhead_X10_isSheet) (Nat.le_of_ble_eq_true rfl) dX10_standsAhead_2 (fun x4 h3 => (?_))))
  refine z_if_eq (pc := 5) (tgt := 21) dX10_standsAhead_5 (by decide) ?_ ?_
  · refine z_iconst (pc := 21) dX10_standsAhead_21 ic_m1 (?_)
    exact z_iret (pc := 22) dX10_standsAhead_22 rfl rfl
  · refine z_aload_n (pc := 8) dX10_standsAhead_8 rfl 0 rfl (z_iload_n (pc := 9) dX10_standsAhead_9 rfl 2 rfl (z_callV_I (pc := 10) (avs := [vi x2]) (st := []) rfl (q := (RX10, TX10, 62)) rfl rfl (t_X10_isSheet F a0 x2 h3) ky_X10_isSheet wm_X10_isSheet we_X10_isSheet wz_RX10_265 (rm_X10_standsAhead_X10_isSheet) (Nat.le_of_ble_eq_true rfl) dX10_standsAhead_10 (fun x6 h5 => (?_))))
    refine z_if_eq (pc := 13) (tgt := 21) dX10_standsAhead_13 (by decide) ?_ ?_
    · refine z_iconst (pc := 21) dX10_standsAhead_21 ic_m1 (?_)
      exact z_iret (pc := 22) dX10_standsAhead_22 rfl rfl
    · refine z_iload_n (pc := 16) dX10_standsAhead_16 rfl 1 rfl (z_iload_n (pc := 17) dX10_standsAhead_17 rfl 2 rfl (?_))
      refine z_icmp_ne (pc := 18) (tgt := 23) dX10_standsAhead_18 (by decide) ?_ ?_
      · refine z_aload_n (pc := 23) dX10_standsAhead_23 rfl 0 rfl (z_getRl (pc := 24) fl_RX10_77 rfl dX10_standsAhead_24 (fun o7 => (z_iload_n (pc := 27) dX10_standsAhead_27 rfl 1 rfl (?_))))
        refine z_nn (fun a8 ea8 => ?_)
        subst ea8
        refine z_iaload (pc := 28) dX10_standsAhead_28 (z_bipush (pc := 29) dX10_standsAhead_29 bp_m9 (?_))
        refine z_jn (P := fun (j : z_Hp → Option (Int32 × z_Hp)) => ∀ (h10 : z_Hp), z_G zi mi_X10_standsAhead 49 [(0, vr (some a0))] [] h10 (j h10)) (fun h10 => ?_) (fun j49_9 qj49_9 => ?_)
        · refine z_aload_n (pc := 49) dX10_standsAhead_49 rfl 0 rfl (z_iconst (pc := 50) dX10_standsAhead_50 ic_3 (z_callV_I (pc := 51) (avs := [vi 3]) (st := []) rfl (q := (RX10, TX10, 62)) rfl rfl (t_X10_meets F a0 3 h10) ky_X10_meets wm_X10_meets we_X10_meets wz_RX10_174 (rm_X10_standsAhead_X10_meets) (Nat.le_of_ble_eq_true rfl) dX10_standsAhead_51 (fun x12 h11 => (?_))))
          exact z_iret (pc := 54) dX10_standsAhead_54 rfl rfl
        refine z_icmp_eq (pc := 31) (tgt := 49) dX10_standsAhead_31 (by decide) ?_ ?_
        · exact z_sub [0] rfl (qj49_9 h5)
        · refine z_aload_n (pc := 34) dX10_standsAhead_34 rfl 0 rfl (z_getRl (pc := 35) fl_RX10_77 rfl dX10_standsAhead_35 (fun o13 => (z_iload_n (pc := 38) dX10_standsAhead_38 rfl 1 rfl (?_))))
          refine z_nn (fun a14 ea14 => ?_)
          subst ea14
          refine z_iaload (pc := 39) dX10_standsAhead_39 (z_aload_n (pc := 40) dX10_standsAhead_40 rfl 0 rfl (z_getRl (pc := 41) fl_RX10_77 rfl dX10_standsAhead_41 (fun o15 => (z_iload_n (pc := 44) dX10_standsAhead_44 rfl 2 rfl (?_)))))
          refine z_nn (fun a16 ea16 => ?_)
          subst ea16
          refine z_iaload (pc := 45) dX10_standsAhead_45 (?_)
          refine z_icmp_eq (pc := 46) (tgt := 55) dX10_standsAhead_46 (by decide) ?_ ?_
          · refine z_aload_n (pc := 55) dX10_standsAhead_55 rfl 0 rfl (z_aload_n (pc := 56) dX10_standsAhead_56 rfl 0 rfl (z_getRl (pc := 57) fl_RX10_77 rfl dX10_standsAhead_57 (fun o17 => (z_iload_n (pc := 60) dX10_standsAhead_60 rfl 1 rfl (?_)))))
            refine z_nn (fun a18 ea18 => ?_)
            subst ea18
            refine z_iaload (pc := 61) dX10_standsAhead_61 (z_callV_V (pc := 62) (avs := [vi (hI h5 a18 (ix x1))]) (st := []) rfl (q := (RX10, TX10, 62)) rfl rfl (t_X10_setOrder F a0 (hI h5 a18 (ix x1)) h5) ky_X10_setOrder wm_X10_setOrder we_X10_setOrder wz_RX10_315 (rm_X10_standsAhead_X10_setOrder) (Nat.le_of_ble_eq_true rfl) dX10_standsAhead_62 (fun h19 => (?_)))
            refine z_aload_n (pc := 65) dX10_standsAhead_65 rfl 0 rfl (z_getI (pc := 66) fl_RX10_306 rfl dX10_standsAhead_66 (z_bipush (pc := 69) dX10_standsAhead_69 bp_12 (?_)))
            refine z_icmp_le (pc := 71) (tgt := 77) dX10_standsAhead_71 (by decide) ?_ ?_
            · refine z_iconst (pc := 77) dX10_standsAhead_77 ic_0 (z_istore_n (pc := 78) (L' := [(0, vr (some a0)), (1, vi x1), (2, vi x2), (3, vi 0)]) dX10_standsAhead_78 rfl (Nat.le_of_ble_eq_true rfl) rfl (z_iconst (pc := 79) dX10_standsAhead_79 ic_0 (z_istore (pc := 80) (L' := [(0, vr (some a0)), (1, vi x1), (2, vi x2), (3, vi 0), (4, vi 0)]) dX10_standsAhead_80 (Nat.le_of_ble_eq_true rfl) rfl (z_iconst (pc := 82) dX10_standsAhead_82 ic_0 (z_istore (pc := 83) (L' := [(0, vr (some a0)), (1, vi x1), (2, vi x2), (3, vi 0), (4, vi 0), (5, vi 0)]) dX10_standsAhead_83 (Nat.le_of_ble_eq_true rfl) rfl (?_))))))
              refine g_X10_standsAhead_L85 F a0 x1 x2 _ (fun x41 x42 h43 => ?_) F 0 0 0 h19
              refine z_aload_n (pc := 138) dX10_standsAhead_138 rfl 0 rfl (z_getRl (pc := 139) fl_RX10_107 rfl dX10_standsAhead_139 (fun o44 => (z_iload (pc := 142) dX10_standsAhead_142 2 rfl (z_dup2 (pc := 144) dX10_standsAhead_144 rfl rfl (?_)))))
              refine z_nn (fun a45 ea45 => ?_)
              subst ea45
              refine z_iaload (pc := 145) dX10_standsAhead_145 (z_iconst (pc := 146) dX10_standsAhead_146 ic_1 (z_iload_n (pc := 147) dX10_standsAhead_147 rfl 1 rfl (z_ishl (pc := 148) dX10_standsAhead_148 (z_ior (pc := 149) dX10_standsAhead_149 (z_iastorel (pc := 150) dX10_standsAhead_150 (fun h46 => (z_aload_n (pc := 151) dX10_standsAhead_151 rfl 0 rfl (z_aload_n (pc := 152) dX10_standsAhead_152 rfl 0 rfl (?_)))))))))
              refine z_callV_L (pc := 153) (avs := []) (st := [vr (some a0)]) rfl (q := (RX10, TX10, 62)) rfl rfl (t_X10_ordersOf F a0 h46) ky_X10_ordersOf wm_X10_ordersOf we_X10_ordersOf wz_RX10_318 (rm_X10_standsAhead_X10_ordersOf) (Nat.le_of_ble_eq_true rfl) dX10_standsAhead_153 (fun y48 h47 => (?_))
              refine z_putJl (pc := 156) fl_RX10_322 (fin_X_10_3 _) rfl dX10_standsAhead_156 (fun h49 => (z_iconst (pc := 159) dX10_standsAhead_159 ic_1 (?_)))
              exact z_iret (pc := 160) dX10_standsAhead_160 rfl rfl
            · refine z_bipush (pc := 74) dX10_standsAhead_74 bp_m6 (?_)
              exact z_iret (pc := 76) dX10_standsAhead_76 rfl rfl
          · exact z_sub [0] rfl (qj49_9 h5)
      · refine z_iconst (pc := 21) dX10_standsAhead_21 ic_m1 (?_)
        exact z_iret (pc := 22) dX10_standsAhead_22 rfl rfl
theorem dX10_judgeOrder_0 : decode cX10_judgeOrder 0 = .ok (.iload_n 1, 1) := by decide +kernel
theorem dX10_judgeOrder_1 : decode cX10_judgeOrder 1 = .ok (.iconst 0, 1) := by decide +kernel
theorem dX10_judgeOrder_2 : decode cX10_judgeOrder 2 = .ok (.iconst 5, 1) := by decide +kernel
theorem dX10_judgeOrder_3 : decode cX10_judgeOrder 3 = .ok (.invokestatic 166, 3) := by decide +kernel
theorem dX10_judgeOrder_6 : decode cX10_judgeOrder 6 = .ok (.ifCond .eq 10, 3) := by decide +kernel
theorem dX10_judgeOrder_9 : decode cX10_judgeOrder 9 = .ok (.iload_n 2, 1) := by decide +kernel
theorem dX10_judgeOrder_10 : decode cX10_judgeOrder 10 = .ok (.invokestatic 170, 3) := by decide +kernel
theorem dX10_judgeOrder_13 : decode cX10_judgeOrder 13 = .ok (.ifCond .ne 5, 3) := by decide +kernel
theorem dX10_judgeOrder_16 : decode cX10_judgeOrder 16 = .ok (.iconst (-1), 1) := by decide +kernel
theorem dX10_judgeOrder_17 : decode cX10_judgeOrder 17 = .ok (.ireturn, 1) := by decide +kernel
theorem dX10_judgeOrder_18 : decode cX10_judgeOrder 18 = .ok (.aload_n 0, 1) := by decide +kernel
theorem dX10_judgeOrder_19 : decode cX10_judgeOrder 19 = .ok (.getfield 17, 3) := by decide +kernel
theorem dX10_judgeOrder_22 : decode cX10_judgeOrder 22 = .ok (.iload_n 2, 1) := by decide +kernel
theorem dX10_judgeOrder_23 : decode cX10_judgeOrder 23 = .ok (.iaload, 1) := by decide +kernel
theorem dX10_judgeOrder_24 : decode cX10_judgeOrder 24 = .ok (.ifCond .ge 9, 3) := by decide +kernel
theorem dX10_judgeOrder_27 : decode cX10_judgeOrder 27 = .ok (.aload_n 0, 1) := by decide +kernel
theorem dX10_judgeOrder_28 : decode cX10_judgeOrder 28 = .ok (.iconst 1, 1) := by decide +kernel
theorem dX10_judgeOrder_29 : decode cX10_judgeOrder 29 = .ok (.invokevirtual 174, 3) := by decide +kernel
theorem dX10_judgeOrder_32 : decode cX10_judgeOrder 32 = .ok (.ireturn, 1) := by decide +kernel
theorem dX10_judgeOrder_33 : decode cX10_judgeOrder 33 = .ok (.iconst 0, 1) := by decide +kernel
theorem dX10_judgeOrder_34 : decode cX10_judgeOrder 34 = .ok (.istore_n 3, 1) := by decide +kernel
theorem dX10_judgeOrder_35 : decode cX10_judgeOrder 35 = .ok (.iconst 0, 1) := by decide +kernel
theorem dX10_judgeOrder_36 : decode cX10_judgeOrder 36 = .ok (.istore 4, 2) := by decide +kernel
theorem dX10_judgeOrder_38 : decode cX10_judgeOrder 38 = .ok (.iload 4, 2) := by decide +kernel
theorem dX10_judgeOrder_40 : decode cX10_judgeOrder 40 = .ok (.aload_n 0, 1) := by decide +kernel
theorem dX10_judgeOrder_41 : decode cX10_judgeOrder 41 = .ok (.getfield 17, 3) := by decide +kernel
theorem dX10_judgeOrder_44 : decode cX10_judgeOrder 44 = .ok (.iload_n 2, 1) := by decide +kernel
theorem dX10_judgeOrder_45 : decode cX10_judgeOrder 45 = .ok (.iaload, 1) := by decide +kernel
theorem dX10_judgeOrder_46 : decode cX10_judgeOrder 46 = .ok (.if_icmp .ge 103, 3) := by decide +kernel
theorem dX10_judgeOrder_49 : decode cX10_judgeOrder 49 = .ok (.aload_n 0, 1) := by decide +kernel
theorem dX10_judgeOrder_50 : decode cX10_judgeOrder 50 = .ok (.getfield 20, 3) := by decide +kernel
theorem dX10_judgeOrder_53 : decode cX10_judgeOrder 53 = .ok (.bipush 40, 2) := by decide +kernel
theorem dX10_judgeOrder_55 : decode cX10_judgeOrder 55 = .ok (.iload_n 2, 1) := by decide +kernel
theorem dX10_judgeOrder_56 : decode cX10_judgeOrder 56 = .ok (.imul, 1) := by decide +kernel
theorem dX10_judgeOrder_57 : decode cX10_judgeOrder 57 = .ok (.iload 4, 2) := by decide +kernel
theorem dX10_judgeOrder_59 : decode cX10_judgeOrder 59 = .ok (.iadd, 1) := by decide +kernel
theorem dX10_judgeOrder_60 : decode cX10_judgeOrder 60 = .ok (.iaload, 1) := by decide +kernel
theorem dX10_judgeOrder_61 : decode cX10_judgeOrder 61 = .ok (.istore 5, 2) := by decide +kernel
theorem dX10_judgeOrder_63 : decode cX10_judgeOrder 63 = .ok (.aload_n 0, 1) := by decide +kernel
theorem dX10_judgeOrder_64 : decode cX10_judgeOrder 64 = .ok (.iload 5, 2) := by decide +kernel
theorem dX10_judgeOrder_66 : decode cX10_judgeOrder 66 = .ok (.invokevirtual 265, 3) := by decide +kernel
theorem dX10_judgeOrder_69 : decode cX10_judgeOrder 69 = .ok (.ifCond .eq 23, 3) := by decide +kernel
theorem dX10_judgeOrder_72 : decode cX10_judgeOrder 72 = .ok (.aload_n 0, 1) := by decide +kernel
theorem dX10_judgeOrder_73 : decode cX10_judgeOrder 73 = .ok (.getfield 77, 3) := by decide +kernel
theorem dX10_judgeOrder_76 : decode cX10_judgeOrder 76 = .ok (.iload 5, 2) := by decide +kernel
theorem dX10_judgeOrder_78 : decode cX10_judgeOrder 78 = .ok (.iaload, 1) := by decide +kernel
theorem dX10_judgeOrder_79 : decode cX10_judgeOrder 79 = .ok (.iload_n 1, 1) := by decide +kernel
theorem dX10_judgeOrder_80 : decode cX10_judgeOrder 80 = .ok (.if_icmp .ne 12, 3) := by decide +kernel
theorem dX10_judgeOrder_83 : decode cX10_judgeOrder 83 = .ok (.iload_n 3, 1) := by decide +kernel
theorem dX10_judgeOrder_84 : decode cX10_judgeOrder 84 = .ok (.iload 5, 2) := by decide +kernel
theorem dX10_judgeOrder_86 : decode cX10_judgeOrder 86 = .ok (.invokestatic 312, 3) := by decide +kernel
theorem dX10_judgeOrder_89 : decode cX10_judgeOrder 89 = .ok (.ifCond .eq 6, 3) := by decide +kernel
theorem dX10_judgeOrder_92 : decode cX10_judgeOrder 92 = .ok (.iload 4, 2) := by decide +kernel
theorem dX10_judgeOrder_94 : decode cX10_judgeOrder 94 = .ok (.ireturn, 1) := by decide +kernel
theorem dX10_judgeOrder_95 : decode cX10_judgeOrder 95 = .ok (.iconst 0, 1) := by decide +kernel
theorem dX10_judgeOrder_96 : decode cX10_judgeOrder 96 = .ok (.istore 6, 2) := by decide +kernel
theorem dX10_judgeOrder_98 : decode cX10_judgeOrder 98 = .ok (.iload 6, 2) := by decide +kernel
theorem dX10_judgeOrder_100 : decode cX10_judgeOrder 100 = .ok (.aload_n 0, 1) := by decide +kernel
theorem dX10_judgeOrder_101 : decode cX10_judgeOrder 101 = .ok (.getfield 262, 3) := by decide +kernel
theorem dX10_judgeOrder_104 : decode cX10_judgeOrder 104 = .ok (.if_icmp .ge 32, 3) := by decide +kernel
theorem dX10_judgeOrder_107 : decode cX10_judgeOrder 107 = .ok (.iload_n 3, 1) := by decide +kernel
theorem dX10_judgeOrder_108 : decode cX10_judgeOrder 108 = .ok (.iload 6, 2) := by decide +kernel
theorem dX10_judgeOrder_110 : decode cX10_judgeOrder 110 = .ok (.invokestatic 312, 3) := by decide +kernel
theorem dX10_judgeOrder_113 : decode cX10_judgeOrder 113 = .ok (.ifCond .eq 17, 3) := by decide +kernel
theorem dX10_judgeOrder_116 : decode cX10_judgeOrder 116 = .ok (.aload_n 0, 1) := by decide +kernel
theorem dX10_judgeOrder_117 : decode cX10_judgeOrder 117 = .ok (.iload 5, 2) := by decide +kernel
theorem dX10_judgeOrder_119 : decode cX10_judgeOrder 119 = .ok (.iload 6, 2) := by decide +kernel
theorem dX10_judgeOrder_121 : decode cX10_judgeOrder 121 = .ok (.invokevirtual 309, 3) := by decide +kernel
theorem dX10_judgeOrder_124 : decode cX10_judgeOrder 124 = .ok (.ifCond .eq 6, 3) := by decide +kernel
theorem dX10_judgeOrder_127 : decode cX10_judgeOrder 127 = .ok (.iload 4, 2) := by decide +kernel
theorem dX10_judgeOrder_129 : decode cX10_judgeOrder 129 = .ok (.ireturn, 1) := by decide +kernel
theorem dX10_judgeOrder_130 : decode cX10_judgeOrder 130 = .ok (.iinc 6 1, 3) := by decide +kernel
theorem dX10_judgeOrder_133 : decode cX10_judgeOrder 133 = .ok (.goto (-35), 3) := by decide +kernel
theorem dX10_judgeOrder_136 : decode cX10_judgeOrder 136 = .ok (.iload_n 3, 1) := by decide +kernel
theorem dX10_judgeOrder_137 : decode cX10_judgeOrder 137 = .ok (.iconst 1, 1) := by decide +kernel
theorem dX10_judgeOrder_138 : decode cX10_judgeOrder 138 = .ok (.iload 5, 2) := by decide +kernel
theorem dX10_judgeOrder_140 : decode cX10_judgeOrder 140 = .ok (.ishl, 1) := by decide +kernel
theorem dX10_judgeOrder_141 : decode cX10_judgeOrder 141 = .ok (.ior, 1) := by decide +kernel
theorem dX10_judgeOrder_142 : decode cX10_judgeOrder 142 = .ok (.istore_n 3, 1) := by decide +kernel
theorem dX10_judgeOrder_143 : decode cX10_judgeOrder 143 = .ok (.iinc 4 1, 3) := by decide +kernel
theorem dX10_judgeOrder_146 : decode cX10_judgeOrder 146 = .ok (.goto (-108), 3) := by decide +kernel
theorem dX10_judgeOrder_149 : decode cX10_judgeOrder 149 = .ok (.aload_n 0, 1) := by decide +kernel
theorem dX10_judgeOrder_150 : decode cX10_judgeOrder 150 = .ok (.iload_n 1, 1) := by decide +kernel
theorem dX10_judgeOrder_151 : decode cX10_judgeOrder 151 = .ok (.invokevirtual 315, 3) := by decide +kernel
theorem dX10_judgeOrder_154 : decode cX10_judgeOrder 154 = .ok (.iload_n 3, 1) := by decide +kernel
theorem dX10_judgeOrder_155 : decode cX10_judgeOrder 155 = .ok (.invokestatic 279, 3) := by decide +kernel
theorem dX10_judgeOrder_158 : decode cX10_judgeOrder 158 = .ok (.aload_n 0, 1) := by decide +kernel
theorem dX10_judgeOrder_159 : decode cX10_judgeOrder 159 = .ok (.getfield 306, 3) := by decide +kernel
theorem dX10_judgeOrder_162 : decode cX10_judgeOrder 162 = .ok (.if_icmp .ge 12, 3) := by decide +kernel
theorem dX10_judgeOrder_165 : decode cX10_judgeOrder 165 = .ok (.aload_n 0, 1) := by decide +kernel
theorem dX10_judgeOrder_166 : decode cX10_judgeOrder 166 = .ok (.getfield 17, 3) := by decide +kernel
theorem dX10_judgeOrder_169 : decode cX10_judgeOrder 169 = .ok (.iload_n 2, 1) := by decide +kernel
theorem dX10_judgeOrder_170 : decode cX10_judgeOrder 170 = .ok (.iaload, 1) := by decide +kernel
theorem dX10_judgeOrder_171 : decode cX10_judgeOrder 171 = .ok (.goto 5, 3) := by decide +kernel
theorem dX10_judgeOrder_174 : decode cX10_judgeOrder 174 = .ok (.bipush (-9), 2) := by decide +kernel
theorem dX10_judgeOrder_176 : decode cX10_judgeOrder 176 = .ok (.ireturn, 1) := by decide +kernel
def c_X10_judgeOrder_L98 (F : Nat) (a28 : Nat) (x29 : Int32) (x30 : Int32) (x31 : Int32) (x32 : Int32) (x33 : Int32) (k136 : z_Hp → Option (Int32 × z_Hp)) : Nat → Int32 → z_Hp → Option (Int32 × z_Hp)
  | 0, _, _ => none
  | n + 1, x34, h35 => (if hT h35 a28 = 10 then (if (hI h35 a28 26) ≤ x34 then (k136 h35) else (bI (c_X10_has F x31 x34 h35) (fun x38 h37 => (lt_ (fun (h40 : z_Hp) => (lt_ (x34 + 1) (fun x41 => (c_X10_judgeOrder_L98 F a28 x29 x30 x31 x32 x33 k136 n x41 h40)))) (fun (j130_39 : z_Hp → Option (Int32 × z_Hp)) => (if x38 = 0 then (j130_39 h37) else (if hT h37 a28 = 10 then (bI (c_X10_isAhead F a28 x33 x34 h37) (fun x43 h42 => (if x43 = 0 then (j130_39 h42) else (some (x32, h42))))) else none))))))) else none)
def c_X10_judgeOrder_L38 (F : Nat) (a9 : Nat) (x10 : Int32) (x11 : Int32) (k149 : Int32 → z_Hp → Option (Int32 × z_Hp)) : Nat → Int32 → Int32 → z_Hp → Option (Int32 × z_Hp)
  | 0, _, _, _ => none
  | n + 1, x12, x13, h14 => (if hT h14 a9 = 10 then (lt_ (hR h14 a9 7) (fun o17 => (nn o17 (fun a18 => (if okA h14 a18 20 x11 = true then (if (hI h14 a18 (ix x11)) ≤ x13 then (k149 x12 h14) else (if hT h14 a9 = 10 then (lt_ (hR h14 a9 8) (fun o19 => (nn o19 (fun a20 => (if okA h14 a20 20 ((40 * x11) + x13) = true then (lt_ (hI h14 a20 (ix ((40 * x11) + x13))) (fun x21 => (if hT h14 a9 = 10 then (bI (c_X10_isSheet F a9 x21 h14) (fun x23 h22 => (if x23 = 0 then (some (x13, h22)) else (if hT h22 a9 = 10 then (lt_ (hR h22 a9 30) (fun o24 => (nn o24 (fun a25 => (if okA h22 a25 20 x21 = true then (if (hI h22 a25 (ix x21)) = x10 then (bI (c_X10_has F x12 x21 h22) (fun x27 h26 => (if x27 = 0 then (c_X10_judgeOrder_L98 F a9 x10 x11 x12 x13 x21 (fun h44 => (lt_ (x12 ||| (1 <<< (x21 &&& 31))) (fun x45 => (lt_ (x13 + 1) (fun x46 => (c_X10_judgeOrder_L38 F a9 x10 x11 k149 n x45 x46 h44)))))) F 0 h26) else (some (x13, h26))))) else (some (x13, h22))) else none))))) else none)))) else none))) else none))))) else none)) else none))))) else none)
def c_X10_judgeOrder (F : Nat) (a0 : Nat) (x1 : Int32) (x2 : Int32) (h0 : z_Hp) : Option (Int32 × z_Hp) := (bI (c_X10_in F x1 0 5 h0) (fun x4 h3 => (if x4 = 0 then (some ((-1), h3)) else (bI (c_X10_isRow F x2 h3) (fun x6 h5 => (if x6 = 0 then (some ((-1), h5)) else (if hT h5 a0 = 10 then (lt_ (hR h5 a0 7) (fun o7 => (nn o7 (fun a8 => (if okA h5 a8 20 x2 = true then (if 0 ≤ (hI h5 a8 (ix x2)) then (c_X10_judgeOrder_L38 F a0 x1 x2 (fun x47 h48 => (if hT h48 a0 = 10 then (bV (c_X10_setOrder F a0 x1 h48) (fun h49 => (bI (c_X10_bits F x47 h49) (fun x51 h50 => (if hT h50 a0 = 10 then (if (hI h50 a0 39) ≤ x51 then (some ((-9), h50)) else (if hT h50 a0 = 10 then (lt_ (hR h50 a0 7) (fun o52 => (nn o52 (fun a53 => (if okA h50 a53 20 x2 = true then (some (hI h50 a53 (ix x2), h50)) else none))))) else none)) else none))))) else none)) F 0 0 h5) else (if hT h5 a0 = 10 then (bI (c_X10_meets F a0 1 h5) (fun x55 h54 => (some (x55, h54)))) else none)) else none))))) else none)))))))
set_option maxRecDepth 20000 in
set_option maxHeartbeats 4000000 in
theorem g_X10_judgeOrder_L98 (F : Nat) (a28 : Nat) (x29 : Int32) (x30 : Int32) (x31 : Int32) (x32 : Int32) (x33 : Int32) (k136 : z_Hp → Option (Int32 × z_Hp)) (qk136 : ∀ (h36 : z_Hp), z_G zi mi_X10_judgeOrder 136 [(0, vr (some a28)), (1, vi x29), (2, vi x30), (3, vi x31), (4, vi x32), (5, vi x33)] [] h36 (k136 h36)) : ∀ (n : Nat) (x34 : Int32) (h35 : z_Hp), z_G zi mi_X10_judgeOrder 98 [(0, vr (some a28)), (1, vi x29), (2, vi x30), (3, vi x31), (4, vi x32), (5, vi x33), (6, vi x34)] [] h35 (c_X10_judgeOrder_L98 F a28 x29 x30 x31 x32 x33 k136 n x34 h35) := by
  intro n
  induction n with
  | zero => intro x34 h35; rw [c_X10_judgeOrder_L98]; exact z_none
  | succ n ih =>
    intro x34 h35
    rw [c_X10_judgeOrder_L98]
    refine z_iload (pc := 98) dX10_judgeOrder_98 6 rfl (z_aload_n (pc := 100) dX10_judgeOrder_100 rfl 0 rfl (z_getI (pc := 101) fl_RX10_262 rfl dX10_judgeOrder_101 (?_)))
    refine z_icmp_ge (pc := 104) (tgt := 136) dX10_judgeOrder_104 (by decide) ?_ ?_
    · exact z_sub [0, 1, 2, 3, 4, 5] rfl (qk136 h35)
    · refine z_iload_n (pc := 107) dX10_judgeOrder_107 rfl 3 rfl (z_iload (pc := 108) dX10_judgeOrder_108 6 rfl (z_callS_I (pc := 110) (avs := [vi x31, vi x34]) (st := []) rfl (t_X10_has F x31 x34 h35) ky_X10_has ws_X10_has wz_RX10_312 (rm_X10_judgeOrder_X10_has) (Nat.le_of_ble_eq_true rfl) dX10_judgeOrder_110 (fun x38 h37 => (?_))))
      refine z_jn (P := fun (j : z_Hp → Option (Int32 × z_Hp)) => ∀ (h40 : z_Hp), z_G zi mi_X10_judgeOrder 130 [(0, vr (some a28)), (1, vi x29), (2, vi x30), (3, vi x31), (4, vi x32), (5, vi x33), (6, vi x34)] [] h40 (j h40)) (fun h40 => ?_) (fun j130_39 qj130_39 => ?_)
      · refine z_iincl (pc := 130) (L' := fun x41 => [(0, vr (some a28)), (1, vi x29), (2, vi x30), (3, vi x31), (4, vi x32), (5, vi x33), (6, vi x41)]) dX10_judgeOrder_130 6 rfl ic_1 (Nat.le_of_ble_eq_true rfl) (fun _ => rfl) (fun x41 => (z_goto (pc := 133) (tgt := 98) dX10_judgeOrder_133 (by decide) (?_)))
        exact ih x41 h40
      refine z_if_eq (pc := 113) (tgt := 130) dX10_judgeOrder_113 (by decide) ?_ ?_
      · exact qj130_39 h37
      · refine z_aload_n (pc := 116) dX10_judgeOrder_116 rfl 0 rfl (z_iload (pc := 117) dX10_judgeOrder_117 5 rfl (z_iload (pc := 119) dX10_judgeOrder_119 6 rfl (z_callV_I (pc := 121) (avs := [vi x33, vi x34]) (st := []) rfl (q := (RX10, TX10, 62)) rfl rfl (t_X10_isAhead F a28 x33 x34 h37) ky_X10_isAhead wm_X10_isAhead we_X10_isAhead wz_RX10_309 (rm_X10_judgeOrder_X10_isAhead) (Nat.le_of_ble_eq_true rfl) dX10_judgeOrder_121 (fun x43 h42 => (?_)))))
        refine z_if_eq (pc := 124) (tgt := 130) dX10_judgeOrder_124 (by decide) ?_ ?_
        · exact qj130_39 h42
        · refine z_iload (pc := 127) dX10_judgeOrder_127 4 rfl (?_)
          exact z_iret (pc := 129) dX10_judgeOrder_129 rfl rfl
set_option maxRecDepth 20000 in
set_option maxHeartbeats 4000000 in
theorem g_X10_judgeOrder_L38 (F : Nat) (a9 : Nat) (x10 : Int32) (x11 : Int32) (k149 : Int32 → z_Hp → Option (Int32 × z_Hp)) (qk149 : ∀ (x15 : Int32) (h16 : z_Hp), z_G zi mi_X10_judgeOrder 149 [(0, vr (some a9)), (1, vi x10), (2, vi x11), (3, vi x15)] [] h16 (k149 x15 h16)) : ∀ (n : Nat) (x12 : Int32) (x13 : Int32) (h14 : z_Hp), z_G zi mi_X10_judgeOrder 38 [(0, vr (some a9)), (1, vi x10), (2, vi x11), (3, vi x12), (4, vi x13)] [] h14 (c_X10_judgeOrder_L38 F a9 x10 x11 k149 n x12 x13 h14) := by
  intro n
  induction n with
  | zero => intro x12 x13 h14; rw [c_X10_judgeOrder_L38]; exact z_none
  | succ n ih =>
    intro x12 x13 h14
    rw [c_X10_judgeOrder_L38]
    refine z_iload (pc := 38) dX10_judgeOrder_38 4 rfl (z_aload_n (pc := 40) dX10_judgeOrder_40 rfl 0 rfl (z_getRl (pc := 41) fl_RX10_17 rfl dX10_judgeOrder_41 (fun o17 => (z_iload_n (pc := 44) dX10_judgeOrder_44 rfl 2 rfl (?_)))))
    refine z_nn (fun a18 ea18 => ?_)
    subst ea18
    refine z_iaload (pc := 45) dX10_judgeOrder_45 (?_)
    refine z_icmp_ge (pc := 46) (tgt := 149) dX10_judgeOrder_46 (by decide) ?_ ?_
    · exact z_sub [0, 1, 2, 3] rfl (qk149 x12 h14)
    · refine z_aload_n (pc := 49) dX10_judgeOrder_49 rfl 0 rfl (z_getRl (pc := 50) fl_RX10_20 rfl dX10_judgeOrder_50 (fun o19 => (z_bipush (pc := 53) dX10_judgeOrder_53 bp_40 (z_iload_n (pc := 55) dX10_judgeOrder_55 rfl 2 rfl (z_imul (pc := 56) dX10_judgeOrder_56 (z_iload (pc := 57) dX10_judgeOrder_57 4 rfl (z_iadd (pc := 59) dX10_judgeOrder_59 (?_))))))))
      refine z_nn (fun a20 ea20 => ?_)
      subst ea20
      refine z_iaload (pc := 60) dX10_judgeOrder_60 (z_istorel (pc := 61) (L' := fun x21 => [(0, vr (some a9)), (1, vi x10), (2, vi x11), (3, vi x12), (4, vi x13), (5, vi x21)]) dX10_judgeOrder_61 (Nat.le_of_ble_eq_true rfl) (fun _ => rfl) (fun x21 => (z_aload_n (pc := 63) dX10_judgeOrder_63 rfl 0 rfl (z_iload (pc := 64) dX10_judgeOrder_64 5 rfl (z_callV_I (pc := 66) (avs := [vi x21]) (st := []) rfl (q := (RX10, TX10, 62)) rfl rfl (t_X10_isSheet F a9 x21 h14) ky_X10_isSheet wm_X10_isSheet we_X10_isSheet wz_RX10_265 (rm_X10_judgeOrder_X10_isSheet) (Nat.le_of_ble_eq_true rfl) dX10_judgeOrder_66 (fun x23 h22 => (?_)))))))
      refine z_if_eq (pc := 69) (tgt := 92) dX10_judgeOrder_69 (by decide) ?_ ?_
      · refine z_iload (pc := 92) dX10_judgeOrder_92 4 rfl (?_)
        exact z_iret (pc := 94) dX10_judgeOrder_94 rfl rfl
      · refine z_aload_n (pc := 72) dX10_judgeOrder_72 rfl 0 rfl (z_getRl (pc := 73) fl_RX10_77 rfl dX10_judgeOrder_73 (fun o24 => (z_iload (pc := 76) dX10_judgeOrder_76 5 rfl (?_))))
        refine z_nn (fun a25 ea25 => ?_)
        subst ea25
        refine z_iaload (pc := 78) dX10_judgeOrder_78 (z_iload_n (pc := 79) dX10_judgeOrder_79 rfl 1 rfl (?_))
        refine z_icmp_ne (pc := 80) (tgt := 92) dX10_judgeOrder_80 (by decide) ?_ ?_
        · refine z_iload (pc := 92) dX10_judgeOrder_92 4 rfl (?_)
          exact z_iret (pc := 94) dX10_judgeOrder_94 rfl rfl
        · refine z_iload_n (pc := 83) dX10_judgeOrder_83 rfl 3 rfl (z_iload (pc := 84) dX10_judgeOrder_84 5 rfl (z_callS_I (pc := 86) (avs := [vi x12, vi x21]) (st := []) rfl (t_X10_has F x12 x21 h22) ky_X10_has ws_X10_has wz_RX10_312 (rm_X10_judgeOrder_X10_has) (Nat.le_of_ble_eq_true rfl) dX10_judgeOrder_86 (fun x27 h26 => (?_))))
          refine z_if_eq (pc := 89) (tgt := 95) dX10_judgeOrder_89 (by decide) ?_ ?_
          · refine z_iconst (pc := 95) dX10_judgeOrder_95 ic_0 (z_istore (pc := 96) (L' := [(0, vr (some a9)), (1, vi x10), (2, vi x11), (3, vi x12), (4, vi x13), (5, vi x21), (6, vi 0)]) dX10_judgeOrder_96 (Nat.le_of_ble_eq_true rfl) rfl (?_))
            refine g_X10_judgeOrder_L98 F a9 x10 x11 x12 x13 x21 _ (fun h44 => ?_) F 0 h26
            refine z_iload_n (pc := 136) dX10_judgeOrder_136 rfl 3 rfl (z_iconst (pc := 137) dX10_judgeOrder_137 ic_1 (z_iload (pc := 138) dX10_judgeOrder_138 5 rfl (z_ishl (pc := 140) dX10_judgeOrder_140 (z_ior (pc := 141) dX10_judgeOrder_141 (z_istorel_n (pc := 142) (L' := fun x45 => [(0, vr (some a9)), (1, vi x10), (2, vi x11), (3, vi x45), (4, vi x13), (5, vi x21)]) dX10_judgeOrder_142 rfl (Nat.le_of_ble_eq_true rfl) (fun _ => rfl) (fun x45 => (z_iincl (pc := 143) (L' := fun x46 => [(0, vr (some a9)), (1, vi x10), (2, vi x11), (3, vi x45), (4, vi x46), (5, vi x21)]) dX10_judgeOrder_143 4 rfl ic_1 (Nat.le_of_ble_eq_true rfl) (fun _ => rfl) (fun x46 => (z_goto (pc := 146) (tgt := 38) dX10_judgeOrder_146 (by decide) (?_))))))))))
            exact z_sub [0, 1, 2, 3, 4] rfl (ih x45 x46 h44)
          · refine z_iload (pc := 92) dX10_judgeOrder_92 4 rfl (?_)
            exact z_iret (pc := 94) dX10_judgeOrder_94 rfl rfl
set_option maxRecDepth 20000 in
set_option maxHeartbeats 4000000 in
theorem t_X10_judgeOrder (F : Nat) (a0 : Nat) (x1 : Int32) (x2 : Int32) (h0 : z_Hp) : z_Ct zi mi_X10_judgeOrder [vr (some a0), vi x1, vi x2] h0 (c_X10_judgeOrder F a0 x1 x2 h0) := by
  refine z_entry (by decide) (Nat.le_of_ble_eq_true rfl) [(0, vr (some a0)), (1, vi x1), (2, vi x2)] rfl ?_
  unfold c_X10_judgeOrder
  refine z_iload_n (pc := 0) dX10_judgeOrder_0 rfl 1 rfl (z_iconst (pc := 1) dX10_judgeOrder_1 ic_0 (z_iconst (pc := 2) dX10_judgeOrder_2 ic_5 (z_callS_I (pc := 3) (avs := [vi x1, vi 0, vi 5]) (st := []) rfl (t_X10_in F x1 0 5 h0) ky_X10_in ws_X10_in wz_RX10_166 (rm_X10_judgeOrder_X10_in) (Nat.le_of_ble_eq_true rfl) dX10_judgeOrder_3 (fun x4 h3 => (?_)))))
  refine z_if_eq (pc := 6) (tgt := 16) dX10_judgeOrder_6 (by decide) ?_ ?_
  · refine z_iconst (pc := 16) dX10_judgeOrder_16 ic_m1 (?_)
    exact z_iret (pc := 17) dX10_judgeOrder_17 rfl rfl
  · refine z_iload_n (pc := 9) dX10_judgeOrder_9 rfl 2 rfl (z_callS_I (pc := 10) (avs := [vi x2]) (st := []) rfl (t_X10_isRow F x2 h3) ky_X10_isRow ws_X10_isRow wz_RX10_170 (rm_X10_judgeOrder_X10_isRow) (Nat.le_of_ble_eq_true rfl) dX10_judgeOrder_10 (fun x6 h5 => (?_)))
    refine z_if_ne (pc := 13) (tgt := 18) dX10_judgeOrder_13 (by decide) ?_ ?_
    · refine z_aload_n (pc := 18) dX10_judgeOrder_18 rfl 0 rfl (z_getRl (pc := 19) fl_RX10_17 rfl dX10_judgeOrder_19 (fun o7 => (z_iload_n (pc := 22) dX10_judgeOrder_22 rfl 2 rfl (?_))))
      refine z_nn (fun a8 ea8 => ?_)
      subst ea8
      refine z_iaload (pc := 23) dX10_judgeOrder_23 (?_)
      refine z_if_ge (pc := 24) (tgt := 33) dX10_judgeOrder_24 (by decide) ?_ ?_
      · refine z_iconst (pc := 33) dX10_judgeOrder_33 ic_0 (z_istore_n (pc := 34) (L' := [(0, vr (some a0)), (1, vi x1), (2, vi x2), (3, vi 0)]) dX10_judgeOrder_34 rfl (Nat.le_of_ble_eq_true rfl) rfl (z_iconst (pc := 35) dX10_judgeOrder_35 ic_0 (z_istore (pc := 36) (L' := [(0, vr (some a0)), (1, vi x1), (2, vi x2), (3, vi 0), (4, vi 0)]) dX10_judgeOrder_36 (Nat.le_of_ble_eq_true rfl) rfl (?_))))
        refine g_X10_judgeOrder_L38 F a0 x1 x2 _ (fun x47 h48 => ?_) F 0 0 h5
        refine z_aload_n (pc := 149) dX10_judgeOrder_149 rfl 0 rfl (z_iload_n (pc := 150) dX10_judgeOrder_150 rfl 1 rfl (z_callV_V (pc := 151) (avs := [vi x1]) (st := []) rfl (q := (RX10, TX10, 62)) rfl rfl (t_X10_setOrder F a0 x1 h48) ky_X10_setOrder wm_X10_setOrder we_X10_setOrder wz_RX10_315 (rm_X10_judgeOrder_X10_setOrder) (Nat.le_of_ble_eq_true rfl) dX10_judgeOrder_151 (fun h49 => (?_))))
        refine z_iload_n (pc := 154) dX10_judgeOrder_154 rfl 3 rfl (z_callS_I (pc := 155) (avs := [vi x47]) (st := []) rfl (t_X10_bits F x47 h49) ky_X10_bits ws_X10_bits wz_RX10_279 (rm_X10_judgeOrder_X10_bits) (Nat.le_of_ble_eq_true rfl) dX10_judgeOrder_155 (fun x51 h50 => (?_)))
        refine z_aload_n (pc := 158) dX10_judgeOrder_158 rfl 0 rfl (z_getI (pc := 159) fl_RX10_306 rfl dX10_judgeOrder_159 (?_))
        refine z_icmp_ge (pc := 162) (tgt := 174) dX10_judgeOrder_162 (by decide) ?_ ?_
        · refine z_bipush (pc := 174) dX10_judgeOrder_174 bp_m9 (?_)
          exact z_iret (pc := 176) dX10_judgeOrder_176 rfl rfl
        · refine z_aload_n (pc := 165) dX10_judgeOrder_165 rfl 0 rfl (z_getRl (pc := 166) fl_RX10_17 rfl dX10_judgeOrder_166 (fun o52 => (z_iload_n (pc := 169) dX10_judgeOrder_169 rfl 2 rfl (?_))))
          refine z_nn (fun a53 ea53 => ?_)
          subst ea53
          refine z_iaload (pc := 170) dX10_judgeOrder_170 (z_goto (pc := 171) (tgt := 176) dX10_judgeOrder_171 (by decide) (?_))
          exact z_iret (pc := 176) dX10_judgeOrder_176 rfl rfl
      · refine z_aload_n (pc := 27) dX10_judgeOrder_27 rfl 0 rfl (z_iconst (pc := 28) dX10_judgeOrder_28 ic_1 (z_callV_I (pc := 29) (avs := [vi 1]) (st := []) rfl (q := (RX10, TX10, 62)) rfl rfl (t_X10_meets F a0 1 h5) ky_X10_meets wm_X10_meets we_X10_meets wz_RX10_174 (rm_X10_judgeOrder_X10_meets) (Nat.le_of_ble_eq_true rfl) dX10_judgeOrder_29 (fun x55 h54 => (?_))))
        exact z_iret (pc := 32) dX10_judgeOrder_32 rfl rfl
    · refine z_iconst (pc := 16) dX10_judgeOrder_16 ic_m1 (?_)
      exact z_iret (pc := 17) dX10_judgeOrder_17 rfl rfl
theorem dX10_setYears_0 : decode cX10_setYears 0 = .ok (.aload_n 0, 1) := by decide +kernel
theorem dX10_setYears_1 : decode cX10_setYears 1 = .ok (.iconst 3, 1) := by decide +kernel
theorem dX10_setYears_2 : decode cX10_setYears 2 = .ok (.invokevirtual 228, 3) := by decide +kernel
theorem dX10_setYears_5 : decode cX10_setYears 5 = .ok (.istore_n 2, 1) := by decide +kernel
theorem dX10_setYears_6 : decode cX10_setYears 6 = .ok (.iconst 0, 1) := by decide +kernel
theorem dX10_setYears_7 : decode cX10_setYears 7 = .ok (.istore_n 3, 1) := by decide +kernel
theorem dX10_setYears_8 : decode cX10_setYears 8 = .ok (.iload_n 3, 1) := by decide +kernel
theorem dX10_setYears_9 : decode cX10_setYears 9 = .ok (.aload_n 0, 1) := by decide +kernel
theorem dX10_setYears_10 : decode cX10_setYears 10 = .ok (.getfield 262, 3) := by decide +kernel
theorem dX10_setYears_13 : decode cX10_setYears 13 = .ok (.if_icmp .ge 188, 3) := by decide +kernel
theorem dX10_setYears_16 : decode cX10_setYears 16 = .ok (.aload_n 0, 1) := by decide +kernel
theorem dX10_setYears_17 : decode cX10_setYears 17 = .ok (.getfield 114, 3) := by decide +kernel
theorem dX10_setYears_20 : decode cX10_setYears 20 = .ok (.iload_n 3, 1) := by decide +kernel
theorem dX10_setYears_21 : decode cX10_setYears 21 = .ok (.sipush 1500, 3) := by decide +kernel
theorem dX10_setYears_24 : decode cX10_setYears 24 = .ok (.iastore, 1) := by decide +kernel
theorem dX10_setYears_25 : decode cX10_setYears 25 = .ok (.aload_n 0, 1) := by decide +kernel
theorem dX10_setYears_26 : decode cX10_setYears 26 = .ok (.getfield 117, 3) := by decide +kernel
theorem dX10_setYears_29 : decode cX10_setYears 29 = .ok (.iload_n 3, 1) := by decide +kernel
theorem dX10_setYears_30 : decode cX10_setYears 30 = .ok (.sipush 1999, 3) := by decide +kernel
theorem dX10_setYears_33 : decode cX10_setYears 33 = .ok (.iastore, 1) := by decide +kernel
theorem dX10_setYears_34 : decode cX10_setYears 34 = .ok (.aload_n 0, 1) := by decide +kernel
theorem dX10_setYears_35 : decode cX10_setYears 35 = .ok (.getfield 71, 3) := by decide +kernel
theorem dX10_setYears_38 : decode cX10_setYears 38 = .ok (.iload_n 3, 1) := by decide +kernel
theorem dX10_setYears_39 : decode cX10_setYears 39 = .ok (.iaload, 1) := by decide +kernel
theorem dX10_setYears_40 : decode cX10_setYears 40 = .ok (.istore 4, 2) := by decide +kernel
theorem dX10_setYears_42 : decode cX10_setYears 42 = .ok (.iload 4, 2) := by decide +kernel
theorem dX10_setYears_44 : decode cX10_setYears 44 = .ok (.ifCond .lt 62, 3) := by decide +kernel
theorem dX10_setYears_47 : decode cX10_setYears 47 = .ok (.aload_n 0, 1) := by decide +kernel
theorem dX10_setYears_48 : decode cX10_setYears 48 = .ok (.getfield 62, 3) := by decide +kernel
theorem dX10_setYears_51 : decode cX10_setYears 51 = .ok (.iload 4, 2) := by decide +kernel
theorem dX10_setYears_53 : decode cX10_setYears 53 = .ok (.iaload, 1) := by decide +kernel
theorem dX10_setYears_54 : decode cX10_setYears 54 = .ok (.ifCond .lt 52, 3) := by decide +kernel
theorem dX10_setYears_57 : decode cX10_setYears 57 = .ok (.aload_n 0, 1) := by decide +kernel
theorem dX10_setYears_58 : decode cX10_setYears 58 = .ok (.getfield 114, 3) := by decide +kernel
theorem dX10_setYears_61 : decode cX10_setYears 61 = .ok (.iload_n 3, 1) := by decide +kernel
theorem dX10_setYears_62 : decode cX10_setYears 62 = .ok (.aload_n 0, 1) := by decide +kernel
theorem dX10_setYears_63 : decode cX10_setYears 63 = .ok (.getfield 62, 3) := by decide +kernel
theorem dX10_setYears_66 : decode cX10_setYears 66 = .ok (.iload 4, 2) := by decide +kernel
theorem dX10_setYears_68 : decode cX10_setYears 68 = .ok (.iaload, 1) := by decide +kernel
theorem dX10_setYears_69 : decode cX10_setYears 69 = .ok (.iastore, 1) := by decide +kernel
theorem dX10_setYears_70 : decode cX10_setYears 70 = .ok (.aload_n 0, 1) := by decide +kernel
theorem dX10_setYears_71 : decode cX10_setYears 71 = .ok (.getfield 117, 3) := by decide +kernel
theorem dX10_setYears_74 : decode cX10_setYears 74 = .ok (.iload_n 3, 1) := by decide +kernel
theorem dX10_setYears_75 : decode cX10_setYears 75 = .ok (.aload_n 0, 1) := by decide +kernel
theorem dX10_setYears_76 : decode cX10_setYears 76 = .ok (.getfield 65, 3) := by decide +kernel
theorem dX10_setYears_79 : decode cX10_setYears 79 = .ok (.iload 4, 2) := by decide +kernel
theorem dX10_setYears_81 : decode cX10_setYears 81 = .ok (.iaload, 1) := by decide +kernel
theorem dX10_setYears_82 : decode cX10_setYears 82 = .ok (.iload_n 2, 1) := by decide +kernel
theorem dX10_setYears_83 : decode cX10_setYears 83 = .ok (.iadd, 1) := by decide +kernel
theorem dX10_setYears_84 : decode cX10_setYears 84 = .ok (.sipush 1999, 3) := by decide +kernel
theorem dX10_setYears_87 : decode cX10_setYears 87 = .ok (.if_icmp .ge 15, 3) := by decide +kernel
theorem dX10_setYears_90 : decode cX10_setYears 90 = .ok (.aload_n 0, 1) := by decide +kernel
theorem dX10_setYears_91 : decode cX10_setYears 91 = .ok (.getfield 65, 3) := by decide +kernel
theorem dX10_setYears_94 : decode cX10_setYears 94 = .ok (.iload 4, 2) := by decide +kernel
theorem dX10_setYears_96 : decode cX10_setYears 96 = .ok (.iaload, 1) := by decide +kernel
theorem dX10_setYears_97 : decode cX10_setYears 97 = .ok (.iload_n 2, 1) := by decide +kernel
theorem dX10_setYears_98 : decode cX10_setYears 98 = .ok (.iadd, 1) := by decide +kernel
theorem dX10_setYears_99 : decode cX10_setYears 99 = .ok (.goto 6, 3) := by decide +kernel
theorem dX10_setYears_102 : decode cX10_setYears 102 = .ok (.sipush 1999, 3) := by decide +kernel
theorem dX10_setYears_105 : decode cX10_setYears 105 = .ok (.iastore, 1) := by decide +kernel
theorem dX10_setYears_106 : decode cX10_setYears 106 = .ok (.aload_n 0, 1) := by decide +kernel
theorem dX10_setYears_107 : decode cX10_setYears 107 = .ok (.getfield 89, 3) := by decide +kernel
theorem dX10_setYears_110 : decode cX10_setYears 110 = .ok (.iload_n 3, 1) := by decide +kernel
theorem dX10_setYears_111 : decode cX10_setYears 111 = .ok (.iaload, 1) := by decide +kernel
theorem dX10_setYears_112 : decode cX10_setYears 112 = .ok (.ifCond .lt 83, 3) := by decide +kernel
theorem dX10_setYears_115 : decode cX10_setYears 115 = .ok (.iload_n 1, 1) := by decide +kernel
theorem dX10_setYears_116 : decode cX10_setYears 116 = .ok (.iload_n 3, 1) := by decide +kernel
theorem dX10_setYears_117 : decode cX10_setYears 117 = .ok (.invokestatic 312, 3) := by decide +kernel
theorem dX10_setYears_120 : decode cX10_setYears 120 = .ok (.ifCond .ne 75, 3) := by decide +kernel
theorem dX10_setYears_123 : decode cX10_setYears 123 = .ok (.aload_n 0, 1) := by decide +kernel
theorem dX10_setYears_124 : decode cX10_setYears 124 = .ok (.getfield 114, 3) := by decide +kernel
theorem dX10_setYears_127 : decode cX10_setYears 127 = .ok (.iload_n 3, 1) := by decide +kernel
theorem dX10_setYears_128 : decode cX10_setYears 128 = .ok (.aload_n 0, 1) := by decide +kernel
theorem dX10_setYears_129 : decode cX10_setYears 129 = .ok (.getfield 89, 3) := by decide +kernel
theorem dX10_setYears_132 : decode cX10_setYears 132 = .ok (.iload_n 3, 1) := by decide +kernel
theorem dX10_setYears_133 : decode cX10_setYears 133 = .ok (.iaload, 1) := by decide +kernel
theorem dX10_setYears_134 : decode cX10_setYears 134 = .ok (.aload_n 0, 1) := by decide +kernel
theorem dX10_setYears_135 : decode cX10_setYears 135 = .ok (.getfield 114, 3) := by decide +kernel
theorem dX10_setYears_138 : decode cX10_setYears 138 = .ok (.iload_n 3, 1) := by decide +kernel
theorem dX10_setYears_139 : decode cX10_setYears 139 = .ok (.iaload, 1) := by decide +kernel
theorem dX10_setYears_140 : decode cX10_setYears 140 = .ok (.if_icmp .le 12, 3) := by decide +kernel
theorem dX10_setYears_143 : decode cX10_setYears 143 = .ok (.aload_n 0, 1) := by decide +kernel
theorem dX10_setYears_144 : decode cX10_setYears 144 = .ok (.getfield 89, 3) := by decide +kernel
theorem dX10_setYears_147 : decode cX10_setYears 147 = .ok (.iload_n 3, 1) := by decide +kernel
theorem dX10_setYears_148 : decode cX10_setYears 148 = .ok (.iaload, 1) := by decide +kernel
theorem dX10_setYears_149 : decode cX10_setYears 149 = .ok (.goto 9, 3) := by decide +kernel
theorem dX10_setYears_152 : decode cX10_setYears 152 = .ok (.aload_n 0, 1) := by decide +kernel
theorem dX10_setYears_153 : decode cX10_setYears 153 = .ok (.getfield 114, 3) := by decide +kernel
theorem dX10_setYears_156 : decode cX10_setYears 156 = .ok (.iload_n 3, 1) := by decide +kernel
theorem dX10_setYears_157 : decode cX10_setYears 157 = .ok (.iaload, 1) := by decide +kernel
theorem dX10_setYears_158 : decode cX10_setYears 158 = .ok (.iastore, 1) := by decide +kernel
theorem dX10_setYears_159 : decode cX10_setYears 159 = .ok (.aload_n 0, 1) := by decide +kernel
theorem dX10_setYears_160 : decode cX10_setYears 160 = .ok (.getfield 117, 3) := by decide +kernel
theorem dX10_setYears_163 : decode cX10_setYears 163 = .ok (.iload_n 3, 1) := by decide +kernel
theorem dX10_setYears_164 : decode cX10_setYears 164 = .ok (.aload_n 0, 1) := by decide +kernel
theorem dX10_setYears_165 : decode cX10_setYears 165 = .ok (.getfield 92, 3) := by decide +kernel
theorem dX10_setYears_168 : decode cX10_setYears 168 = .ok (.iload_n 3, 1) := by decide +kernel
theorem dX10_setYears_169 : decode cX10_setYears 169 = .ok (.iaload, 1) := by decide +kernel
theorem dX10_setYears_170 : decode cX10_setYears 170 = .ok (.aload_n 0, 1) := by decide +kernel
theorem dX10_setYears_171 : decode cX10_setYears 171 = .ok (.getfield 117, 3) := by decide +kernel
theorem dX10_setYears_174 : decode cX10_setYears 174 = .ok (.iload_n 3, 1) := by decide +kernel
theorem dX10_setYears_175 : decode cX10_setYears 175 = .ok (.iaload, 1) := by decide +kernel
theorem dX10_setYears_176 : decode cX10_setYears 176 = .ok (.if_icmp .ge 12, 3) := by decide +kernel
theorem dX10_setYears_179 : decode cX10_setYears 179 = .ok (.aload_n 0, 1) := by decide +kernel
theorem dX10_setYears_180 : decode cX10_setYears 180 = .ok (.getfield 92, 3) := by decide +kernel
theorem dX10_setYears_183 : decode cX10_setYears 183 = .ok (.iload_n 3, 1) := by decide +kernel
theorem dX10_setYears_184 : decode cX10_setYears 184 = .ok (.iaload, 1) := by decide +kernel
theorem dX10_setYears_185 : decode cX10_setYears 185 = .ok (.goto 9, 3) := by decide +kernel
theorem dX10_setYears_188 : decode cX10_setYears 188 = .ok (.aload_n 0, 1) := by decide +kernel
theorem dX10_setYears_189 : decode cX10_setYears 189 = .ok (.getfield 117, 3) := by decide +kernel
theorem dX10_setYears_192 : decode cX10_setYears 192 = .ok (.iload_n 3, 1) := by decide +kernel
theorem dX10_setYears_193 : decode cX10_setYears 193 = .ok (.iaload, 1) := by decide +kernel
theorem dX10_setYears_194 : decode cX10_setYears 194 = .ok (.iastore, 1) := by decide +kernel
theorem dX10_setYears_195 : decode cX10_setYears 195 = .ok (.iinc 3 1, 3) := by decide +kernel
theorem dX10_setYears_198 : decode cX10_setYears 198 = .ok (.goto (-190), 3) := by decide +kernel
theorem dX10_setYears_201 : decode cX10_setYears 201 = .ok (.iconst 0, 1) := by decide +kernel
theorem dX10_setYears_202 : decode cX10_setYears 202 = .ok (.istore_n 3, 1) := by decide +kernel
theorem dX10_setYears_203 : decode cX10_setYears 203 = .ok (.iload_n 3, 1) := by decide +kernel
theorem dX10_setYears_204 : decode cX10_setYears 204 = .ok (.aload_n 0, 1) := by decide +kernel
theorem dX10_setYears_205 : decode cX10_setYears 205 = .ok (.getfield 262, 3) := by decide +kernel
theorem dX10_setYears_208 : decode cX10_setYears 208 = .ok (.if_icmp .ge 138, 3) := by decide +kernel
theorem dX10_setYears_211 : decode cX10_setYears 211 = .ok (.iconst 0, 1) := by decide +kernel
theorem dX10_setYears_212 : decode cX10_setYears 212 = .ok (.istore 4, 2) := by decide +kernel
theorem dX10_setYears_214 : decode cX10_setYears 214 = .ok (.iload 4, 2) := by decide +kernel
theorem dX10_setYears_216 : decode cX10_setYears 216 = .ok (.aload_n 0, 1) := by decide +kernel
theorem dX10_setYears_217 : decode cX10_setYears 217 = .ok (.getfield 262, 3) := by decide +kernel
theorem dX10_setYears_220 : decode cX10_setYears 220 = .ok (.if_icmp .ge 120, 3) := by decide +kernel
theorem dX10_setYears_223 : decode cX10_setYears 223 = .ok (.iconst 0, 1) := by decide +kernel
theorem dX10_setYears_224 : decode cX10_setYears 224 = .ok (.istore 5, 2) := by decide +kernel
theorem dX10_setYears_226 : decode cX10_setYears 226 = .ok (.iload 5, 2) := by decide +kernel
theorem dX10_setYears_228 : decode cX10_setYears 228 = .ok (.aload_n 0, 1) := by decide +kernel
theorem dX10_setYears_229 : decode cX10_setYears 229 = .ok (.getfield 262, 3) := by decide +kernel
theorem dX10_setYears_232 : decode cX10_setYears 232 = .ok (.if_icmp .ge 102, 3) := by decide +kernel
theorem dX10_setYears_235 : decode cX10_setYears 235 = .ok (.aload_n 0, 1) := by decide +kernel
theorem dX10_setYears_236 : decode cX10_setYears 236 = .ok (.iload 4, 2) := by decide +kernel
theorem dX10_setYears_238 : decode cX10_setYears 238 = .ok (.iload 5, 2) := by decide +kernel
theorem dX10_setYears_240 : decode cX10_setYears 240 = .ok (.invokevirtual 309, 3) := by decide +kernel
theorem dX10_setYears_243 : decode cX10_setYears 243 = .ok (.ifCond .eq 85, 3) := by decide +kernel
theorem dX10_setYears_246 : decode cX10_setYears 246 = .ok (.aload_n 0, 1) := by decide +kernel
theorem dX10_setYears_247 : decode cX10_setYears 247 = .ok (.getfield 114, 3) := by decide +kernel
theorem dX10_setYears_250 : decode cX10_setYears 250 = .ok (.iload 5, 2) := by decide +kernel
theorem dX10_setYears_252 : decode cX10_setYears 252 = .ok (.aload_n 0, 1) := by decide +kernel
theorem dX10_setYears_253 : decode cX10_setYears 253 = .ok (.getfield 114, 3) := by decide +kernel
theorem dX10_setYears_256 : decode cX10_setYears 256 = .ok (.iload 4, 2) := by decide +kernel
theorem dX10_setYears_258 : decode cX10_setYears 258 = .ok (.iaload, 1) := by decide +kernel
theorem dX10_setYears_259 : decode cX10_setYears 259 = .ok (.aload_n 0, 1) := by decide +kernel
theorem dX10_setYears_260 : decode cX10_setYears 260 = .ok (.getfield 114, 3) := by decide +kernel
theorem dX10_setYears_263 : decode cX10_setYears 263 = .ok (.iload 5, 2) := by decide +kernel
theorem dX10_setYears_265 : decode cX10_setYears 265 = .ok (.iaload, 1) := by decide +kernel
theorem dX10_setYears_266 : decode cX10_setYears 266 = .ok (.if_icmp .le 13, 3) := by decide +kernel
theorem dX10_setYears_269 : decode cX10_setYears 269 = .ok (.aload_n 0, 1) := by decide +kernel
theorem dX10_setYears_270 : decode cX10_setYears 270 = .ok (.getfield 114, 3) := by decide +kernel
theorem dX10_setYears_273 : decode cX10_setYears 273 = .ok (.iload 4, 2) := by decide +kernel
theorem dX10_setYears_275 : decode cX10_setYears 275 = .ok (.iaload, 1) := by decide +kernel
theorem dX10_setYears_276 : decode cX10_setYears 276 = .ok (.goto 10, 3) := by decide +kernel
theorem dX10_setYears_279 : decode cX10_setYears 279 = .ok (.aload_n 0, 1) := by decide +kernel
theorem dX10_setYears_280 : decode cX10_setYears 280 = .ok (.getfield 114, 3) := by decide +kernel
theorem dX10_setYears_283 : decode cX10_setYears 283 = .ok (.iload 5, 2) := by decide +kernel
theorem dX10_setYears_285 : decode cX10_setYears 285 = .ok (.iaload, 1) := by decide +kernel
theorem dX10_setYears_286 : decode cX10_setYears 286 = .ok (.iastore, 1) := by decide +kernel
theorem dX10_setYears_287 : decode cX10_setYears 287 = .ok (.aload_n 0, 1) := by decide +kernel
theorem dX10_setYears_288 : decode cX10_setYears 288 = .ok (.getfield 117, 3) := by decide +kernel
theorem dX10_setYears_291 : decode cX10_setYears 291 = .ok (.iload 4, 2) := by decide +kernel
theorem dX10_setYears_293 : decode cX10_setYears 293 = .ok (.aload_n 0, 1) := by decide +kernel
theorem dX10_setYears_294 : decode cX10_setYears 294 = .ok (.getfield 117, 3) := by decide +kernel
theorem dX10_setYears_297 : decode cX10_setYears 297 = .ok (.iload 5, 2) := by decide +kernel
theorem dX10_setYears_299 : decode cX10_setYears 299 = .ok (.iaload, 1) := by decide +kernel
theorem dX10_setYears_300 : decode cX10_setYears 300 = .ok (.aload_n 0, 1) := by decide +kernel
theorem dX10_setYears_301 : decode cX10_setYears 301 = .ok (.getfield 117, 3) := by decide +kernel
theorem dX10_setYears_304 : decode cX10_setYears 304 = .ok (.iload 4, 2) := by decide +kernel
theorem dX10_setYears_306 : decode cX10_setYears 306 = .ok (.iaload, 1) := by decide +kernel
theorem dX10_setYears_307 : decode cX10_setYears 307 = .ok (.if_icmp .ge 13, 3) := by decide +kernel
theorem dX10_setYears_310 : decode cX10_setYears 310 = .ok (.aload_n 0, 1) := by decide +kernel
theorem dX10_setYears_311 : decode cX10_setYears 311 = .ok (.getfield 117, 3) := by decide +kernel
theorem dX10_setYears_314 : decode cX10_setYears 314 = .ok (.iload 5, 2) := by decide +kernel
theorem dX10_setYears_316 : decode cX10_setYears 316 = .ok (.iaload, 1) := by decide +kernel
theorem dX10_setYears_317 : decode cX10_setYears 317 = .ok (.goto 10, 3) := by decide +kernel
theorem dX10_setYears_320 : decode cX10_setYears 320 = .ok (.aload_n 0, 1) := by decide +kernel
theorem dX10_setYears_321 : decode cX10_setYears 321 = .ok (.getfield 117, 3) := by decide +kernel
theorem dX10_setYears_324 : decode cX10_setYears 324 = .ok (.iload 4, 2) := by decide +kernel
theorem dX10_setYears_326 : decode cX10_setYears 326 = .ok (.iaload, 1) := by decide +kernel
theorem dX10_setYears_327 : decode cX10_setYears 327 = .ok (.iastore, 1) := by decide +kernel
theorem dX10_setYears_328 : decode cX10_setYears 328 = .ok (.iinc 5 1, 3) := by decide +kernel
theorem dX10_setYears_331 : decode cX10_setYears 331 = .ok (.goto (-105), 3) := by decide +kernel
theorem dX10_setYears_334 : decode cX10_setYears 334 = .ok (.iinc 4 1, 3) := by decide +kernel
theorem dX10_setYears_337 : decode cX10_setYears 337 = .ok (.goto (-123), 3) := by decide +kernel
theorem dX10_setYears_340 : decode cX10_setYears 340 = .ok (.iinc 3 1, 3) := by decide +kernel
theorem dX10_setYears_343 : decode cX10_setYears 343 = .ok (.goto (-140), 3) := by decide +kernel
theorem dX10_setYears_346 : decode cX10_setYears 346 = .ok (.iconst 1, 1) := by decide +kernel
theorem dX10_setYears_347 : decode cX10_setYears 347 = .ok (.istore_n 3, 1) := by decide +kernel
theorem dX10_setYears_348 : decode cX10_setYears 348 = .ok (.iconst 0, 1) := by decide +kernel
theorem dX10_setYears_349 : decode cX10_setYears 349 = .ok (.istore 4, 2) := by decide +kernel
theorem dX10_setYears_351 : decode cX10_setYears 351 = .ok (.iload 4, 2) := by decide +kernel
theorem dX10_setYears_353 : decode cX10_setYears 353 = .ok (.aload_n 0, 1) := by decide +kernel
theorem dX10_setYears_354 : decode cX10_setYears 354 = .ok (.getfield 262, 3) := by decide +kernel
theorem dX10_setYears_357 : decode cX10_setYears 357 = .ok (.if_icmp .ge 36, 3) := by decide +kernel
theorem dX10_setYears_360 : decode cX10_setYears 360 = .ok (.iload_n 3, 1) := by decide +kernel
theorem dX10_setYears_361 : decode cX10_setYears 361 = .ok (.ifCond .eq 24, 3) := by decide +kernel
theorem dX10_setYears_364 : decode cX10_setYears 364 = .ok (.aload_n 0, 1) := by decide +kernel
theorem dX10_setYears_365 : decode cX10_setYears 365 = .ok (.getfield 114, 3) := by decide +kernel
theorem dX10_setYears_368 : decode cX10_setYears 368 = .ok (.iload 4, 2) := by decide +kernel
theorem dX10_setYears_370 : decode cX10_setYears 370 = .ok (.iaload, 1) := by decide +kernel
theorem dX10_setYears_371 : decode cX10_setYears 371 = .ok (.aload_n 0, 1) := by decide +kernel
theorem dX10_setYears_372 : decode cX10_setYears 372 = .ok (.getfield 117, 3) := by decide +kernel
theorem dX10_setYears_375 : decode cX10_setYears 375 = .ok (.iload 4, 2) := by decide +kernel
theorem dX10_setYears_377 : decode cX10_setYears 377 = .ok (.iaload, 1) := by decide +kernel
theorem dX10_setYears_378 : decode cX10_setYears 378 = .ok (.if_icmp .gt 7, 3) := by decide +kernel
theorem dX10_setYears_381 : decode cX10_setYears 381 = .ok (.iconst 1, 1) := by decide +kernel
theorem dX10_setYears_382 : decode cX10_setYears 382 = .ok (.goto 4, 3) := by decide +kernel
theorem dX10_setYears_385 : decode cX10_setYears 385 = .ok (.iconst 0, 1) := by decide +kernel
theorem dX10_setYears_386 : decode cX10_setYears 386 = .ok (.istore_n 3, 1) := by decide +kernel
theorem dX10_setYears_387 : decode cX10_setYears 387 = .ok (.iinc 4 1, 3) := by decide +kernel
theorem dX10_setYears_390 : decode cX10_setYears 390 = .ok (.goto (-39), 3) := by decide +kernel
theorem dX10_setYears_393 : decode cX10_setYears 393 = .ok (.iload_n 3, 1) := by decide +kernel
theorem dX10_setYears_394 : decode cX10_setYears 394 = .ok (.ireturn, 1) := by decide +kernel
set_option maxRecDepth 20000 in
def c_X10_setYears_L8 (F : Nat) (a4 : Nat) (x5 : Int32) (x6 : Int32) (k201 : z_Hp → Option (Int32 × z_Hp)) : Nat → Int32 → z_Hp → Option (Int32 × z_Hp)
  | 0, _, _ => none
  | n + 1, x7, h8 => (if hT h8 a4 = 10 then (if (hI h8 a4 26) ≤ x7 then (k201 h8) else (if hT h8 a4 = 10 then (lt_ (hR h8 a4 43) (fun o10 => (nn o10 (fun a11 => (if okA h8 a11 20 x7 = true then (lt_ (sI h8 a11 (ix x7) 1500) (fun h12 => (if hT h12 a4 = 10 then (lt_ (hR h12 a4 44) (fun o13 => (nn o13 (fun a14 => (if okA h12 a14 20 x7 = true then (lt_ (sI h12 a14 (ix x7) 1999) (fun h15 => (if hT h15 a4 = 10 then (lt_ (hR h15 a4 28) (fun o16 => (nn o16 (fun a17 => (if okA h15 a17 20 x7 = true then (lt_ (hI h15 a17 (ix x7)) (fun x18 => (lt_ (fun (h20 : z_Hp) => (if hT h20 a4 = 10 then (lt_ (hR h20 a4 34) (fun o21 => (nn o21 (fun a22 => (if okA h20 a22 20 x7 = true then (lt_ (fun (h24 : z_Hp) => (lt_ (x7 + 1) (fun x25 => (c_X10_setYears_L8 F a4 x5 x6 k201 n x25 h24)))) (fun (j195_23 : z_Hp → Option (Int32 × z_Hp)) => (if (hI h20 a22 (ix x7)) < 0 then (j195_23 h20) else (bI (c_X10_has F x5 x7 h20) (fun x27 h26 => (if x27 = 0 then (if hT h26 a4 = 10 then (lt_ (hR h26 a4 43) (fun o28 => (if hT h26 a4 = 10 then (lt_ (hR h26 a4 34) (fun o29 => (nn o29 (fun a30 => (if okA h26 a30 20 x7 = true then (if hT h26 a4 = 10 then (lt_ (hR h26 a4 43) (fun o31 => (nn o31 (fun a32 => (if okA h26 a32 20 x7 = true then (lt_ (fun (x34 : Int32) (h35 : z_Hp) => (nn o28 (fun a36 => (if okA h35 a36 20 x7 = true then (lt_ (sI h35 a36 (ix x7) x34) (fun h37 => (if hT h37 a4 = 10 then (lt_ (hR h37 a4 44) (fun o38 => (if hT h37 a4 = 10 then (lt_ (hR h37 a4 35) (fun o39 => (nn o39 (fun a40 => (if okA h37 a40 20 x7 = true then (if hT h37 a4 = 10 then (lt_ (hR h37 a4 44) (fun o41 => (nn o41 (fun a42 => (if okA h37 a42 20 x7 = true then (lt_ (fun (x44 : Int32) (h45 : z_Hp) => (nn o38 (fun a46 => (if okA h45 a46 20 x7 = true then (lt_ (sI h45 a46 (ix x7) x44) (fun h47 => (j195_23 h47))) else none)))) (fun (j194_43 : Int32 → z_Hp → Option (Int32 × z_Hp)) => (if (hI h37 a42 (ix x7)) ≤ (hI h37 a40 (ix x7)) then (if hT h37 a4 = 10 then (lt_ (hR h37 a4 44) (fun o48 => (nn o48 (fun a49 => (if okA h37 a49 20 x7 = true then (j194_43 (hI h37 a49 (ix x7)) h37) else none))))) else none) else (if hT h37 a4 = 10 then (lt_ (hR h37 a4 35) (fun o50 => (nn o50 (fun a51 => (if okA h37 a51 20 x7 = true then (j194_43 (hI h37 a51 (ix x7)) h37) else none))))) else none)))) else none))))) else none) else none))))) else none))) else none))) else none)))) (fun (j158_33 : Int32 → z_Hp → Option (Int32 × z_Hp)) => (if (hI h26 a30 (ix x7)) ≤ (hI h26 a32 (ix x7)) then (if hT h26 a4 = 10 then (lt_ (hR h26 a4 43) (fun o52 => (nn o52 (fun a53 => (if okA h26 a53 20 x7 = true then (j158_33 (hI h26 a53 (ix x7)) h26) else none))))) else none) else (if hT h26 a4 = 10 then (lt_ (hR h26 a4 34) (fun o54 => (nn o54 (fun a55 => (if okA h26 a55 20 x7 = true then (j158_33 (hI h26 a55 (ix x7)) h26) else none))))) else none)))) else none))))) else none) else none))))) else none))) else none) else (j195_23 h26))))))) else none))))) else none)) (fun (j106_19 : z_Hp → Option (Int32 × z_Hp)) => (if x18 < 0 then (j106_19 h15) else (if hT h15 a4 = 10 then (lt_ (hR h15 a4 24) (fun o56 => (nn o56 (fun a57 => (if okA h15 a57 20 x18 = true then (if (hI h15 a57 (ix x18)) < 0 then (j106_19 h15) else (if hT h15 a4 = 10 then (lt_ (hR h15 a4 43) (fun o58 => (if hT h15 a4 = 10 then (lt_ (hR h15 a4 24) (fun o59 => (nn o59 (fun a60 => (if okA h15 a60 20 x18 = true then (nn o58 (fun a61 => (if okA h15 a61 20 x7 = true then (lt_ (sI h15 a61 (ix x7) (hI h15 a60 (ix x18))) (fun h62 => (if hT h62 a4 = 10 then (lt_ (hR h62 a4 44) (fun o63 => (if hT h62 a4 = 10 then (lt_ (hR h62 a4 25) (fun o64 => (nn o64 (fun a65 => (if okA h62 a65 20 x18 = true then (lt_ (fun (x67 : Int32) (h68 : z_Hp) => (nn o63 (fun a69 => (if okA h68 a69 20 x7 = true then (lt_ (sI h68 a69 (ix x7) x67) (fun h70 => (j106_19 h70))) else none)))) (fun (j105_66 : Int32 → z_Hp → Option (Int32 × z_Hp)) => (if 1999 ≤ ((hI h62 a65 (ix x18)) + x6) then (j105_66 1999 h62) else (if hT h62 a4 = 10 then (lt_ (hR h62 a4 25) (fun o71 => (nn o71 (fun a72 => (if okA h62 a72 20 x18 = true then (j105_66 ((hI h62 a72 (ix x18)) + x6) h62) else none))))) else none)))) else none))))) else none))) else none))) else none))) else none))))) else none))) else none)) else none))))) else none)))))) else none))))) else none))) else none))))) else none))) else none))))) else none)) else none)
set_option maxRecDepth 20000 in
def c_X10_setYears_L226 (F : Nat) (a83 : Nat) (x84 : Int32) (x85 : Int32) (k334 : z_Hp → Option (Int32 × z_Hp)) : Nat → Int32 → z_Hp → Option (Int32 × z_Hp)
  | 0, _, _ => none
  | n + 1, x86, h87 => (if hT h87 a83 = 10 then (if (hI h87 a83 26) ≤ x86 then (k334 h87) else (if hT h87 a83 = 10 then (bI (c_X10_isAhead F a83 x85 x86 h87) (fun x90 h89 => (lt_ (fun (h92 : z_Hp) => (lt_ (x86 + 1) (fun x93 => (c_X10_setYears_L226 F a83 x84 x85 k334 n x93 h92)))) (fun (j328_91 : z_Hp → Option (Int32 × z_Hp)) => (if x90 = 0 then (j328_91 h89) else (if hT h89 a83 = 10 then (lt_ (hR h89 a83 43) (fun o94 => (if hT h89 a83 = 10 then (lt_ (hR h89 a83 43) (fun o95 => (nn o95 (fun a96 => (if okA h89 a96 20 x85 = true then (if hT h89 a83 = 10 then (lt_ (hR h89 a83 43) (fun o97 => (nn o97 (fun a98 => (if okA h89 a98 20 x86 = true then (lt_ (fun (x100 : Int32) (h101 : z_Hp) => (nn o94 (fun a102 => (if okA h101 a102 20 x86 = true then (lt_ (sI h101 a102 (ix x86) x100) (fun h103 => (if hT h103 a83 = 10 then (lt_ (hR h103 a83 44) (fun o104 => (if hT h103 a83 = 10 then (lt_ (hR h103 a83 44) (fun o105 => (nn o105 (fun a106 => (if okA h103 a106 20 x86 = true then (if hT h103 a83 = 10 then (lt_ (hR h103 a83 44) (fun o107 => (nn o107 (fun a108 => (if okA h103 a108 20 x85 = true then (lt_ (fun (x110 : Int32) (h111 : z_Hp) => (nn o104 (fun a112 => (if okA h111 a112 20 x85 = true then (lt_ (sI h111 a112 (ix x85) x110) (fun h113 => (j328_91 h113))) else none)))) (fun (j327_109 : Int32 → z_Hp → Option (Int32 × z_Hp)) => (if (hI h103 a108 (ix x85)) ≤ (hI h103 a106 (ix x86)) then (if hT h103 a83 = 10 then (lt_ (hR h103 a83 44) (fun o114 => (nn o114 (fun a115 => (if okA h103 a115 20 x85 = true then (j327_109 (hI h103 a115 (ix x85)) h103) else none))))) else none) else (if hT h103 a83 = 10 then (lt_ (hR h103 a83 44) (fun o116 => (nn o116 (fun a117 => (if okA h103 a117 20 x86 = true then (j327_109 (hI h103 a117 (ix x86)) h103) else none))))) else none)))) else none))))) else none) else none))))) else none))) else none))) else none)))) (fun (j286_99 : Int32 → z_Hp → Option (Int32 × z_Hp)) => (if (hI h89 a96 (ix x85)) ≤ (hI h89 a98 (ix x86)) then (if hT h89 a83 = 10 then (lt_ (hR h89 a83 43) (fun o118 => (nn o118 (fun a119 => (if okA h89 a119 20 x86 = true then (j286_99 (hI h89 a119 (ix x86)) h89) else none))))) else none) else (if hT h89 a83 = 10 then (lt_ (hR h89 a83 43) (fun o120 => (nn o120 (fun a121 => (if okA h89 a121 20 x85 = true then (j286_99 (hI h89 a121 (ix x85)) h89) else none))))) else none)))) else none))))) else none) else none))))) else none))) else none)))))) else none)) else none)
def c_X10_setYears_L214 (F : Nat) (a78 : Nat) (x79 : Int32) (k340 : z_Hp → Option (Int32 × z_Hp)) : Nat → Int32 → z_Hp → Option (Int32 × z_Hp)
  | 0, _, _ => none
  | n + 1, x80, h81 => (if hT h81 a78 = 10 then (if (hI h81 a78 26) ≤ x80 then (k340 h81) else (c_X10_setYears_L226 F a78 x79 x80 (fun h122 => (lt_ (x80 + 1) (fun x123 => (c_X10_setYears_L214 F a78 x79 k340 n x123 h122)))) F 0 h81)) else none)
def c_X10_setYears_L203 (F : Nat) (a74 : Nat) (k346 : z_Hp → Option (Int32 × z_Hp)) : Nat → Int32 → z_Hp → Option (Int32 × z_Hp)
  | 0, _, _ => none
  | n + 1, x75, h76 => (if hT h76 a74 = 10 then (if (hI h76 a74 26) ≤ x75 then (k346 h76) else (c_X10_setYears_L214 F a74 x75 (fun h124 => (lt_ (x75 + 1) (fun x125 => (c_X10_setYears_L203 F a74 k346 n x125 h124)))) F 0 h76)) else none)
def c_X10_setYears_L351 (F : Nat) (a127 : Nat) : Nat → Int32 → Int32 → z_Hp → Option (Int32 × z_Hp)
  | 0, _, _, _ => none
  | n + 1, x128, x129, h130 => (if hT h130 a127 = 10 then (if (hI h130 a127 26) ≤ x129 then (if x128 = 0 ∨ x128 = 1 then some (x128, h130) else none) else (lt_ (fun (x132 : Int32) (h133 : z_Hp) => (lt_ (x129 + 1) (fun x134 => (c_X10_setYears_L351 F a127 n x132 x134 h133)))) (fun (j386_131 : Int32 → z_Hp → Option (Int32 × z_Hp)) => (lt_ (fun (h136 : z_Hp) => (j386_131 0 h136)) (fun (j385_135 : z_Hp → Option (Int32 × z_Hp)) => (if x128 = 0 then (j385_135 h130) else (if hT h130 a127 = 10 then (lt_ (hR h130 a127 43) (fun o137 => (nn o137 (fun a138 => (if okA h130 a138 20 x129 = true then (if hT h130 a127 = 10 then (lt_ (hR h130 a127 44) (fun o139 => (nn o139 (fun a140 => (if okA h130 a140 20 x129 = true then (if (hI h130 a140 (ix x129)) < (hI h130 a138 (ix x129)) then (j385_135 h130) else (j386_131 1 h130)) else none))))) else none) else none))))) else none))))))) else none)
def c_X10_setYears (F : Nat) (a0 : Nat) (x1 : Int32) (h0 : z_Hp) : Option (Int32 × z_Hp) := (if hT h0 a0 = 10 then (bI (c_X10_nowInForce F a0 3 h0) (fun x3 h2 => (c_X10_setYears_L8 F a0 x1 x3 (fun h73 => (c_X10_setYears_L203 F a0 (fun h126 => (c_X10_setYears_L351 F a0 F 1 0 h126)) F 0 h73)) F 0 h2))) else none)
set_option maxRecDepth 20000 in
set_option maxHeartbeats 4000000 in
theorem g_X10_setYears_L8 (F : Nat) (a4 : Nat) (x5 : Int32) (x6 : Int32) (k201 : z_Hp → Option (Int32 × z_Hp)) (qk201 : ∀ (h9 : z_Hp), z_G zi mi_X10_setYears 201 [(0, vr (some a4))] [] h9 (k201 h9)) : ∀ (n : Nat) (x7 : Int32) (h8 : z_Hp), z_G zi mi_X10_setYears 8 [(0, vr (some a4)), (1, vi x5), (2, vi x6), (3, vi x7)] [] h8 (c_X10_setYears_L8 F a4 x5 x6 k201 n x7 h8) := by
  intro n
  induction n with
  | zero => intro x7 h8; rw [c_X10_setYears_L8]; exact z_none
  | succ n ih =>
    intro x7 h8
    rw [c_X10_setYears_L8]
    refine z_iload_n (pc := 8) dX10_setYears_8 rfl 3 rfl (z_aload_n (pc := 9) dX10_setYears_9 rfl 0 rfl (z_getI (pc := 10) fl_RX10_262 rfl dX10_setYears_10 (?_)))
    refine z_icmp_ge (pc := 13) (tgt := 201) dX10_setYears_13 (by decide) ?_ ?_
    · exact z_sub [0] rfl (qk201 h8)
    · refine z_aload_n (pc := 16) dX10_setYears_16 rfl 0 rfl (z_getRl (pc := 17) fl_RX10_114 rfl dX10_setYears_17 (fun o10 => (z_iload_n (pc := 20) dX10_setYears_20 rfl 3 rfl (z_sipush (pc := 21) dX10_setYears_21 sp_1500 (?_)))))
      refine z_nn (fun a11 ea11 => ?_)
      subst ea11
      refine z_iastorel (pc := 24) dX10_setYears_24 (fun h12 => (z_aload_n (pc := 25) dX10_setYears_25 rfl 0 rfl (z_getRl (pc := 26) fl_RX10_117 rfl dX10_setYears_26 (fun o13 => (z_iload_n (pc := 29) dX10_setYears_29 rfl 3 rfl (z_sipush (pc := 30) dX10_setYears_30 sp_1999 (?_)))))))
      refine z_nn (fun a14 ea14 => ?_)
      subst ea14
      refine z_iastorel (pc := 33) dX10_setYears_33 (fun h15 => (z_aload_n (pc := 34) dX10_setYears_34 rfl 0 rfl (z_getRl (pc := 35) fl_RX10_71 rfl dX10_setYears_35 (fun o16 => (z_iload_n (pc := 38) dX10_setYears_38 rfl 3 rfl (?_))))))
      refine z_nn (fun a17 ea17 => ?_)
      subst ea17
      refine z_iaload (pc := 39) dX10_setYears_39 (z_istorel (pc := 40) (L' := fun x18 => [(0, vr (some a4)), (1, vi x5), (2, vi x6), (3, vi x7), (4, vi x18)]) dX10_setYears_40 (Nat.le_of_ble_eq_true rfl) (fun _ => rfl) (fun x18 => (z_iload (pc := 42) dX10_setYears_42 4 rfl (?_))))
      refine z_jn (P := fun (j : z_Hp → Option (Int32 × z_Hp)) => ∀ (h20 : z_Hp), z_G zi mi_X10_setYears 106 [(0, vr (some a4)), (1, vi x5), (2, vi x6), (3, vi x7)] [] h20 (j h20)) (fun h20 => ?_) (fun j106_19 qj106_19 => ?_)
      · refine z_aload_n (pc := 106) dX10_setYears_106 rfl 0 rfl (z_getRl (pc := 107) fl_RX10_89 rfl dX10_setYears_107 (fun o21 => (z_iload_n (pc := 110) dX10_setYears_110 rfl 3 rfl (?_))))
        refine z_nn (fun a22 ea22 => ?_)
        subst ea22
        refine z_iaload (pc := 111) dX10_setYears_111 (?_)
        refine z_jn (P := fun (j : z_Hp → Option (Int32 × z_Hp)) => ∀ (h24 : z_Hp), z_G zi mi_X10_setYears 195 [(0, vr (some a4)), (1, vi x5), (2, vi x6), (3, vi x7)] [] h24 (j h24)) (fun h24 => ?_) (fun j195_23 qj195_23 => ?_)
        · refine z_iincl (pc := 195) (L' := fun x25 => [(0, vr (some a4)), (1, vi x5), (2, vi x6), (3, vi x25)]) dX10_setYears_195 3 rfl ic_1 (Nat.le_of_ble_eq_true rfl) (fun _ => rfl) (fun x25 => (z_goto (pc := 198) (tgt := 8) dX10_setYears_198 (by decide) (?_)))
          exact ih x25 h24
        refine z_if_lt (pc := 112) (tgt := 195) dX10_setYears_112 (by decide) ?_ ?_
        · exact qj195_23 h20
        · refine z_iload_n (pc := 115) dX10_setYears_115 rfl 1 rfl (z_iload_n (pc := 116) dX10_setYears_116 rfl 3 rfl (z_callS_I (pc := 117) (avs := [vi x5, vi x7]) (st := []) rfl (t_X10_has F x5 x7 h20) ky_X10_has ws_X10_has wz_RX10_312 (rm_X10_setYears_X10_has) (Nat.le_of_ble_eq_true rfl) dX10_setYears_117 (fun x27 h26 => (?_))))
          refine z_if_ne (pc := 120) (tgt := 195) dX10_setYears_120 (by decide) ?_ ?_
          · exact qj195_23 h26
          · refine z_aload_n (pc := 123) dX10_setYears_123 rfl 0 rfl (z_getRl (pc := 124) fl_RX10_114 rfl dX10_setYears_124 (fun o28 => (z_iload_n (pc := 127) dX10_setYears_127 rfl 3 rfl (z_aload_n (pc := 128) dX10_setYears_128 rfl 0 rfl (z_getRl (pc := 129) fl_RX10_89 rfl dX10_setYears_129 (fun o29 => (z_iload_n (pc := 132) dX10_setYears_132 rfl 3 rfl (?_))))))))
            refine z_nn (fun a30 ea30 => ?_)
            subst ea30
            refine z_iaload (pc := 133) dX10_setYears_133 (z_aload_n (pc := 134) dX10_setYears_134 rfl 0 rfl (z_getRl (pc := 135) fl_RX10_114 rfl dX10_setYears_135 (fun o31 => (z_iload_n (pc := 138) dX10_setYears_138 rfl 3 rfl (?_)))))
            refine z_nn (fun a32 ea32 => ?_)
            subst ea32
            refine z_iaload (pc := 139) dX10_setYears_139 (?_)
            refine z_jn (P := fun (j : Int32 → z_Hp → Option (Int32 × z_Hp)) => ∀ (x34 : Int32) (h35 : z_Hp), z_G zi mi_X10_setYears 158 [(0, vr (some a4)), (1, vi x5), (2, vi x6), (3, vi x7)] [vi x34, vi x7, vr o28] h35 (j x34 h35)) (fun x34 h35 => ?_) (fun j158_33 qj158_33 => ?_)
            · refine z_nn (fun a36 ea36 => ?_)
              subst ea36
              refine z_iastorel (pc := 158) dX10_setYears_158 (fun h37 => (z_aload_n (pc := 159) dX10_setYears_159 rfl 0 rfl (z_getRl (pc := 160) fl_RX10_117 rfl dX10_setYears_160 (fun o38 => (z_iload_n (pc := 163) dX10_setYears_163 rfl 3 rfl (z_aload_n (pc := 164) dX10_setYears_164 rfl 0 rfl (z_getRl (pc := 165) fl_RX10_92 rfl dX10_setYears_165 (fun o39 => (z_iload_n (pc := 168) dX10_setYears_168 rfl 3 rfl (?_))))))))))
              refine z_nn (fun a40 ea40 => ?_)
              subst ea40
              refine z_iaload (pc := 169) dX10_setYears_169 (z_aload_n (pc := 170) dX10_setYears_170 rfl 0 rfl (z_getRl (pc := 171) fl_RX10_117 rfl dX10_setYears_171 (fun o41 => (z_iload_n (pc := 174) dX10_setYears_174 rfl 3 rfl (?_)))))
              refine z_nn (fun a42 ea42 => ?_)
              subst ea42
              refine z_iaload (pc := 175) dX10_setYears_175 (?_)
              refine z_jn (P := fun (j : Int32 → z_Hp → Option (Int32 × z_Hp)) => ∀ (x44 : Int32) (h45 : z_Hp), z_G zi mi_X10_setYears 194 [(0, vr (some a4)), (1, vi x5), (2, vi x6), (3, vi x7)] [vi x44, vi x7, vr o38] h45 (j x44 h45)) (fun x44 h45 => ?_) (fun j194_43 qj194_43 => ?_)
              · refine z_nn (fun a46 ea46 => ?_)
                subst ea46
                refine z_iastorel (pc := 194) dX10_setYears_194 (fun h47 => (?_))
                exact qj195_23 h47
              refine z_icmp_ge (pc := 176) (tgt := 188) dX10_setYears_176 (by decide) ?_ ?_
              · refine z_aload_n (pc := 188) dX10_setYears_188 rfl 0 rfl (z_getRl (pc := 189) fl_RX10_117 rfl dX10_setYears_189 (fun o48 => (z_iload_n (pc := 192) dX10_setYears_192 rfl 3 rfl (?_))))
                refine z_nn (fun a49 ea49 => ?_)
                subst ea49
                refine z_iaload (pc := 193) dX10_setYears_193 (?_)
                exact qj194_43 (hI h37 a49 (ix x7)) h37
              · refine z_aload_n (pc := 179) dX10_setYears_179 rfl 0 rfl (z_getRl (pc := 180) fl_RX10_92 rfl dX10_setYears_180 (fun o50 => (z_iload_n (pc := 183) dX10_setYears_183 rfl 3 rfl (?_))))
                refine z_nn (fun a51 ea51 => ?_)
                subst ea51
                refine z_iaload (pc := 184) dX10_setYears_184 (z_goto (pc := 185) (tgt := 194) dX10_setYears_185 (by decide) (?_))
                exact qj194_43 (hI h37 a51 (ix x7)) h37
            refine z_icmp_le (pc := 140) (tgt := 152) dX10_setYears_140 (by decide) ?_ ?_
            · refine z_aload_n (pc := 152) dX10_setYears_152 rfl 0 rfl (z_getRl (pc := 153) fl_RX10_114 rfl dX10_setYears_153 (fun o52 => (z_iload_n (pc := 156) dX10_setYears_156 rfl 3 rfl (?_))))
              refine z_nn (fun a53 ea53 => ?_)
              subst ea53
              refine z_iaload (pc := 157) dX10_setYears_157 (?_)
              exact qj158_33 (hI h26 a53 (ix x7)) h26
            · refine z_aload_n (pc := 143) dX10_setYears_143 rfl 0 rfl (z_getRl (pc := 144) fl_RX10_89 rfl dX10_setYears_144 (fun o54 => (z_iload_n (pc := 147) dX10_setYears_147 rfl 3 rfl (?_))))
              refine z_nn (fun a55 ea55 => ?_)
              subst ea55
              refine z_iaload (pc := 148) dX10_setYears_148 (z_goto (pc := 149) (tgt := 158) dX10_setYears_149 (by decide) (?_))
              exact qj158_33 (hI h26 a55 (ix x7)) h26
      refine z_if_lt (pc := 44) (tgt := 106) dX10_setYears_44 (by decide) ?_ ?_
      · exact z_sub [0, 1, 2, 3] rfl (qj106_19 h15)
      · refine z_aload_n (pc := 47) dX10_setYears_47 rfl 0 rfl (z_getRl (pc := 48) fl_RX10_62 rfl dX10_setYears_48 (fun o56 => (z_iload (pc := 51) dX10_setYears_51 4 rfl (?_))))
        refine z_nn (fun a57 ea57 => ?_)
        subst ea57
        refine z_iaload (pc := 53) dX10_setYears_53 (?_)
        refine z_if_lt (pc := 54) (tgt := 106) dX10_setYears_54 (by decide) ?_ ?_
        · exact z_sub [0, 1, 2, 3] rfl (qj106_19 h15)
        · refine z_aload_n (pc := 57) dX10_setYears_57 rfl 0 rfl (z_getRl (pc := 58) fl_RX10_114 rfl dX10_setYears_58 (fun o58 => (z_iload_n (pc := 61) dX10_setYears_61 rfl 3 rfl (z_aload_n (pc := 62) dX10_setYears_62 rfl 0 rfl (z_getRl (pc := 63) fl_RX10_62 rfl dX10_setYears_63 (fun o59 => (z_iload (pc := 66) dX10_setYears_66 4 rfl (?_))))))))
          refine z_nn (fun a60 ea60 => ?_)
          subst ea60
          refine z_iaload (pc := 68) dX10_setYears_68 (?_)
          refine z_nn (fun a61 ea61 => ?_)
          subst ea61
          refine z_iastorel (pc := 69) dX10_setYears_69 (fun h62 => (z_aload_n (pc := 70) dX10_setYears_70 rfl 0 rfl (z_getRl (pc := 71) fl_RX10_117 rfl dX10_setYears_71 (fun o63 => (z_iload_n (pc := 74) dX10_setYears_74 rfl 3 rfl (z_aload_n (pc := 75) dX10_setYears_75 rfl 0 rfl (z_getRl (pc := 76) fl_RX10_65 rfl dX10_setYears_76 (fun o64 => (z_iload (pc := 79) dX10_setYears_79 4 rfl (?_))))))))))
          refine z_nn (fun a65 ea65 => ?_)
          subst ea65
          refine z_iaload (pc := 81) dX10_setYears_81 (z_iload_n (pc := 82) dX10_setYears_82 rfl 2 rfl (z_iadd (pc := 83) dX10_setYears_83 (z_sipush (pc := 84) dX10_setYears_84 sp_1999 (?_))))
          refine z_jn (P := fun (j : Int32 → z_Hp → Option (Int32 × z_Hp)) => ∀ (x67 : Int32) (h68 : z_Hp), z_G zi mi_X10_setYears 105 [(0, vr (some a4)), (1, vi x5), (2, vi x6), (3, vi x7)] [vi x67, vi x7, vr o63] h68 (j x67 h68)) (fun x67 h68 => ?_) (fun j105_66 qj105_66 => ?_)
          · refine z_nn (fun a69 ea69 => ?_)
            subst ea69
            refine z_iastorel (pc := 105) dX10_setYears_105 (fun h70 => (?_))
            exact qj106_19 h70
          refine z_icmp_ge (pc := 87) (tgt := 102) dX10_setYears_87 (by decide) ?_ ?_
          · refine z_sipush (pc := 102) dX10_setYears_102 sp_1999 (?_)
            exact z_sub [0, 1, 2, 3] rfl (qj105_66 1999 h62)
          · refine z_aload_n (pc := 90) dX10_setYears_90 rfl 0 rfl (z_getRl (pc := 91) fl_RX10_65 rfl dX10_setYears_91 (fun o71 => (z_iload (pc := 94) dX10_setYears_94 4 rfl (?_))))
            refine z_nn (fun a72 ea72 => ?_)
            subst ea72
            refine z_iaload (pc := 96) dX10_setYears_96 (z_iload_n (pc := 97) dX10_setYears_97 rfl 2 rfl (z_iadd (pc := 98) dX10_setYears_98 (z_goto (pc := 99) (tgt := 105) dX10_setYears_99 (by decide) (?_))))
            exact z_sub [0, 1, 2, 3] rfl (qj105_66 ((hI h62 a72 (ix x18)) + x6) h62)
set_option maxRecDepth 20000 in
set_option maxHeartbeats 4000000 in
theorem g_X10_setYears_L226 (F : Nat) (a83 : Nat) (x84 : Int32) (x85 : Int32) (k334 : z_Hp → Option (Int32 × z_Hp)) (qk334 : ∀ (h88 : z_Hp), z_G zi mi_X10_setYears 334 [(0, vr (some a83)), (3, vi x84), (4, vi x85)] [] h88 (k334 h88)) : ∀ (n : Nat) (x86 : Int32) (h87 : z_Hp), z_G zi mi_X10_setYears 226 [(0, vr (some a83)), (3, vi x84), (4, vi x85), (5, vi x86)] [] h87 (c_X10_setYears_L226 F a83 x84 x85 k334 n x86 h87) := by
  intro n
  induction n with
  | zero => intro x86 h87; rw [c_X10_setYears_L226]; exact z_none
  | succ n ih =>
    intro x86 h87
    rw [c_X10_setYears_L226]
    refine z_iload (pc := 226) dX10_setYears_226 3 rfl (z_aload_n (pc := 228) dX10_setYears_228 rfl 0 rfl (z_getI (pc := 229) fl_RX10_262 rfl dX10_setYears_229 (?_)))
    refine z_icmp_ge (pc := 232) (tgt := 334) dX10_setYears_232 (by decide) ?_ ?_
    · exact z_sub [0, 1, 2] rfl (qk334 h87)
    · refine z_aload_n (pc := 235) dX10_setYears_235 rfl 0 rfl (z_iload (pc := 236) dX10_setYears_236 2 rfl (z_iload (pc := 238) dX10_setYears_238 3 rfl (z_callV_I (pc := 240) (avs := [vi x85, vi x86]) (st := []) rfl (q := (RX10, TX10, 62)) rfl rfl (t_X10_isAhead F a83 x85 x86 h87) ky_X10_isAhead wm_X10_isAhead we_X10_isAhead wz_RX10_309 (rm_X10_setYears_X10_isAhead) (Nat.le_of_ble_eq_true rfl) dX10_setYears_240 (fun x90 h89 => (?_)))))
      refine z_jn (P := fun (j : z_Hp → Option (Int32 × z_Hp)) => ∀ (h92 : z_Hp), z_G zi mi_X10_setYears 328 [(0, vr (some a83)), (3, vi x84), (4, vi x85), (5, vi x86)] [] h92 (j h92)) (fun h92 => ?_) (fun j328_91 qj328_91 => ?_)
      · refine z_iincl (pc := 328) (L' := fun x93 => [(0, vr (some a83)), (3, vi x84), (4, vi x85), (5, vi x93)]) dX10_setYears_328 3 rfl ic_1 (Nat.le_of_ble_eq_true rfl) (fun _ => rfl) (fun x93 => (z_goto (pc := 331) (tgt := 226) dX10_setYears_331 (by decide) (?_)))
        exact ih x93 h92
      refine z_if_eq (pc := 243) (tgt := 328) dX10_setYears_243 (by decide) ?_ ?_
      · exact qj328_91 h89
      · refine z_aload_n (pc := 246) dX10_setYears_246 rfl 0 rfl (z_getRl (pc := 247) fl_RX10_114 rfl dX10_setYears_247 (fun o94 => (z_iload (pc := 250) dX10_setYears_250 3 rfl (z_aload_n (pc := 252) dX10_setYears_252 rfl 0 rfl (z_getRl (pc := 253) fl_RX10_114 rfl dX10_setYears_253 (fun o95 => (z_iload (pc := 256) dX10_setYears_256 2 rfl (?_))))))))
        refine z_nn (fun a96 ea96 => ?_)
        subst ea96
        refine z_iaload (pc := 258) dX10_setYears_258 (z_aload_n (pc := 259) dX10_setYears_259 rfl 0 rfl (z_getRl (pc := 260) fl_RX10_114 rfl dX10_setYears_260 (fun o97 => (z_iload (pc := 263) dX10_setYears_263 3 rfl (?_)))))
        refine z_nn (fun a98 ea98 => ?_)
        subst ea98
        refine z_iaload (pc := 265) dX10_setYears_265 (?_)
        refine z_jn (P := fun (j : Int32 → z_Hp → Option (Int32 × z_Hp)) => ∀ (x100 : Int32) (h101 : z_Hp), z_G zi mi_X10_setYears 286 [(0, vr (some a83)), (3, vi x84), (4, vi x85), (5, vi x86)] [vi x100, vi x86, vr o94] h101 (j x100 h101)) (fun x100 h101 => ?_) (fun j286_99 qj286_99 => ?_)
        · refine z_nn (fun a102 ea102 => ?_)
          subst ea102
          refine z_iastorel (pc := 286) dX10_setYears_286 (fun h103 => (z_aload_n (pc := 287) dX10_setYears_287 rfl 0 rfl (z_getRl (pc := 288) fl_RX10_117 rfl dX10_setYears_288 (fun o104 => (z_iload (pc := 291) dX10_setYears_291 2 rfl (z_aload_n (pc := 293) dX10_setYears_293 rfl 0 rfl (z_getRl (pc := 294) fl_RX10_117 rfl dX10_setYears_294 (fun o105 => (z_iload (pc := 297) dX10_setYears_297 3 rfl (?_))))))))))
          refine z_nn (fun a106 ea106 => ?_)
          subst ea106
          refine z_iaload (pc := 299) dX10_setYears_299 (z_aload_n (pc := 300) dX10_setYears_300 rfl 0 rfl (z_getRl (pc := 301) fl_RX10_117 rfl dX10_setYears_301 (fun o107 => (z_iload (pc := 304) dX10_setYears_304 2 rfl (?_)))))
          refine z_nn (fun a108 ea108 => ?_)
          subst ea108
          refine z_iaload (pc := 306) dX10_setYears_306 (?_)
          refine z_jn (P := fun (j : Int32 → z_Hp → Option (Int32 × z_Hp)) => ∀ (x110 : Int32) (h111 : z_Hp), z_G zi mi_X10_setYears 327 [(0, vr (some a83)), (3, vi x84), (4, vi x85), (5, vi x86)] [vi x110, vi x85, vr o104] h111 (j x110 h111)) (fun x110 h111 => ?_) (fun j327_109 qj327_109 => ?_)
          · refine z_nn (fun a112 ea112 => ?_)
            subst ea112
            refine z_iastorel (pc := 327) dX10_setYears_327 (fun h113 => (?_))
            exact qj328_91 h113
          refine z_icmp_ge (pc := 307) (tgt := 320) dX10_setYears_307 (by decide) ?_ ?_
          · refine z_aload_n (pc := 320) dX10_setYears_320 rfl 0 rfl (z_getRl (pc := 321) fl_RX10_117 rfl dX10_setYears_321 (fun o114 => (z_iload (pc := 324) dX10_setYears_324 2 rfl (?_))))
            refine z_nn (fun a115 ea115 => ?_)
            subst ea115
            refine z_iaload (pc := 326) dX10_setYears_326 (?_)
            exact qj327_109 (hI h103 a115 (ix x85)) h103
          · refine z_aload_n (pc := 310) dX10_setYears_310 rfl 0 rfl (z_getRl (pc := 311) fl_RX10_117 rfl dX10_setYears_311 (fun o116 => (z_iload (pc := 314) dX10_setYears_314 3 rfl (?_))))
            refine z_nn (fun a117 ea117 => ?_)
            subst ea117
            refine z_iaload (pc := 316) dX10_setYears_316 (z_goto (pc := 317) (tgt := 327) dX10_setYears_317 (by decide) (?_))
            exact qj327_109 (hI h103 a117 (ix x86)) h103
        refine z_icmp_le (pc := 266) (tgt := 279) dX10_setYears_266 (by decide) ?_ ?_
        · refine z_aload_n (pc := 279) dX10_setYears_279 rfl 0 rfl (z_getRl (pc := 280) fl_RX10_114 rfl dX10_setYears_280 (fun o118 => (z_iload (pc := 283) dX10_setYears_283 3 rfl (?_))))
          refine z_nn (fun a119 ea119 => ?_)
          subst ea119
          refine z_iaload (pc := 285) dX10_setYears_285 (?_)
          exact qj286_99 (hI h89 a119 (ix x86)) h89
        · refine z_aload_n (pc := 269) dX10_setYears_269 rfl 0 rfl (z_getRl (pc := 270) fl_RX10_114 rfl dX10_setYears_270 (fun o120 => (z_iload (pc := 273) dX10_setYears_273 2 rfl (?_))))
          refine z_nn (fun a121 ea121 => ?_)
          subst ea121
          refine z_iaload (pc := 275) dX10_setYears_275 (z_goto (pc := 276) (tgt := 286) dX10_setYears_276 (by decide) (?_))
          exact qj286_99 (hI h89 a121 (ix x85)) h89
set_option maxRecDepth 20000 in
set_option maxHeartbeats 4000000 in
theorem g_X10_setYears_L214 (F : Nat) (a78 : Nat) (x79 : Int32) (k340 : z_Hp → Option (Int32 × z_Hp)) (qk340 : ∀ (h82 : z_Hp), z_G zi mi_X10_setYears 340 [(0, vr (some a78)), (3, vi x79)] [] h82 (k340 h82)) : ∀ (n : Nat) (x80 : Int32) (h81 : z_Hp), z_G zi mi_X10_setYears 214 [(0, vr (some a78)), (3, vi x79), (4, vi x80)] [] h81 (c_X10_setYears_L214 F a78 x79 k340 n x80 h81) := by
  intro n
  induction n with
  | zero => intro x80 h81; rw [c_X10_setYears_L214]; exact z_none
  | succ n ih =>
    intro x80 h81
    rw [c_X10_setYears_L214]
    refine z_iload (pc := 214) dX10_setYears_214 2 rfl (z_aload_n (pc := 216) dX10_setYears_216 rfl 0 rfl (z_getI (pc := 217) fl_RX10_262 rfl dX10_setYears_217 (?_)))
    refine z_icmp_ge (pc := 220) (tgt := 340) dX10_setYears_220 (by decide) ?_ ?_
    · exact z_sub [0, 1] rfl (qk340 h81)
    · refine z_iconst (pc := 223) dX10_setYears_223 ic_0 (z_istore (pc := 224) (L' := [(0, vr (some a78)), (3, vi x79), (4, vi x80), (5, vi 0)]) dX10_setYears_224 (Nat.le_of_ble_eq_true rfl) rfl (?_))
      refine g_X10_setYears_L226 F a78 x79 x80 _ (fun h122 => ?_) F 0 h81
      refine z_iincl (pc := 334) (L' := fun x123 => [(0, vr (some a78)), (3, vi x79), (4, vi x123)]) dX10_setYears_334 2 rfl ic_1 (Nat.le_of_ble_eq_true rfl) (fun _ => rfl) (fun x123 => (z_goto (pc := 337) (tgt := 214) dX10_setYears_337 (by decide) (?_)))
      exact ih x123 h122
set_option maxRecDepth 20000 in
set_option maxHeartbeats 4000000 in
theorem g_X10_setYears_L203 (F : Nat) (a74 : Nat) (k346 : z_Hp → Option (Int32 × z_Hp)) (qk346 : ∀ (h77 : z_Hp), z_G zi mi_X10_setYears 346 [(0, vr (some a74))] [] h77 (k346 h77)) : ∀ (n : Nat) (x75 : Int32) (h76 : z_Hp), z_G zi mi_X10_setYears 203 [(0, vr (some a74)), (3, vi x75)] [] h76 (c_X10_setYears_L203 F a74 k346 n x75 h76) := by
  intro n
  induction n with
  | zero => intro x75 h76; rw [c_X10_setYears_L203]; exact z_none
  | succ n ih =>
    intro x75 h76
    rw [c_X10_setYears_L203]
    refine z_iload_n (pc := 203) dX10_setYears_203 rfl 1 rfl (z_aload_n (pc := 204) dX10_setYears_204 rfl 0 rfl (z_getI (pc := 205) fl_RX10_262 rfl dX10_setYears_205 (?_)))
    refine z_icmp_ge (pc := 208) (tgt := 346) dX10_setYears_208 (by decide) ?_ ?_
    · exact z_sub [0] rfl (qk346 h76)
    · refine z_iconst (pc := 211) dX10_setYears_211 ic_0 (z_istore (pc := 212) (L' := [(0, vr (some a74)), (3, vi x75), (4, vi 0)]) dX10_setYears_212 (Nat.le_of_ble_eq_true rfl) rfl (?_))
      refine g_X10_setYears_L214 F a74 x75 _ (fun h124 => ?_) F 0 h76
      refine z_iincl (pc := 340) (L' := fun x125 => [(0, vr (some a74)), (3, vi x125)]) dX10_setYears_340 1 rfl ic_1 (Nat.le_of_ble_eq_true rfl) (fun _ => rfl) (fun x125 => (z_goto (pc := 343) (tgt := 203) dX10_setYears_343 (by decide) (?_)))
      exact ih x125 h124
set_option maxRecDepth 20000 in
set_option maxHeartbeats 4000000 in
theorem g_X10_setYears_L351 (F : Nat) (a127 : Nat) : ∀ (n : Nat) (x128 : Int32) (x129 : Int32) (h130 : z_Hp), z_G zi mi_X10_setYears 351 [(0, vr (some a127)), (3, vi x128), (4, vi x129)] [] h130 (c_X10_setYears_L351 F a127 n x128 x129 h130) := by
  intro n
  induction n with
  | zero => intro x128 x129 h130; rw [c_X10_setYears_L351]; exact z_none
  | succ n ih =>
    intro x128 x129 h130
    rw [c_X10_setYears_L351]
    refine z_iload (pc := 351) dX10_setYears_351 2 rfl (z_aload_n (pc := 353) dX10_setYears_353 rfl 0 rfl (z_getI (pc := 354) fl_RX10_262 rfl dX10_setYears_354 (?_)))
    refine z_icmp_ge (pc := 357) (tgt := 393) dX10_setYears_357 (by decide) ?_ ?_
    · refine z_iload_n (pc := 393) dX10_setYears_393 rfl 1 rfl (?_)
      exact z_zret (pc := 394) dX10_setYears_394 rfl
    · refine z_iload_n (pc := 360) dX10_setYears_360 rfl 1 rfl (?_)
      refine z_jn (P := fun (j : Int32 → z_Hp → Option (Int32 × z_Hp)) => ∀ (x132 : Int32) (h133 : z_Hp), z_G zi mi_X10_setYears 386 [(0, vr (some a127)), (4, vi x129)] [vi x132] h133 (j x132 h133)) (fun x132 h133 => ?_) (fun j386_131 qj386_131 => ?_)
      · refine z_istore_n (pc := 386) (L' := [(0, vr (some a127)), (3, vi x132), (4, vi x129)]) dX10_setYears_386 rfl (Nat.le_of_ble_eq_true rfl) rfl (z_iincl (pc := 387) (L' := fun x134 => [(0, vr (some a127)), (3, vi x132), (4, vi x134)]) dX10_setYears_387 2 rfl ic_1 (Nat.le_of_ble_eq_true rfl) (fun _ => rfl) (fun x134 => (z_goto (pc := 390) (tgt := 351) dX10_setYears_390 (by decide) (?_))))
        exact ih x132 x134 h133
      refine z_jn (P := fun (j : z_Hp → Option (Int32 × z_Hp)) => ∀ (h136 : z_Hp), z_G zi mi_X10_setYears 385 [(0, vr (some a127)), (4, vi x129)] [] h136 (j h136)) (fun h136 => ?_) (fun j385_135 qj385_135 => ?_)
      · refine z_iconst (pc := 385) dX10_setYears_385 ic_0 (?_)
        exact qj386_131 0 h136
      refine z_if_eq (pc := 361) (tgt := 385) dX10_setYears_361 (by decide) ?_ ?_
      · exact z_sub [0, 2] rfl (qj385_135 h130)
      · refine z_aload_n (pc := 364) dX10_setYears_364 rfl 0 rfl (z_getRl (pc := 365) fl_RX10_114 rfl dX10_setYears_365 (fun o137 => (z_iload (pc := 368) dX10_setYears_368 2 rfl (?_))))
        refine z_nn (fun a138 ea138 => ?_)
        subst ea138
        refine z_iaload (pc := 370) dX10_setYears_370 (z_aload_n (pc := 371) dX10_setYears_371 rfl 0 rfl (z_getRl (pc := 372) fl_RX10_117 rfl dX10_setYears_372 (fun o139 => (z_iload (pc := 375) dX10_setYears_375 2 rfl (?_)))))
        refine z_nn (fun a140 ea140 => ?_)
        subst ea140
        refine z_iaload (pc := 377) dX10_setYears_377 (?_)
        refine z_icmp_gt (pc := 378) (tgt := 385) dX10_setYears_378 (by decide) ?_ ?_
        · exact z_sub [0, 2] rfl (qj385_135 h130)
        · refine z_iconst (pc := 381) dX10_setYears_381 ic_1 (z_goto (pc := 382) (tgt := 386) dX10_setYears_382 (by decide) (?_))
          exact z_sub [0, 2] rfl (qj386_131 1 h130)
set_option maxRecDepth 20000 in
set_option maxHeartbeats 4000000 in
theorem t_X10_setYears (F : Nat) (a0 : Nat) (x1 : Int32) (h0 : z_Hp) : z_Ct zi mi_X10_setYears [vr (some a0), vi x1] h0 (c_X10_setYears F a0 x1 h0) := by
  refine z_entry (by decide) (Nat.le_of_ble_eq_true rfl) [(0, vr (some a0)), (1, vi x1)] rfl ?_
  unfold c_X10_setYears
  refine z_aload_n (pc := 0) dX10_setYears_0 rfl 0 rfl (z_iconst (pc := 1) dX10_setYears_1 ic_3 (z_callV_I (pc := 2) (avs := [vi 3]) (st := []) rfl (q := (RX10, TX10, 62)) rfl rfl (t_X10_nowInForce F a0 3 h0) ky_X10_nowInForce wm_X10_nowInForce we_X10_nowInForce wz_RX10_228 (rm_X10_setYears_X10_nowInForce) (Nat.le_of_ble_eq_true rfl) dX10_setYears_2 (fun x3 h2 => (?_))))
  refine z_istore_n (pc := 5) (L' := [(0, vr (some a0)), (1, vi x1), (2, vi x3)]) dX10_setYears_5 rfl (Nat.le_of_ble_eq_true rfl) rfl (z_iconst (pc := 6) dX10_setYears_6 ic_0 (z_istore_n (pc := 7) (L' := [(0, vr (some a0)), (1, vi x1), (2, vi x3), (3, vi 0)]) dX10_setYears_7 rfl (Nat.le_of_ble_eq_true rfl) rfl (?_)))
  refine g_X10_setYears_L8 F a0 x1 x3 _ (fun h73 => ?_) F 0 h2
  refine z_iconst (pc := 201) dX10_setYears_201 ic_0 (z_istore_n (pc := 202) (L' := [(0, vr (some a0)), (3, vi 0)]) dX10_setYears_202 rfl (Nat.le_of_ble_eq_true rfl) rfl (?_))
  refine g_X10_setYears_L203 F a0 _ (fun h126 => ?_) F 0 h73
  refine z_iconst (pc := 346) dX10_setYears_346 ic_1 (z_istore_n (pc := 347) (L' := [(0, vr (some a0)), (3, vi 1)]) dX10_setYears_347 rfl (Nat.le_of_ble_eq_true rfl) rfl (z_iconst (pc := 348) dX10_setYears_348 ic_0 (z_istore (pc := 349) (L' := [(0, vr (some a0)), (3, vi 1), (4, vi 0)]) dX10_setYears_349 (Nat.le_of_ble_eq_true rfl) rfl (?_))))
  refine g_X10_setYears_L351 F a0 F 1 0 h126
theorem dX10_year_0 : decode cX10_year 0 = .ok (.aload_n 0, 1) := by decide +kernel
theorem dX10_year_1 : decode cX10_year 1 = .ok (.iload_n 1, 1) := by decide +kernel
theorem dX10_year_2 : decode cX10_year 2 = .ok (.invokevirtual 265, 3) := by decide +kernel
theorem dX10_year_5 : decode cX10_year 5 = .ok (.ifCond .ne 5, 3) := by decide +kernel
theorem dX10_year_8 : decode cX10_year 8 = .ok (.iconst (-1), 1) := by decide +kernel
theorem dX10_year_9 : decode cX10_year 9 = .ok (.ireturn, 1) := by decide +kernel
theorem dX10_year_10 : decode cX10_year 10 = .ok (.aload_n 0, 1) := by decide +kernel
theorem dX10_year_11 : decode cX10_year 11 = .ok (.iconst 0, 1) := by decide +kernel
theorem dX10_year_12 : decode cX10_year 12 = .ok (.invokevirtual 325, 3) := by decide +kernel
theorem dX10_year_15 : decode cX10_year 15 = .ok (.ifCond .ne 8, 3) := by decide +kernel
theorem dX10_year_18 : decode cX10_year 18 = .ok (.bipush (-9), 2) := by decide +kernel
theorem dX10_year_20 : decode cX10_year 20 = .ok (.goto 22, 3) := by decide +kernel
theorem dX10_year_23 : decode cX10_year 23 = .ok (.iload_n 2, 1) := by decide +kernel
theorem dX10_year_24 : decode cX10_year 24 = .ok (.ifCond .eq 12, 3) := by decide +kernel
theorem dX10_year_27 : decode cX10_year 27 = .ok (.aload_n 0, 1) := by decide +kernel
theorem dX10_year_28 : decode cX10_year 28 = .ok (.getfield 117, 3) := by decide +kernel
theorem dX10_year_31 : decode cX10_year 31 = .ok (.iload_n 1, 1) := by decide +kernel
theorem dX10_year_32 : decode cX10_year 32 = .ok (.iaload, 1) := by decide +kernel
theorem dX10_year_33 : decode cX10_year 33 = .ok (.goto 9, 3) := by decide +kernel
theorem dX10_year_36 : decode cX10_year 36 = .ok (.aload_n 0, 1) := by decide +kernel
theorem dX10_year_37 : decode cX10_year 37 = .ok (.getfield 114, 3) := by decide +kernel
theorem dX10_year_40 : decode cX10_year 40 = .ok (.iload_n 1, 1) := by decide +kernel
theorem dX10_year_41 : decode cX10_year 41 = .ok (.iaload, 1) := by decide +kernel
theorem dX10_year_42 : decode cX10_year 42 = .ok (.ireturn, 1) := by decide +kernel
def c_X10_year (F : Nat) (a0 : Nat) (x1 : Int32) (x2 : Int32) (h0 : z_Hp) : Option (Int32 × z_Hp) := (if hT h0 a0 = 10 then (bI (c_X10_isSheet F a0 x1 h0) (fun x4 h3 => (if x4 = 0 then (some ((-1), h3)) else (if hT h3 a0 = 10 then (bI (c_X10_setYears F a0 0 h3) (fun x6 h5 => (if x6 = 0 then (some ((-9), h5)) else (if x2 = 0 then (if hT h5 a0 = 10 then (lt_ (hR h5 a0 43) (fun o7 => (nn o7 (fun a8 => (if okA h5 a8 20 x1 = true then (some (hI h5 a8 (ix x1), h5)) else none))))) else none) else (if hT h5 a0 = 10 then (lt_ (hR h5 a0 44) (fun o9 => (nn o9 (fun a10 => (if okA h5 a10 20 x1 = true then (some (hI h5 a10 (ix x1), h5)) else none))))) else none))))) else none)))) else none)
set_option maxRecDepth 20000 in
set_option maxHeartbeats 4000000 in
theorem t_X10_year (F : Nat) (a0 : Nat) (x1 : Int32) (x2 : Int32) (h0 : z_Hp) : z_Ct zi mi_X10_year [vr (some a0), vi x1, vi x2] h0 (c_X10_year F a0 x1 x2 h0) := by
  refine z_entry (by decide) (Nat.le_of_ble_eq_true rfl) [(0, vr (some a0)), (1, vi x1), (2, vi x2)] rfl ?_
  unfold c_X10_year
  refine z_aload_n (pc := 0) dX10_year_0 rfl 0 rfl (z_iload_n (pc := 1) dX10_year_1 rfl 1 rfl (z_callV_I (pc := 2) (avs := [vi x1]) (st := []) rfl (q := (RX10, TX10, 62)) rfl rfl (t_X10_isSheet F a0 x1 h0) ky_X10_isSheet wm_X10_isSheet we_X10_isSheet wz_RX10_265 (rm_X10_year_X10_isSheet) (Nat.le_of_ble_eq_true rfl) dX10_year_2 (fun x4 h3 => (?_))))
  refine z_if_ne (pc := 5) (tgt := 10) dX10_year_5 (by decide) ?_ ?_
  · refine z_aload_n (pc := 10) dX10_year_10 rfl 0 rfl (z_iconst (pc := 11) dX10_year_11 ic_0 (z_callV_I (pc := 12) (avs := [vi 0]) (st := []) rfl (q := (RX10, TX10, 62)) rfl rfl (t_X10_setYears F a0 0 h3) ky_X10_setYears wm_X10_setYears we_X10_setYears wz_RX10_325 (rm_X10_year_X10_setYears) (Nat.le_of_ble_eq_true rfl) dX10_year_12 (fun x6 h5 => (?_))))
    refine z_if_ne (pc := 15) (tgt := 23) dX10_year_15 (by decide) ?_ ?_
    · refine z_iload_n (pc := 23) dX10_year_23 rfl 2 rfl (?_)
      refine z_if_eq (pc := 24) (tgt := 36) dX10_year_24 (by decide) ?_ ?_
      · refine z_aload_n (pc := 36) dX10_year_36 rfl 0 rfl (z_getRl (pc := 37) fl_RX10_114 rfl dX10_year_37 (fun o7 => (z_iload_n (pc := 40) dX10_year_40 rfl 1 rfl (?_))))
        refine z_nn (fun a8 ea8 => ?_)
        subst ea8
        refine z_iaload (pc := 41) dX10_year_41 (?_)
        exact z_iret (pc := 42) dX10_year_42 rfl rfl
      · refine z_aload_n (pc := 27) dX10_year_27 rfl 0 rfl (z_getRl (pc := 28) fl_RX10_117 rfl dX10_year_28 (fun o9 => (z_iload_n (pc := 31) dX10_year_31 rfl 1 rfl (?_))))
        refine z_nn (fun a10 ea10 => ?_)
        subst ea10
        refine z_iaload (pc := 32) dX10_year_32 (z_goto (pc := 33) (tgt := 42) dX10_year_33 (by decide) (?_))
        exact z_iret (pc := 42) dX10_year_42 rfl rfl
    · refine z_bipush (pc := 18) dX10_year_18 bp_m9 (z_goto (pc := 20) (tgt := 42) dX10_year_20 (by decide) (?_))
      exact z_iret (pc := 42) dX10_year_42 rfl rfl
  · refine z_iconst (pc := 8) dX10_year_8 ic_m1 (?_)
    exact z_iret (pc := 9) dX10_year_9 rfl rfl
theorem dX10_doubts_0 : decode cX10_doubts 0 = .ok (.aload_n 0, 1) := by decide +kernel
theorem dX10_doubts_1 : decode cX10_doubts 1 = .ok (.iconst 0, 1) := by decide +kernel
theorem dX10_doubts_2 : decode cX10_doubts 2 = .ok (.invokevirtual 325, 3) := by decide +kernel
theorem dX10_doubts_5 : decode cX10_doubts 5 = .ok (.ifCond .eq 5, 3) := by decide +kernel
theorem dX10_doubts_8 : decode cX10_doubts 8 = .ok (.iconst 0, 1) := by decide +kernel
theorem dX10_doubts_9 : decode cX10_doubts 9 = .ok (.ireturn, 1) := by decide +kernel
theorem dX10_doubts_10 : decode cX10_doubts 10 = .ok (.iconst 0, 1) := by decide +kernel
theorem dX10_doubts_11 : decode cX10_doubts 11 = .ok (.istore_n 1, 1) := by decide +kernel
theorem dX10_doubts_12 : decode cX10_doubts 12 = .ok (.iconst 0, 1) := by decide +kernel
theorem dX10_doubts_13 : decode cX10_doubts 13 = .ok (.istore_n 2, 1) := by decide +kernel
theorem dX10_doubts_14 : decode cX10_doubts 14 = .ok (.iload_n 2, 1) := by decide +kernel
theorem dX10_doubts_15 : decode cX10_doubts 15 = .ok (.aload_n 0, 1) := by decide +kernel
theorem dX10_doubts_16 : decode cX10_doubts 16 = .ok (.getfield 262, 3) := by decide +kernel
theorem dX10_doubts_19 : decode cX10_doubts 19 = .ok (.if_icmp .ge 28, 3) := by decide +kernel
theorem dX10_doubts_22 : decode cX10_doubts 22 = .ok (.iload_n 1, 1) := by decide +kernel
theorem dX10_doubts_23 : decode cX10_doubts 23 = .ok (.aload_n 0, 1) := by decide +kernel
theorem dX10_doubts_24 : decode cX10_doubts 24 = .ok (.getfield 89, 3) := by decide +kernel
theorem dX10_doubts_27 : decode cX10_doubts 27 = .ok (.iload_n 2, 1) := by decide +kernel
theorem dX10_doubts_28 : decode cX10_doubts 28 = .ok (.iaload, 1) := by decide +kernel
theorem dX10_doubts_29 : decode cX10_doubts 29 = .ok (.ifCond .lt 9, 3) := by decide +kernel
theorem dX10_doubts_32 : decode cX10_doubts 32 = .ok (.iconst 1, 1) := by decide +kernel
theorem dX10_doubts_33 : decode cX10_doubts 33 = .ok (.iload_n 2, 1) := by decide +kernel
theorem dX10_doubts_34 : decode cX10_doubts 34 = .ok (.ishl, 1) := by decide +kernel
theorem dX10_doubts_35 : decode cX10_doubts 35 = .ok (.goto 4, 3) := by decide +kernel
theorem dX10_doubts_38 : decode cX10_doubts 38 = .ok (.iconst 0, 1) := by decide +kernel
theorem dX10_doubts_39 : decode cX10_doubts 39 = .ok (.ior, 1) := by decide +kernel
theorem dX10_doubts_40 : decode cX10_doubts 40 = .ok (.istore_n 1, 1) := by decide +kernel
theorem dX10_doubts_41 : decode cX10_doubts 41 = .ok (.iinc 2 1, 3) := by decide +kernel
theorem dX10_doubts_44 : decode cX10_doubts 44 = .ok (.goto (-30), 3) := by decide +kernel
theorem dX10_doubts_47 : decode cX10_doubts 47 = .ok (.iload_n 1, 1) := by decide +kernel
theorem dX10_doubts_48 : decode cX10_doubts 48 = .ok (.invokestatic 279, 3) := by decide +kernel
theorem dX10_doubts_51 : decode cX10_doubts 51 = .ok (.bipush 10, 2) := by decide +kernel
theorem dX10_doubts_53 : decode cX10_doubts 53 = .ok (.if_icmp .le 6, 3) := by decide +kernel
theorem dX10_doubts_56 : decode cX10_doubts 56 = .ok (.bipush (-6), 2) := by decide +kernel
theorem dX10_doubts_58 : decode cX10_doubts 58 = .ok (.ireturn, 1) := by decide +kernel
theorem dX10_doubts_59 : decode cX10_doubts 59 = .ok (.bipush (-9), 2) := by decide +kernel
theorem dX10_doubts_61 : decode cX10_doubts 61 = .ok (.istore_n 2, 1) := by decide +kernel
theorem dX10_doubts_62 : decode cX10_doubts 62 = .ok (.iload_n 1, 1) := by decide +kernel
theorem dX10_doubts_63 : decode cX10_doubts 63 = .ok (.istore_n 3, 1) := by decide +kernel
theorem dX10_doubts_64 : decode cX10_doubts 64 = .ok (.iload_n 3, 1) := by decide +kernel
theorem dX10_doubts_65 : decode cX10_doubts 65 = .ok (.ifCond .le 69, 3) := by decide +kernel
theorem dX10_doubts_68 : decode cX10_doubts 68 = .ok (.iload_n 2, 1) := by decide +kernel
theorem dX10_doubts_69 : decode cX10_doubts 69 = .ok (.ifCond .lt 30, 3) := by decide +kernel
theorem dX10_doubts_72 : decode cX10_doubts 72 = .ok (.iload_n 3, 1) := by decide +kernel
theorem dX10_doubts_73 : decode cX10_doubts 73 = .ok (.invokestatic 279, 3) := by decide +kernel
theorem dX10_doubts_76 : decode cX10_doubts 76 = .ok (.iload_n 2, 1) := by decide +kernel
theorem dX10_doubts_77 : decode cX10_doubts 77 = .ok (.invokestatic 279, 3) := by decide +kernel
theorem dX10_doubts_80 : decode cX10_doubts 80 = .ok (.if_icmp .lt 19, 3) := by decide +kernel
theorem dX10_doubts_83 : decode cX10_doubts 83 = .ok (.iload_n 3, 1) := by decide +kernel
theorem dX10_doubts_84 : decode cX10_doubts 84 = .ok (.invokestatic 279, 3) := by decide +kernel
theorem dX10_doubts_87 : decode cX10_doubts 87 = .ok (.iload_n 2, 1) := by decide +kernel
theorem dX10_doubts_88 : decode cX10_doubts 88 = .ok (.invokestatic 279, 3) := by decide +kernel
theorem dX10_doubts_91 : decode cX10_doubts 91 = .ok (.if_icmp .ne 12, 3) := by decide +kernel
theorem dX10_doubts_94 : decode cX10_doubts 94 = .ok (.iload_n 3, 1) := by decide +kernel
theorem dX10_doubts_95 : decode cX10_doubts 95 = .ok (.iload_n 2, 1) := by decide +kernel
theorem dX10_doubts_96 : decode cX10_doubts 96 = .ok (.if_icmp .ge 7, 3) := by decide +kernel
theorem dX10_doubts_99 : decode cX10_doubts 99 = .ok (.iconst 1, 1) := by decide +kernel
theorem dX10_doubts_100 : decode cX10_doubts 100 = .ok (.goto 4, 3) := by decide +kernel
theorem dX10_doubts_103 : decode cX10_doubts 103 = .ok (.iconst 0, 1) := by decide +kernel
theorem dX10_doubts_104 : decode cX10_doubts 104 = .ok (.istore 4, 2) := by decide +kernel
theorem dX10_doubts_106 : decode cX10_doubts 106 = .ok (.iload 4, 2) := by decide +kernel
theorem dX10_doubts_108 : decode cX10_doubts 108 = .ok (.ifCond .eq 15, 3) := by decide +kernel
theorem dX10_doubts_111 : decode cX10_doubts 111 = .ok (.aload_n 0, 1) := by decide +kernel
theorem dX10_doubts_112 : decode cX10_doubts 112 = .ok (.iload_n 3, 1) := by decide +kernel
theorem dX10_doubts_113 : decode cX10_doubts 113 = .ok (.invokevirtual 325, 3) := by decide +kernel
theorem dX10_doubts_116 : decode cX10_doubts 116 = .ok (.ifCond .eq 7, 3) := by decide +kernel
theorem dX10_doubts_119 : decode cX10_doubts 119 = .ok (.iload_n 3, 1) := by decide +kernel
theorem dX10_doubts_120 : decode cX10_doubts 120 = .ok (.goto 4, 3) := by decide +kernel
theorem dX10_doubts_123 : decode cX10_doubts 123 = .ok (.iload_n 2, 1) := by decide +kernel
theorem dX10_doubts_124 : decode cX10_doubts 124 = .ok (.istore_n 2, 1) := by decide +kernel
theorem dX10_doubts_125 : decode cX10_doubts 125 = .ok (.iload_n 3, 1) := by decide +kernel
theorem dX10_doubts_126 : decode cX10_doubts 126 = .ok (.iconst 1, 1) := by decide +kernel
theorem dX10_doubts_127 : decode cX10_doubts 127 = .ok (.isub, 1) := by decide +kernel
theorem dX10_doubts_128 : decode cX10_doubts 128 = .ok (.iload_n 1, 1) := by decide +kernel
theorem dX10_doubts_129 : decode cX10_doubts 129 = .ok (.iand, 1) := by decide +kernel
theorem dX10_doubts_130 : decode cX10_doubts 130 = .ok (.istore_n 3, 1) := by decide +kernel
theorem dX10_doubts_131 : decode cX10_doubts 131 = .ok (.goto (-67), 3) := by decide +kernel
theorem dX10_doubts_134 : decode cX10_doubts 134 = .ok (.iload_n 2, 1) := by decide +kernel
theorem dX10_doubts_135 : decode cX10_doubts 135 = .ok (.ireturn, 1) := by decide +kernel
def c_X10_doubts_L14 (F : Nat) (a3 : Nat) (k47 : Int32 → z_Hp → Option (Int32 × z_Hp)) : Nat → Int32 → Int32 → z_Hp → Option (Int32 × z_Hp)
  | 0, _, _, _ => none
  | n + 1, x4, x5, h6 => (if hT h6 a3 = 10 then (if (hI h6 a3 26) ≤ x5 then (k47 x4 h6) else (if hT h6 a3 = 10 then (lt_ (hR h6 a3 34) (fun o9 => (nn o9 (fun a10 => (if okA h6 a10 20 x5 = true then (lt_ (fun (x12 : Int32) (h13 : z_Hp) => (lt_ (x4 ||| x12) (fun x14 => (lt_ (x5 + 1) (fun x15 => (c_X10_doubts_L14 F a3 k47 n x14 x15 h13)))))) (fun (j39_11 : Int32 → z_Hp → Option (Int32 × z_Hp)) => (if (hI h6 a10 (ix x5)) < 0 then (j39_11 0 h6) else (j39_11 (1 <<< (x5 &&& 31)) h6)))) else none))))) else none)) else none)
def c_X10_doubts_L64 (F : Nat) (a20 : Nat) (x21 : Int32) : Nat → Int32 → Int32 → z_Hp → Option (Int32 × z_Hp)
  | 0, _, _, _ => none
  | n + 1, x22, x23, h24 => (if x23 ≤ 0 then (some (x22, h24)) else (lt_ (fun (x26 : Int32) (h27 : z_Hp) => (lt_ (fun (x29 : Int32) (h30 : z_Hp) => (lt_ ((x23 - 1) &&& x21) (fun x31 => (c_X10_doubts_L64 F a20 x21 n x29 x31 h30)))) (fun (j124_28 : Int32 → z_Hp → Option (Int32 × z_Hp)) => (lt_ (fun (h33 : z_Hp) => (j124_28 x22 h33)) (fun (j123_32 : z_Hp → Option (Int32 × z_Hp)) => (if x26 = 0 then (j123_32 h27) else (if hT h27 a20 = 10 then (bI (c_X10_setYears F a20 x23 h27) (fun x35 h34 => (if x35 = 0 then (j123_32 h34) else (j124_28 x23 h34)))) else none))))))) (fun (j104_25 : Int32 → z_Hp → Option (Int32 × z_Hp)) => (lt_ (fun (h37 : z_Hp) => (j104_25 1 h37)) (fun (j99_36 : z_Hp → Option (Int32 × z_Hp)) => (if x22 < 0 then (j99_36 h24) else (bI (c_X10_bits F x23 h24) (fun x39 h38 => (bI (c_X10_bits F x22 h38) (fun x41 h40 => (if x39 < x41 then (j99_36 h40) else (bI (c_X10_bits F x23 h40) (fun x43 h42 => (bI (c_X10_bits F x22 h42) (fun x45 h44 => (lt_ (fun (h47 : z_Hp) => (j104_25 0 h47)) (fun (j103_46 : z_Hp → Option (Int32 × z_Hp)) => (if x43 = x45 then (if x22 ≤ x23 then (j103_46 h44) else (j99_36 h44)) else (j103_46 h44)))))))))))))))))))
def c_X10_doubts (F : Nat) (a0 : Nat) (h0 : z_Hp) : Option (Int32 × z_Hp) := (if hT h0 a0 = 10 then (bI (c_X10_setYears F a0 0 h0) (fun x2 h1 => (if x2 = 0 then (c_X10_doubts_L14 F a0 (fun x16 h17 => (bI (c_X10_bits F x16 h17) (fun x19 h18 => (if x19 ≤ 10 then (c_X10_doubts_L64 F a0 x16 F (-9) x16 h18) else (some ((-6), h18)))))) F 0 0 h1) else (some (0, h1))))) else none)
set_option maxRecDepth 20000 in
set_option maxHeartbeats 4000000 in
theorem g_X10_doubts_L14 (F : Nat) (a3 : Nat) (k47 : Int32 → z_Hp → Option (Int32 × z_Hp)) (qk47 : ∀ (x7 : Int32) (h8 : z_Hp), z_G zi mi_X10_doubts 47 [(0, vr (some a3)), (1, vi x7)] [] h8 (k47 x7 h8)) : ∀ (n : Nat) (x4 : Int32) (x5 : Int32) (h6 : z_Hp), z_G zi mi_X10_doubts 14 [(0, vr (some a3)), (1, vi x4), (2, vi x5)] [] h6 (c_X10_doubts_L14 F a3 k47 n x4 x5 h6) := by
  intro n
  induction n with
  | zero => intro x4 x5 h6; rw [c_X10_doubts_L14]; exact z_none
  | succ n ih =>
    intro x4 x5 h6
    rw [c_X10_doubts_L14]
    refine z_iload_n (pc := 14) dX10_doubts_14 rfl 2 rfl (z_aload_n (pc := 15) dX10_doubts_15 rfl 0 rfl (z_getI (pc := 16) fl_RX10_262 rfl dX10_doubts_16 (?_)))
    refine z_icmp_ge (pc := 19) (tgt := 47) dX10_doubts_19 (by decide) ?_ ?_
    · exact z_sub [0, 1] rfl (qk47 x4 h6)
    · refine z_iload_n (pc := 22) dX10_doubts_22 rfl 1 rfl (z_aload_n (pc := 23) dX10_doubts_23 rfl 0 rfl (z_getRl (pc := 24) fl_RX10_89 rfl dX10_doubts_24 (fun o9 => (z_iload_n (pc := 27) dX10_doubts_27 rfl 2 rfl (?_)))))
      refine z_nn (fun a10 ea10 => ?_)
      subst ea10
      refine z_iaload (pc := 28) dX10_doubts_28 (?_)
      refine z_jn (P := fun (j : Int32 → z_Hp → Option (Int32 × z_Hp)) => ∀ (x12 : Int32) (h13 : z_Hp), z_G zi mi_X10_doubts 39 [(0, vr (some a3)), (2, vi x5)] [vi x12, vi x4] h13 (j x12 h13)) (fun x12 h13 => ?_) (fun j39_11 qj39_11 => ?_)
      · refine z_ior (pc := 39) dX10_doubts_39 (z_istorel_n (pc := 40) (L' := fun x14 => [(0, vr (some a3)), (1, vi x14), (2, vi x5)]) dX10_doubts_40 rfl (Nat.le_of_ble_eq_true rfl) (fun _ => rfl) (fun x14 => (z_iincl (pc := 41) (L' := fun x15 => [(0, vr (some a3)), (1, vi x14), (2, vi x15)]) dX10_doubts_41 2 rfl ic_1 (Nat.le_of_ble_eq_true rfl) (fun _ => rfl) (fun x15 => (z_goto (pc := 44) (tgt := 14) dX10_doubts_44 (by decide) (?_))))))
        exact ih x14 x15 h13
      refine z_if_lt (pc := 29) (tgt := 38) dX10_doubts_29 (by decide) ?_ ?_
      · refine z_iconst (pc := 38) dX10_doubts_38 ic_0 (?_)
        exact z_sub [0, 2] rfl (qj39_11 0 h6)
      · refine z_iconst (pc := 32) dX10_doubts_32 ic_1 (z_iload_n (pc := 33) dX10_doubts_33 rfl 2 rfl (z_ishl (pc := 34) dX10_doubts_34 (z_goto (pc := 35) (tgt := 39) dX10_doubts_35 (by decide) (?_))))
        exact z_sub [0, 2] rfl (qj39_11 (1 <<< (x5 &&& 31)) h6)
set_option maxRecDepth 20000 in
set_option maxHeartbeats 4000000 in
theorem g_X10_doubts_L64 (F : Nat) (a20 : Nat) (x21 : Int32) : ∀ (n : Nat) (x22 : Int32) (x23 : Int32) (h24 : z_Hp), z_G zi mi_X10_doubts 64 [(0, vr (some a20)), (1, vi x21), (2, vi x22), (3, vi x23)] [] h24 (c_X10_doubts_L64 F a20 x21 n x22 x23 h24) := by
  intro n
  induction n with
  | zero => intro x22 x23 h24; rw [c_X10_doubts_L64]; exact z_none
  | succ n ih =>
    intro x22 x23 h24
    rw [c_X10_doubts_L64]
    refine z_iload_n (pc := 64) dX10_doubts_64 rfl 3 rfl (?_)
    refine z_if_le (pc := 65) (tgt := 134) dX10_doubts_65 (by decide) ?_ ?_
    · refine z_iload_n (pc := 134) dX10_doubts_134 rfl 2 rfl (?_)
      exact z_iret (pc := 135) dX10_doubts_135 rfl rfl
    · refine z_iload_n (pc := 68) dX10_doubts_68 rfl 2 rfl (?_)
      refine z_jn (P := fun (j : Int32 → z_Hp → Option (Int32 × z_Hp)) => ∀ (x26 : Int32) (h27 : z_Hp), z_G zi mi_X10_doubts 104 [(0, vr (some a20)), (1, vi x21), (2, vi x22), (3, vi x23)] [vi x26] h27 (j x26 h27)) (fun x26 h27 => ?_) (fun j104_25 qj104_25 => ?_)
      · refine z_istore (pc := 104) (L' := [(0, vr (some a20)), (1, vi x21), (2, vi x22), (3, vi x23), (4, vi x26)]) dX10_doubts_104 (Nat.le_of_ble_eq_true rfl) rfl (z_iload (pc := 106) dX10_doubts_106 4 rfl (?_))
        refine z_jn (P := fun (j : Int32 → z_Hp → Option (Int32 × z_Hp)) => ∀ (x29 : Int32) (h30 : z_Hp), z_G zi mi_X10_doubts 124 [(0, vr (some a20)), (1, vi x21), (3, vi x23)] [vi x29] h30 (j x29 h30)) (fun x29 h30 => ?_) (fun j124_28 qj124_28 => ?_)
        · refine z_istore_n (pc := 124) (L' := [(0, vr (some a20)), (1, vi x21), (2, vi x29), (3, vi x23)]) dX10_doubts_124 rfl (Nat.le_of_ble_eq_true rfl) rfl (z_iload_n (pc := 125) dX10_doubts_125 rfl 3 rfl (z_iconst (pc := 126) dX10_doubts_126 ic_1 (z_isub (pc := 127) dX10_doubts_127 (z_iload_n (pc := 128) dX10_doubts_128 rfl 1 rfl (z_iand (pc := 129) dX10_doubts_129 (z_istorel_n (pc := 130) (L' := fun x31 => [(0, vr (some a20)), (1, vi x21), (2, vi x29), (3, vi x31)]) dX10_doubts_130 rfl (Nat.le_of_ble_eq_true rfl) (fun _ => rfl) (fun x31 => (z_goto (pc := 131) (tgt := 64) dX10_doubts_131 (by decide) (?_)))))))))
          exact ih x29 x31 h30
        refine z_jn (P := fun (j : z_Hp → Option (Int32 × z_Hp)) => ∀ (h33 : z_Hp), z_G zi mi_X10_doubts 123 [(0, vr (some a20)), (1, vi x21), (2, vi x22), (3, vi x23)] [] h33 (j h33)) (fun h33 => ?_) (fun j123_32 qj123_32 => ?_)
        · refine z_iload_n (pc := 123) dX10_doubts_123 rfl 2 rfl (?_)
          exact z_sub [0, 1, 3] rfl (qj124_28 x22 h33)
        refine z_if_eq (pc := 108) (tgt := 123) dX10_doubts_108 (by decide) ?_ ?_
        · exact z_sub [0, 1, 2, 3] rfl (qj123_32 h27)
        · refine z_aload_n (pc := 111) dX10_doubts_111 rfl 0 rfl (z_iload_n (pc := 112) dX10_doubts_112 rfl 3 rfl (z_callV_I (pc := 113) (avs := [vi x23]) (st := []) rfl (q := (RX10, TX10, 62)) rfl rfl (t_X10_setYears F a20 x23 h27) ky_X10_setYears wm_X10_setYears we_X10_setYears wz_RX10_325 (rm_X10_doubts_X10_setYears) (Nat.le_of_ble_eq_true rfl) dX10_doubts_113 (fun x35 h34 => (?_))))
          refine z_if_eq (pc := 116) (tgt := 123) dX10_doubts_116 (by decide) ?_ ?_
          · exact z_sub [0, 1, 2, 3] rfl (qj123_32 h34)
          · refine z_iload_n (pc := 119) dX10_doubts_119 rfl 3 rfl (z_goto (pc := 120) (tgt := 124) dX10_doubts_120 (by decide) (?_))
            exact z_sub [0, 1, 3] rfl (qj124_28 x23 h34)
      refine z_jn (P := fun (j : z_Hp → Option (Int32 × z_Hp)) => ∀ (h37 : z_Hp), z_G zi mi_X10_doubts 99 [(0, vr (some a20)), (1, vi x21), (2, vi x22), (3, vi x23)] [] h37 (j h37)) (fun h37 => ?_) (fun j99_36 qj99_36 => ?_)
      · refine z_iconst (pc := 99) dX10_doubts_99 ic_1 (z_goto (pc := 100) (tgt := 104) dX10_doubts_100 (by decide) (?_))
        exact qj104_25 1 h37
      refine z_if_lt (pc := 69) (tgt := 99) dX10_doubts_69 (by decide) ?_ ?_
      · exact qj99_36 h24
      · refine z_iload_n (pc := 72) dX10_doubts_72 rfl 3 rfl (z_callS_I (pc := 73) (avs := [vi x23]) (st := []) rfl (t_X10_bits F x23 h24) ky_X10_bits ws_X10_bits wz_RX10_279 (rm_X10_doubts_X10_bits) (Nat.le_of_ble_eq_true rfl) dX10_doubts_73 (fun x39 h38 => (?_)))
        refine z_iload_n (pc := 76) dX10_doubts_76 rfl 2 rfl (z_callS_I (pc := 77) (avs := [vi x22]) (st := [vi x39]) rfl (t_X10_bits F x22 h38) ky_X10_bits ws_X10_bits wz_RX10_279 (rm_X10_doubts_X10_bits) (Nat.le_of_ble_eq_true rfl) dX10_doubts_77 (fun x41 h40 => (?_)))
        refine z_icmp_lt (pc := 80) (tgt := 99) dX10_doubts_80 (by decide) ?_ ?_
        · exact qj99_36 h40
        · refine z_iload_n (pc := 83) dX10_doubts_83 rfl 3 rfl (z_callS_I (pc := 84) (avs := [vi x23]) (st := []) rfl (t_X10_bits F x23 h40) ky_X10_bits ws_X10_bits wz_RX10_279 (rm_X10_doubts_X10_bits) (Nat.le_of_ble_eq_true rfl) dX10_doubts_84 (fun x43 h42 => (?_)))
          refine z_iload_n (pc := 87) dX10_doubts_87 rfl 2 rfl (z_callS_I (pc := 88) (avs := [vi x22]) (st := [vi x43]) rfl (t_X10_bits F x22 h42) ky_X10_bits ws_X10_bits wz_RX10_279 (rm_X10_doubts_X10_bits) (Nat.le_of_ble_eq_true rfl) dX10_doubts_88 (fun x45 h44 => (?_)))
          refine z_jn (P := fun (j : z_Hp → Option (Int32 × z_Hp)) => ∀ (h47 : z_Hp), z_G zi mi_X10_doubts 103 [(0, vr (some a20)), (1, vi x21), (2, vi x22), (3, vi x23)] [] h47 (j h47)) (fun h47 => ?_) (fun j103_46 qj103_46 => ?_)
          · refine z_iconst (pc := 103) dX10_doubts_103 ic_0 (?_)
            exact qj104_25 0 h47
          refine z_icmp_ne (pc := 91) (tgt := 103) dX10_doubts_91 (by decide) ?_ ?_
          · exact qj103_46 h44
          · refine z_iload_n (pc := 94) dX10_doubts_94 rfl 3 rfl (z_iload_n (pc := 95) dX10_doubts_95 rfl 2 rfl (?_))
            refine z_icmp_ge (pc := 96) (tgt := 103) dX10_doubts_96 (by decide) ?_ ?_
            · exact qj103_46 h44
            · exact qj99_36 h44
set_option maxRecDepth 20000 in
set_option maxHeartbeats 4000000 in
theorem t_X10_doubts (F : Nat) (a0 : Nat) (h0 : z_Hp) : z_Ct zi mi_X10_doubts [vr (some a0)] h0 (c_X10_doubts F a0 h0) := by
  refine z_entry (by decide) (Nat.le_of_ble_eq_true rfl) [(0, vr (some a0))] rfl ?_
  unfold c_X10_doubts
  refine z_aload_n (pc := 0) dX10_doubts_0 rfl 0 rfl (z_iconst (pc := 1) dX10_doubts_1 ic_0 (z_callV_I (pc := 2) (avs := [vi 0]) (st := []) rfl (q := (RX10, TX10, 62)) rfl rfl (t_X10_setYears F a0 0 h0) ky_X10_setYears wm_X10_setYears we_X10_setYears wz_RX10_325 (rm_X10_doubts_X10_setYears) (Nat.le_of_ble_eq_true rfl) dX10_doubts_2 (fun x2 h1 => (?_))))
  refine z_if_eq (pc := 5) (tgt := 10) dX10_doubts_5 (by decide) ?_ ?_
  · refine z_iconst (pc := 10) dX10_doubts_10 ic_0 (z_istore_n (pc := 11) (L' := [(0, vr (some a0)), (1, vi 0)]) dX10_doubts_11 rfl (Nat.le_of_ble_eq_true rfl) rfl (z_iconst (pc := 12) dX10_doubts_12 ic_0 (z_istore_n (pc := 13) (L' := [(0, vr (some a0)), (1, vi 0), (2, vi 0)]) dX10_doubts_13 rfl (Nat.le_of_ble_eq_true rfl) rfl (?_))))
    refine g_X10_doubts_L14 F a0 _ (fun x16 h17 => ?_) F 0 0 h1
    refine z_iload_n (pc := 47) dX10_doubts_47 rfl 1 rfl (z_callS_I (pc := 48) (avs := [vi x16]) (st := []) rfl (t_X10_bits F x16 h17) ky_X10_bits ws_X10_bits wz_RX10_279 (rm_X10_doubts_X10_bits) (Nat.le_of_ble_eq_true rfl) dX10_doubts_48 (fun x19 h18 => (?_)))
    refine z_bipush (pc := 51) dX10_doubts_51 bp_10 (?_)
    refine z_icmp_le (pc := 53) (tgt := 59) dX10_doubts_53 (by decide) ?_ ?_
    · refine z_bipush (pc := 59) dX10_doubts_59 bp_m9 (z_istore_n (pc := 61) (L' := [(0, vr (some a0)), (1, vi x16), (2, vi (-9))]) dX10_doubts_61 rfl (Nat.le_of_ble_eq_true rfl) rfl (z_iload_n (pc := 62) dX10_doubts_62 rfl 1 rfl (z_istore_n (pc := 63) (L' := [(0, vr (some a0)), (1, vi x16), (2, vi (-9)), (3, vi x16)]) dX10_doubts_63 rfl (Nat.le_of_ble_eq_true rfl) rfl (?_))))
      refine g_X10_doubts_L64 F a0 x16 F (-9) x16 h18
    · refine z_bipush (pc := 56) dX10_doubts_56 bp_m6 (?_)
      exact z_iret (pc := 58) dX10_doubts_58 rfl rfl
  · refine z_iconst (pc := 8) dX10_doubts_8 ic_0 (?_)
    exact z_iret (pc := 9) dX10_doubts_9 rfl rfl
theorem dX10_areAlike_0 : decode cX10_areAlike 0 = .ok (.aload_n 0, 1) := by decide +kernel
theorem dX10_areAlike_1 : decode cX10_areAlike 1 = .ok (.getfield 123, 3) := by decide +kernel
theorem dX10_areAlike_4 : decode cX10_areAlike 4 = .ok (.iload_n 2, 1) := by decide +kernel
theorem dX10_areAlike_5 : decode cX10_areAlike 5 = .ok (.iaload, 1) := by decide +kernel
theorem dX10_areAlike_6 : decode cX10_areAlike 6 = .ok (.aload_n 0, 1) := by decide +kernel
theorem dX10_areAlike_7 : decode cX10_areAlike 7 = .ok (.getfield 41, 3) := by decide +kernel
theorem dX10_areAlike_10 : decode cX10_areAlike 10 = .ok (.iload 4, 2) := by decide +kernel
theorem dX10_areAlike_12 : decode cX10_areAlike 12 = .ok (.iaload, 1) := by decide +kernel
theorem dX10_areAlike_13 : decode cX10_areAlike 13 = .ok (.if_icmp .ne 7, 3) := by decide +kernel
theorem dX10_areAlike_16 : decode cX10_areAlike 16 = .ok (.iconst 1, 1) := by decide +kernel
theorem dX10_areAlike_17 : decode cX10_areAlike 17 = .ok (.goto 4, 3) := by decide +kernel
theorem dX10_areAlike_20 : decode cX10_areAlike 20 = .ok (.iconst 0, 1) := by decide +kernel
theorem dX10_areAlike_21 : decode cX10_areAlike 21 = .ok (.istore 5, 2) := by decide +kernel
theorem dX10_areAlike_23 : decode cX10_areAlike 23 = .ok (.iconst 0, 1) := by decide +kernel
theorem dX10_areAlike_24 : decode cX10_areAlike 24 = .ok (.istore 6, 2) := by decide +kernel
theorem dX10_areAlike_26 : decode cX10_areAlike 26 = .ok (.iload 6, 2) := by decide +kernel
theorem dX10_areAlike_28 : decode cX10_areAlike 28 = .ok (.aload_n 0, 1) := by decide +kernel
theorem dX10_areAlike_29 : decode cX10_areAlike 29 = .ok (.getfield 41, 3) := by decide +kernel
theorem dX10_areAlike_32 : decode cX10_areAlike 32 = .ok (.iload 4, 2) := by decide +kernel
theorem dX10_areAlike_34 : decode cX10_areAlike 34 = .ok (.iaload, 1) := by decide +kernel
theorem dX10_areAlike_35 : decode cX10_areAlike 35 = .ok (.if_icmp .ge 63, 3) := by decide +kernel
theorem dX10_areAlike_38 : decode cX10_areAlike 38 = .ok (.iload 5, 2) := by decide +kernel
theorem dX10_areAlike_40 : decode cX10_areAlike 40 = .ok (.ifCond .eq 58, 3) := by decide +kernel
theorem dX10_areAlike_43 : decode cX10_areAlike 43 = .ok (.aload_n 0, 1) := by decide +kernel
theorem dX10_areAlike_44 : decode cX10_areAlike 44 = .ok (.getfield 35, 3) := by decide +kernel
theorem dX10_areAlike_47 : decode cX10_areAlike 47 = .ok (.bipush 60, 2) := by decide +kernel
theorem dX10_areAlike_49 : decode cX10_areAlike 49 = .ok (.iload_n 1, 1) := by decide +kernel
theorem dX10_areAlike_50 : decode cX10_areAlike 50 = .ok (.imul, 1) := by decide +kernel
theorem dX10_areAlike_51 : decode cX10_areAlike 51 = .ok (.aload_n 0, 1) := by decide +kernel
theorem dX10_areAlike_52 : decode cX10_areAlike 52 = .ok (.getfield 120, 3) := by decide +kernel
theorem dX10_areAlike_55 : decode cX10_areAlike 55 = .ok (.iload_n 2, 1) := by decide +kernel
theorem dX10_areAlike_56 : decode cX10_areAlike 56 = .ok (.iaload, 1) := by decide +kernel
theorem dX10_areAlike_57 : decode cX10_areAlike 57 = .ok (.iadd, 1) := by decide +kernel
theorem dX10_areAlike_58 : decode cX10_areAlike 58 = .ok (.iload 6, 2) := by decide +kernel
theorem dX10_areAlike_60 : decode cX10_areAlike 60 = .ok (.iadd, 1) := by decide +kernel
theorem dX10_areAlike_61 : decode cX10_areAlike 61 = .ok (.iaload, 1) := by decide +kernel
theorem dX10_areAlike_62 : decode cX10_areAlike 62 = .ok (.aload_n 0, 1) := by decide +kernel
theorem dX10_areAlike_63 : decode cX10_areAlike 63 = .ok (.getfield 35, 3) := by decide +kernel
theorem dX10_areAlike_66 : decode cX10_areAlike 66 = .ok (.bipush 60, 2) := by decide +kernel
theorem dX10_areAlike_68 : decode cX10_areAlike 68 = .ok (.iload_n 3, 1) := by decide +kernel
theorem dX10_areAlike_69 : decode cX10_areAlike 69 = .ok (.imul, 1) := by decide +kernel
theorem dX10_areAlike_70 : decode cX10_areAlike 70 = .ok (.aload_n 0, 1) := by decide +kernel
theorem dX10_areAlike_71 : decode cX10_areAlike 71 = .ok (.getfield 38, 3) := by decide +kernel
theorem dX10_areAlike_74 : decode cX10_areAlike 74 = .ok (.iload 4, 2) := by decide +kernel
theorem dX10_areAlike_76 : decode cX10_areAlike 76 = .ok (.iaload, 1) := by decide +kernel
theorem dX10_areAlike_77 : decode cX10_areAlike 77 = .ok (.iadd, 1) := by decide +kernel
theorem dX10_areAlike_78 : decode cX10_areAlike 78 = .ok (.iload 6, 2) := by decide +kernel
theorem dX10_areAlike_80 : decode cX10_areAlike 80 = .ok (.iadd, 1) := by decide +kernel
theorem dX10_areAlike_81 : decode cX10_areAlike 81 = .ok (.iaload, 1) := by decide +kernel
theorem dX10_areAlike_82 : decode cX10_areAlike 82 = .ok (.if_icmp .ne 7, 3) := by decide +kernel
theorem dX10_areAlike_85 : decode cX10_areAlike 85 = .ok (.iconst 1, 1) := by decide +kernel
theorem dX10_areAlike_86 : decode cX10_areAlike 86 = .ok (.goto 4, 3) := by decide +kernel
theorem dX10_areAlike_89 : decode cX10_areAlike 89 = .ok (.iconst 0, 1) := by decide +kernel
theorem dX10_areAlike_90 : decode cX10_areAlike 90 = .ok (.istore 5, 2) := by decide +kernel
theorem dX10_areAlike_92 : decode cX10_areAlike 92 = .ok (.iinc 6 1, 3) := by decide +kernel
theorem dX10_areAlike_95 : decode cX10_areAlike 95 = .ok (.goto (-69), 3) := by decide +kernel
theorem dX10_areAlike_98 : decode cX10_areAlike 98 = .ok (.iload 5, 2) := by decide +kernel
theorem dX10_areAlike_100 : decode cX10_areAlike 100 = .ok (.ireturn, 1) := by decide +kernel
def c_X10_areAlike_L26 (F : Nat) (a12 : Nat) (x13 : Int32) (x14 : Int32) (x15 : Int32) (x16 : Int32) : Nat → Int32 → Int32 → z_Hp → Option (Int32 × z_Hp)
  | 0, _, _, _ => none
  | n + 1, x17, x18, h19 => (if hT h19 a12 = 10 then (lt_ (hR h19 a12 16) (fun o20 => (nn o20 (fun a21 => (if okA h19 a21 20 x16 = true then (if (hI h19 a21 (ix x16)) ≤ x18 then (if x17 = 0 ∨ x17 = 1 then some (x17, h19) else none) else (if x17 = 0 then (if x17 = 0 ∨ x17 = 1 then some (x17, h19) else none) else (if hT h19 a12 = 10 then (lt_ (hR h19 a12 13) (fun o22 => (if hT h19 a12 = 10 then (lt_ (hR h19 a12 45) (fun o23 => (nn o23 (fun a24 => (if okA h19 a24 20 x14 = true then (nn o22 (fun a25 => (if okA h19 a25 20 (((60 * x13) + (hI h19 a24 (ix x14))) + x18) = true then (if hT h19 a12 = 10 then (lt_ (hR h19 a12 13) (fun o26 => (if hT h19 a12 = 10 then (lt_ (hR h19 a12 15) (fun o27 => (nn o27 (fun a28 => (if okA h19 a28 20 x16 = true then (nn o26 (fun a29 => (if okA h19 a29 20 (((60 * x15) + (hI h19 a28 (ix x16))) + x18) = true then (lt_ (fun (x31 : Int32) (h32 : z_Hp) => (lt_ (x18 + 1) (fun x33 => (c_X10_areAlike_L26 F a12 x13 x14 x15 x16 n x31 x33 h32)))) (fun (j90_30 : Int32 → z_Hp → Option (Int32 × z_Hp)) => (if (hI h19 a25 (ix (((60 * x13) + (hI h19 a24 (ix x14))) + x18))) = (hI h19 a29 (ix (((60 * x15) + (hI h19 a28 (ix x16))) + x18))) then (j90_30 1 h19) else (j90_30 0 h19)))) else none))) else none))))) else none))) else none) else none))) else none))))) else none))) else none))) else none))))) else none)
def c_X10_areAlike (F : Nat) (a0 : Nat) (x1 : Int32) (x2 : Int32) (x3 : Int32) (x4 : Int32) (h0 : z_Hp) : Option (Int32 × z_Hp) := (if hT h0 a0 = 10 then (lt_ (hR h0 a0 46) (fun o5 => (nn o5 (fun a6 => (if okA h0 a6 20 x2 = true then (if hT h0 a0 = 10 then (lt_ (hR h0 a0 16) (fun o7 => (nn o7 (fun a8 => (if okA h0 a8 20 x4 = true then (lt_ (fun (x10 : Int32) (h11 : z_Hp) => (c_X10_areAlike_L26 F a0 x1 x2 x3 x4 F x10 0 h11)) (fun (j21_9 : Int32 → z_Hp → Option (Int32 × z_Hp)) => (if (hI h0 a6 (ix x2)) = (hI h0 a8 (ix x4)) then (j21_9 1 h0) else (j21_9 0 h0)))) else none))))) else none) else none))))) else none)
set_option maxRecDepth 20000 in
set_option maxHeartbeats 4000000 in
theorem g_X10_areAlike_L26 (F : Nat) (a12 : Nat) (x13 : Int32) (x14 : Int32) (x15 : Int32) (x16 : Int32) : ∀ (n : Nat) (x17 : Int32) (x18 : Int32) (h19 : z_Hp), z_G zi mi_X10_areAlike 26 [(0, vr (some a12)), (1, vi x13), (2, vi x14), (3, vi x15), (4, vi x16), (5, vi x17), (6, vi x18)] [] h19 (c_X10_areAlike_L26 F a12 x13 x14 x15 x16 n x17 x18 h19) := by
  intro n
  induction n with
  | zero => intro x17 x18 h19; rw [c_X10_areAlike_L26]; exact z_none
  | succ n ih =>
    intro x17 x18 h19
    rw [c_X10_areAlike_L26]
    refine z_iload (pc := 26) dX10_areAlike_26 6 rfl (z_aload_n (pc := 28) dX10_areAlike_28 rfl 0 rfl (z_getRl (pc := 29) fl_RX10_41 rfl dX10_areAlike_29 (fun o20 => (z_iload (pc := 32) dX10_areAlike_32 4 rfl (?_)))))
    refine z_nn (fun a21 ea21 => ?_)
    subst ea21
    refine z_iaload (pc := 34) dX10_areAlike_34 (?_)
    refine z_icmp_ge (pc := 35) (tgt := 98) dX10_areAlike_35 (by decide) ?_ ?_
    · refine z_iload (pc := 98) dX10_areAlike_98 5 rfl (?_)
      exact z_zret (pc := 100) dX10_areAlike_100 rfl
    · refine z_iload (pc := 38) dX10_areAlike_38 5 rfl (?_)
      refine z_if_eq (pc := 40) (tgt := 98) dX10_areAlike_40 (by decide) ?_ ?_
      · refine z_iload (pc := 98) dX10_areAlike_98 5 rfl (?_)
        exact z_zret (pc := 100) dX10_areAlike_100 rfl
      · refine z_aload_n (pc := 43) dX10_areAlike_43 rfl 0 rfl (z_getRl (pc := 44) fl_RX10_35 rfl dX10_areAlike_44 (fun o22 => (z_bipush (pc := 47) dX10_areAlike_47 bp_60 (z_iload_n (pc := 49) dX10_areAlike_49 rfl 1 rfl (z_imul (pc := 50) dX10_areAlike_50 (z_aload_n (pc := 51) dX10_areAlike_51 rfl 0 rfl (z_getRl (pc := 52) fl_RX10_120 rfl dX10_areAlike_52 (fun o23 => (z_iload_n (pc := 55) dX10_areAlike_55 rfl 2 rfl (?_))))))))))
        refine z_nn (fun a24 ea24 => ?_)
        subst ea24
        refine z_iaload (pc := 56) dX10_areAlike_56 (z_iadd (pc := 57) dX10_areAlike_57 (z_iload (pc := 58) dX10_areAlike_58 6 rfl (z_iadd (pc := 60) dX10_areAlike_60 (?_))))
        refine z_nn (fun a25 ea25 => ?_)
        subst ea25
        refine z_iaload (pc := 61) dX10_areAlike_61 (z_aload_n (pc := 62) dX10_areAlike_62 rfl 0 rfl (z_getRl (pc := 63) fl_RX10_35 rfl dX10_areAlike_63 (fun o26 => (z_bipush (pc := 66) dX10_areAlike_66 bp_60 (z_iload_n (pc := 68) dX10_areAlike_68 rfl 3 rfl (z_imul (pc := 69) dX10_areAlike_69 (z_aload_n (pc := 70) dX10_areAlike_70 rfl 0 rfl (z_getRl (pc := 71) fl_RX10_38 rfl dX10_areAlike_71 (fun o27 => (?_))))))))))
        refine z_iload (pc := 74) dX10_areAlike_74 4 rfl (?_)
        refine z_nn (fun a28 ea28 => ?_)
        subst ea28
        refine z_iaload (pc := 76) dX10_areAlike_76 (z_iadd (pc := 77) dX10_areAlike_77 (z_iload (pc := 78) dX10_areAlike_78 6 rfl (z_iadd (pc := 80) dX10_areAlike_80 (?_))))
        refine z_nn (fun a29 ea29 => ?_)
        subst ea29
        refine z_iaload (pc := 81) dX10_areAlike_81 (?_)
        refine z_jn (P := fun (j : Int32 → z_Hp → Option (Int32 × z_Hp)) => ∀ (x31 : Int32) (h32 : z_Hp), z_G zi mi_X10_areAlike 90 [(0, vr (some a12)), (1, vi x13), (2, vi x14), (3, vi x15), (4, vi x16), (6, vi x18)] [vi x31] h32 (j x31 h32)) (fun x31 h32 => ?_) (fun j90_30 qj90_30 => ?_)
        · refine z_istore (pc := 90) (L' := [(0, vr (some a12)), (1, vi x13), (2, vi x14), (3, vi x15), (4, vi x16), (5, vi x31), (6, vi x18)]) dX10_areAlike_90 (Nat.le_of_ble_eq_true rfl) rfl (z_iincl (pc := 92) (L' := fun x33 => [(0, vr (some a12)), (1, vi x13), (2, vi x14), (3, vi x15), (4, vi x16), (5, vi x31), (6, vi x33)]) dX10_areAlike_92 6 rfl ic_1 (Nat.le_of_ble_eq_true rfl) (fun _ => rfl) (fun x33 => (z_goto (pc := 95) (tgt := 26) dX10_areAlike_95 (by decide) (?_))))
          exact ih x31 x33 h32
        refine z_icmp_ne (pc := 82) (tgt := 89) dX10_areAlike_82 (by decide) ?_ ?_
        · refine z_iconst (pc := 89) dX10_areAlike_89 ic_0 (?_)
          exact z_sub [0, 1, 2, 3, 4, 6] rfl (qj90_30 0 h19)
        · refine z_iconst (pc := 85) dX10_areAlike_85 ic_1 (z_goto (pc := 86) (tgt := 90) dX10_areAlike_86 (by decide) (?_))
          exact z_sub [0, 1, 2, 3, 4, 6] rfl (qj90_30 1 h19)
set_option maxRecDepth 20000 in
set_option maxHeartbeats 4000000 in
theorem t_X10_areAlike (F : Nat) (a0 : Nat) (x1 : Int32) (x2 : Int32) (x3 : Int32) (x4 : Int32) (h0 : z_Hp) : z_Ct zi mi_X10_areAlike [vr (some a0), vi x1, vi x2, vi x3, vi x4] h0 (c_X10_areAlike F a0 x1 x2 x3 x4 h0) := by
  refine z_entry (by decide) (Nat.le_of_ble_eq_true rfl) [(0, vr (some a0)), (1, vi x1), (2, vi x2), (3, vi x3), (4, vi x4)] rfl ?_
  unfold c_X10_areAlike
  refine z_aload_n (pc := 0) dX10_areAlike_0 rfl 0 rfl (z_getRl (pc := 1) fl_RX10_123 rfl dX10_areAlike_1 (fun o5 => (z_iload_n (pc := 4) dX10_areAlike_4 rfl 2 rfl (?_))))
  refine z_nn (fun a6 ea6 => ?_)
  subst ea6
  refine z_iaload (pc := 5) dX10_areAlike_5 (z_aload_n (pc := 6) dX10_areAlike_6 rfl 0 rfl (z_getRl (pc := 7) fl_RX10_41 rfl dX10_areAlike_7 (fun o7 => (z_iload (pc := 10) dX10_areAlike_10 4 rfl (?_)))))
  refine z_nn (fun a8 ea8 => ?_)
  subst ea8
  refine z_iaload (pc := 12) dX10_areAlike_12 (?_)
  refine z_jn (P := fun (j : Int32 → z_Hp → Option (Int32 × z_Hp)) => ∀ (x10 : Int32) (h11 : z_Hp), z_G zi mi_X10_areAlike 21 [(0, vr (some a0)), (1, vi x1), (2, vi x2), (3, vi x3), (4, vi x4)] [vi x10] h11 (j x10 h11)) (fun x10 h11 => ?_) (fun j21_9 qj21_9 => ?_)
  · refine z_istore (pc := 21) (L' := [(0, vr (some a0)), (1, vi x1), (2, vi x2), (3, vi x3), (4, vi x4), (5, vi x10)]) dX10_areAlike_21 (Nat.le_of_ble_eq_true rfl) rfl (z_iconst (pc := 23) dX10_areAlike_23 ic_0 (z_istore (pc := 24) (L' := [(0, vr (some a0)), (1, vi x1), (2, vi x2), (3, vi x3), (4, vi x4), (5, vi x10), (6, vi 0)]) dX10_areAlike_24 (Nat.le_of_ble_eq_true rfl) rfl (?_)))
    refine g_X10_areAlike_L26 F a0 x1 x2 x3 x4 F x10 0 h11
  refine z_icmp_ne (pc := 13) (tgt := 20) dX10_areAlike_13 (by decide) ?_ ?_
  · refine z_iconst (pc := 20) dX10_areAlike_20 ic_0 (?_)
    exact qj21_9 0 h0
  · refine z_iconst (pc := 16) dX10_areAlike_16 ic_1 (z_goto (pc := 17) (tgt := 21) dX10_areAlike_17 (by decide) (?_))
    exact qj21_9 1 h0
theorem dX10_changesOf_0 : decode cX10_changesOf 0 = .ok (.aload_n 0, 1) := by decide +kernel
theorem dX10_changesOf_1 : decode cX10_changesOf 1 = .ok (.iload_n 1, 1) := by decide +kernel
theorem dX10_changesOf_2 : decode cX10_changesOf 2 = .ok (.invokevirtual 203, 3) := by decide +kernel
theorem dX10_changesOf_5 : decode cX10_changesOf 5 = .ok (.aload_n 0, 1) := by decide +kernel
theorem dX10_changesOf_6 : decode cX10_changesOf 6 = .ok (.getfield 200, 3) := by decide +kernel
theorem dX10_changesOf_9 : decode cX10_changesOf 9 = .ok (.istore_n 3, 1) := by decide +kernel
theorem dX10_changesOf_10 : decode cX10_changesOf 10 = .ok (.iconst 0, 1) := by decide +kernel
theorem dX10_changesOf_11 : decode cX10_changesOf 11 = .ok (.istore 4, 2) := by decide +kernel
theorem dX10_changesOf_13 : decode cX10_changesOf 13 = .ok (.iload 4, 2) := by decide +kernel
theorem dX10_changesOf_15 : decode cX10_changesOf 15 = .ok (.iload_n 3, 1) := by decide +kernel
theorem dX10_changesOf_16 : decode cX10_changesOf 16 = .ok (.if_icmp .ge 37, 3) := by decide +kernel
theorem dX10_changesOf_19 : decode cX10_changesOf 19 = .ok (.aload_n 0, 1) := by decide +kernel
theorem dX10_changesOf_20 : decode cX10_changesOf 20 = .ok (.getfield 120, 3) := by decide +kernel
theorem dX10_changesOf_23 : decode cX10_changesOf 23 = .ok (.iload 4, 2) := by decide +kernel
theorem dX10_changesOf_25 : decode cX10_changesOf 25 = .ok (.aload_n 0, 1) := by decide +kernel
theorem dX10_changesOf_26 : decode cX10_changesOf 26 = .ok (.getfield 38, 3) := by decide +kernel
theorem dX10_changesOf_29 : decode cX10_changesOf 29 = .ok (.iload 4, 2) := by decide +kernel
theorem dX10_changesOf_31 : decode cX10_changesOf 31 = .ok (.iaload, 1) := by decide +kernel
theorem dX10_changesOf_32 : decode cX10_changesOf 32 = .ok (.iastore, 1) := by decide +kernel
theorem dX10_changesOf_33 : decode cX10_changesOf 33 = .ok (.aload_n 0, 1) := by decide +kernel
theorem dX10_changesOf_34 : decode cX10_changesOf 34 = .ok (.getfield 123, 3) := by decide +kernel
theorem dX10_changesOf_37 : decode cX10_changesOf 37 = .ok (.iload 4, 2) := by decide +kernel
theorem dX10_changesOf_39 : decode cX10_changesOf 39 = .ok (.aload_n 0, 1) := by decide +kernel
theorem dX10_changesOf_40 : decode cX10_changesOf 40 = .ok (.getfield 41, 3) := by decide +kernel
theorem dX10_changesOf_43 : decode cX10_changesOf 43 = .ok (.iload 4, 2) := by decide +kernel
theorem dX10_changesOf_45 : decode cX10_changesOf 45 = .ok (.iaload, 1) := by decide +kernel
theorem dX10_changesOf_46 : decode cX10_changesOf 46 = .ok (.iastore, 1) := by decide +kernel
theorem dX10_changesOf_47 : decode cX10_changesOf 47 = .ok (.iinc 4 1, 3) := by decide +kernel
theorem dX10_changesOf_50 : decode cX10_changesOf 50 = .ok (.goto (-37), 3) := by decide +kernel
theorem dX10_changesOf_53 : decode cX10_changesOf 53 = .ok (.aload_n 0, 1) := by decide +kernel
theorem dX10_changesOf_54 : decode cX10_changesOf 54 = .ok (.iload_n 2, 1) := by decide +kernel
theorem dX10_changesOf_55 : decode cX10_changesOf 55 = .ok (.invokevirtual 203, 3) := by decide +kernel
theorem dX10_changesOf_58 : decode cX10_changesOf 58 = .ok (.iconst 0, 1) := by decide +kernel
theorem dX10_changesOf_59 : decode cX10_changesOf 59 = .ok (.istore 4, 2) := by decide +kernel
theorem dX10_changesOf_61 : decode cX10_changesOf 61 = .ok (.iload 4, 2) := by decide +kernel
theorem dX10_changesOf_63 : decode cX10_changesOf 63 = .ok (.aload_n 0, 1) := by decide +kernel
theorem dX10_changesOf_64 : decode cX10_changesOf 64 = .ok (.getfield 200, 3) := by decide +kernel
theorem dX10_changesOf_67 : decode cX10_changesOf 67 = .ok (.if_icmp .gt 18, 3) := by decide +kernel
theorem dX10_changesOf_70 : decode cX10_changesOf 70 = .ok (.aload_n 0, 1) := by decide +kernel
theorem dX10_changesOf_71 : decode cX10_changesOf 71 = .ok (.getfield 126, 3) := by decide +kernel
theorem dX10_changesOf_74 : decode cX10_changesOf 74 = .ok (.iload 4, 2) := by decide +kernel
theorem dX10_changesOf_76 : decode cX10_changesOf 76 = .ok (.iload 4, 2) := by decide +kernel
theorem dX10_changesOf_78 : decode cX10_changesOf 78 = .ok (.iastore, 1) := by decide +kernel
theorem dX10_changesOf_79 : decode cX10_changesOf 79 = .ok (.iinc 4 1, 3) := by decide +kernel
theorem dX10_changesOf_82 : decode cX10_changesOf 82 = .ok (.goto (-21), 3) := by decide +kernel
theorem dX10_changesOf_85 : decode cX10_changesOf 85 = .ok (.iconst 0, 1) := by decide +kernel
theorem dX10_changesOf_86 : decode cX10_changesOf 86 = .ok (.istore 4, 2) := by decide +kernel
theorem dX10_changesOf_88 : decode cX10_changesOf 88 = .ok (.iload 4, 2) := by decide +kernel
theorem dX10_changesOf_90 : decode cX10_changesOf 90 = .ok (.iload_n 3, 1) := by decide +kernel
theorem dX10_changesOf_91 : decode cX10_changesOf 91 = .ok (.if_icmp .ge 168, 3) := by decide +kernel
theorem dX10_changesOf_94 : decode cX10_changesOf 94 = .ok (.iconst 0, 1) := by decide +kernel
theorem dX10_changesOf_95 : decode cX10_changesOf 95 = .ok (.istore 5, 2) := by decide +kernel
theorem dX10_changesOf_97 : decode cX10_changesOf 97 = .ok (.iload 5, 2) := by decide +kernel
theorem dX10_changesOf_99 : decode cX10_changesOf 99 = .ok (.aload_n 0, 1) := by decide +kernel
theorem dX10_changesOf_100 : decode cX10_changesOf 100 = .ok (.getfield 200, 3) := by decide +kernel
theorem dX10_changesOf_103 : decode cX10_changesOf 103 = .ok (.if_icmp .gt 23, 3) := by decide +kernel
theorem dX10_changesOf_106 : decode cX10_changesOf 106 = .ok (.aload_n 0, 1) := by decide +kernel
theorem dX10_changesOf_107 : decode cX10_changesOf 107 = .ok (.getfield 129, 3) := by decide +kernel
theorem dX10_changesOf_110 : decode cX10_changesOf 110 = .ok (.iload 5, 2) := by decide +kernel
theorem dX10_changesOf_112 : decode cX10_changesOf 112 = .ok (.aload_n 0, 1) := by decide +kernel
theorem dX10_changesOf_113 : decode cX10_changesOf 113 = .ok (.getfield 126, 3) := by decide +kernel
theorem dX10_changesOf_116 : decode cX10_changesOf 116 = .ok (.iload 5, 2) := by decide +kernel
theorem dX10_changesOf_118 : decode cX10_changesOf 118 = .ok (.iaload, 1) := by decide +kernel
theorem dX10_changesOf_119 : decode cX10_changesOf 119 = .ok (.iastore, 1) := by decide +kernel
theorem dX10_changesOf_120 : decode cX10_changesOf 120 = .ok (.iinc 5 1, 3) := by decide +kernel
theorem dX10_changesOf_123 : decode cX10_changesOf 123 = .ok (.goto (-26), 3) := by decide +kernel
theorem dX10_changesOf_126 : decode cX10_changesOf 126 = .ok (.aload_n 0, 1) := by decide +kernel
theorem dX10_changesOf_127 : decode cX10_changesOf 127 = .ok (.getfield 126, 3) := by decide +kernel
theorem dX10_changesOf_130 : decode cX10_changesOf 130 = .ok (.iconst 0, 1) := by decide +kernel
theorem dX10_changesOf_131 : decode cX10_changesOf 131 = .ok (.iload 4, 2) := by decide +kernel
theorem dX10_changesOf_133 : decode cX10_changesOf 133 = .ok (.iconst 1, 1) := by decide +kernel
theorem dX10_changesOf_134 : decode cX10_changesOf 134 = .ok (.iadd, 1) := by decide +kernel
theorem dX10_changesOf_135 : decode cX10_changesOf 135 = .ok (.iastore, 1) := by decide +kernel
theorem dX10_changesOf_136 : decode cX10_changesOf 136 = .ok (.iconst 0, 1) := by decide +kernel
theorem dX10_changesOf_137 : decode cX10_changesOf 137 = .ok (.istore 5, 2) := by decide +kernel
theorem dX10_changesOf_139 : decode cX10_changesOf 139 = .ok (.iload 5, 2) := by decide +kernel
theorem dX10_changesOf_141 : decode cX10_changesOf 141 = .ok (.aload_n 0, 1) := by decide +kernel
theorem dX10_changesOf_142 : decode cX10_changesOf 142 = .ok (.getfield 200, 3) := by decide +kernel
theorem dX10_changesOf_145 : decode cX10_changesOf 145 = .ok (.if_icmp .ge 108, 3) := by decide +kernel
theorem dX10_changesOf_148 : decode cX10_changesOf 148 = .ok (.aload_n 0, 1) := by decide +kernel
theorem dX10_changesOf_149 : decode cX10_changesOf 149 = .ok (.getfield 129, 3) := by decide +kernel
theorem dX10_changesOf_152 : decode cX10_changesOf 152 = .ok (.iload 5, 2) := by decide +kernel
theorem dX10_changesOf_154 : decode cX10_changesOf 154 = .ok (.iaload, 1) := by decide +kernel
theorem dX10_changesOf_155 : decode cX10_changesOf 155 = .ok (.aload_n 0, 1) := by decide +kernel
theorem dX10_changesOf_156 : decode cX10_changesOf 156 = .ok (.iload_n 1, 1) := by decide +kernel
theorem dX10_changesOf_157 : decode cX10_changesOf 157 = .ok (.iload 4, 2) := by decide +kernel
theorem dX10_changesOf_159 : decode cX10_changesOf 159 = .ok (.iload_n 2, 1) := by decide +kernel
theorem dX10_changesOf_160 : decode cX10_changesOf 160 = .ok (.iload 5, 2) := by decide +kernel
theorem dX10_changesOf_162 : decode cX10_changesOf 162 = .ok (.invokevirtual 328, 3) := by decide +kernel
theorem dX10_changesOf_165 : decode cX10_changesOf 165 = .ok (.ifCond .eq 7, 3) := by decide +kernel
theorem dX10_changesOf_168 : decode cX10_changesOf 168 = .ok (.iconst 0, 1) := by decide +kernel
theorem dX10_changesOf_169 : decode cX10_changesOf 169 = .ok (.goto 4, 3) := by decide +kernel
theorem dX10_changesOf_172 : decode cX10_changesOf 172 = .ok (.iconst 1, 1) := by decide +kernel
theorem dX10_changesOf_173 : decode cX10_changesOf 173 = .ok (.iadd, 1) := by decide +kernel
theorem dX10_changesOf_174 : decode cX10_changesOf 174 = .ok (.istore 6, 2) := by decide +kernel
theorem dX10_changesOf_176 : decode cX10_changesOf 176 = .ok (.aload_n 0, 1) := by decide +kernel
theorem dX10_changesOf_177 : decode cX10_changesOf 177 = .ok (.getfield 129, 3) := by decide +kernel
theorem dX10_changesOf_180 : decode cX10_changesOf 180 = .ok (.iload 5, 2) := by decide +kernel
theorem dX10_changesOf_182 : decode cX10_changesOf 182 = .ok (.iconst 1, 1) := by decide +kernel
theorem dX10_changesOf_183 : decode cX10_changesOf 183 = .ok (.iadd, 1) := by decide +kernel
theorem dX10_changesOf_184 : decode cX10_changesOf 184 = .ok (.iaload, 1) := by decide +kernel
theorem dX10_changesOf_185 : decode cX10_changesOf 185 = .ok (.iconst 1, 1) := by decide +kernel
theorem dX10_changesOf_186 : decode cX10_changesOf 186 = .ok (.iadd, 1) := by decide +kernel
theorem dX10_changesOf_187 : decode cX10_changesOf 187 = .ok (.iload 6, 2) := by decide +kernel
theorem dX10_changesOf_189 : decode cX10_changesOf 189 = .ok (.if_icmp .ge 17, 3) := by decide +kernel
theorem dX10_changesOf_192 : decode cX10_changesOf 192 = .ok (.aload_n 0, 1) := by decide +kernel
theorem dX10_changesOf_193 : decode cX10_changesOf 193 = .ok (.getfield 129, 3) := by decide +kernel
theorem dX10_changesOf_196 : decode cX10_changesOf 196 = .ok (.iload 5, 2) := by decide +kernel
theorem dX10_changesOf_198 : decode cX10_changesOf 198 = .ok (.iconst 1, 1) := by decide +kernel
theorem dX10_changesOf_199 : decode cX10_changesOf 199 = .ok (.iadd, 1) := by decide +kernel
theorem dX10_changesOf_200 : decode cX10_changesOf 200 = .ok (.iaload, 1) := by decide +kernel
theorem dX10_changesOf_201 : decode cX10_changesOf 201 = .ok (.iconst 1, 1) := by decide +kernel
theorem dX10_changesOf_202 : decode cX10_changesOf 202 = .ok (.iadd, 1) := by decide +kernel
theorem dX10_changesOf_203 : decode cX10_changesOf 203 = .ok (.goto 5, 3) := by decide +kernel
theorem dX10_changesOf_206 : decode cX10_changesOf 206 = .ok (.iload 6, 2) := by decide +kernel
theorem dX10_changesOf_208 : decode cX10_changesOf 208 = .ok (.istore 6, 2) := by decide +kernel
theorem dX10_changesOf_210 : decode cX10_changesOf 210 = .ok (.aload_n 0, 1) := by decide +kernel
theorem dX10_changesOf_211 : decode cX10_changesOf 211 = .ok (.getfield 126, 3) := by decide +kernel
theorem dX10_changesOf_214 : decode cX10_changesOf 214 = .ok (.iload 5, 2) := by decide +kernel
theorem dX10_changesOf_216 : decode cX10_changesOf 216 = .ok (.iconst 1, 1) := by decide +kernel
theorem dX10_changesOf_217 : decode cX10_changesOf 217 = .ok (.iadd, 1) := by decide +kernel
theorem dX10_changesOf_218 : decode cX10_changesOf 218 = .ok (.aload_n 0, 1) := by decide +kernel
theorem dX10_changesOf_219 : decode cX10_changesOf 219 = .ok (.getfield 126, 3) := by decide +kernel
theorem dX10_changesOf_222 : decode cX10_changesOf 222 = .ok (.iload 5, 2) := by decide +kernel
theorem dX10_changesOf_224 : decode cX10_changesOf 224 = .ok (.iaload, 1) := by decide +kernel
theorem dX10_changesOf_225 : decode cX10_changesOf 225 = .ok (.iconst 1, 1) := by decide +kernel
theorem dX10_changesOf_226 : decode cX10_changesOf 226 = .ok (.iadd, 1) := by decide +kernel
theorem dX10_changesOf_227 : decode cX10_changesOf 227 = .ok (.iload 6, 2) := by decide +kernel
theorem dX10_changesOf_229 : decode cX10_changesOf 229 = .ok (.if_icmp .ge 15, 3) := by decide +kernel
theorem dX10_changesOf_232 : decode cX10_changesOf 232 = .ok (.aload_n 0, 1) := by decide +kernel
theorem dX10_changesOf_233 : decode cX10_changesOf 233 = .ok (.getfield 126, 3) := by decide +kernel
theorem dX10_changesOf_236 : decode cX10_changesOf 236 = .ok (.iload 5, 2) := by decide +kernel
theorem dX10_changesOf_238 : decode cX10_changesOf 238 = .ok (.iaload, 1) := by decide +kernel
theorem dX10_changesOf_239 : decode cX10_changesOf 239 = .ok (.iconst 1, 1) := by decide +kernel
theorem dX10_changesOf_240 : decode cX10_changesOf 240 = .ok (.iadd, 1) := by decide +kernel
theorem dX10_changesOf_241 : decode cX10_changesOf 241 = .ok (.goto 5, 3) := by decide +kernel
theorem dX10_changesOf_244 : decode cX10_changesOf 244 = .ok (.iload 6, 2) := by decide +kernel
theorem dX10_changesOf_246 : decode cX10_changesOf 246 = .ok (.iastore, 1) := by decide +kernel
theorem dX10_changesOf_247 : decode cX10_changesOf 247 = .ok (.iinc 5 1, 3) := by decide +kernel
theorem dX10_changesOf_250 : decode cX10_changesOf 250 = .ok (.goto (-111), 3) := by decide +kernel
theorem dX10_changesOf_253 : decode cX10_changesOf 253 = .ok (.iinc 4 1, 3) := by decide +kernel
theorem dX10_changesOf_256 : decode cX10_changesOf 256 = .ok (.goto (-168), 3) := by decide +kernel
theorem dX10_changesOf_259 : decode cX10_changesOf 259 = .ok (.aload_n 0, 1) := by decide +kernel
theorem dX10_changesOf_260 : decode cX10_changesOf 260 = .ok (.getfield 126, 3) := by decide +kernel
theorem dX10_changesOf_263 : decode cX10_changesOf 263 = .ok (.aload_n 0, 1) := by decide +kernel
theorem dX10_changesOf_264 : decode cX10_changesOf 264 = .ok (.getfield 200, 3) := by decide +kernel
theorem dX10_changesOf_267 : decode cX10_changesOf 267 = .ok (.iaload, 1) := by decide +kernel
theorem dX10_changesOf_268 : decode cX10_changesOf 268 = .ok (.ireturn, 1) := by decide +kernel
def c_X10_changesOf_L13 (F : Nat) (a5 : Nat) (x6 : Int32) (x7 : Int32) (x8 : Int32) (k53 : z_Hp → Option (Int32 × z_Hp)) : Nat → Int32 → z_Hp → Option (Int32 × z_Hp)
  | 0, _, _ => none
  | n + 1, x9, h10 => (if x8 ≤ x9 then (k53 h10) else (if hT h10 a5 = 10 then (lt_ (hR h10 a5 45) (fun o12 => (if hT h10 a5 = 10 then (lt_ (hR h10 a5 15) (fun o13 => (nn o13 (fun a14 => (if okA h10 a14 20 x9 = true then (nn o12 (fun a15 => (if okA h10 a15 20 x9 = true then (lt_ (sI h10 a15 (ix x9) (hI h10 a14 (ix x9))) (fun h16 => (if hT h16 a5 = 10 then (lt_ (hR h16 a5 46) (fun o17 => (if hT h16 a5 = 10 then (lt_ (hR h16 a5 16) (fun o18 => (nn o18 (fun a19 => (if okA h16 a19 20 x9 = true then (nn o17 (fun a20 => (if okA h16 a20 20 x9 = true then (lt_ (sI h16 a20 (ix x9) (hI h16 a19 (ix x9))) (fun h21 => (lt_ (x9 + 1) (fun x22 => (c_X10_changesOf_L13 F a5 x6 x7 x8 k53 n x22 h21))))) else none))) else none))))) else none))) else none))) else none))) else none))))) else none))) else none))
def c_X10_changesOf_L61 (F : Nat) (a25 : Nat) (x26 : Int32) (x27 : Int32) (x28 : Int32) (k85 : z_Hp → Option (Int32 × z_Hp)) : Nat → Int32 → z_Hp → Option (Int32 × z_Hp)
  | 0, _, _ => none
  | n + 1, x29, h30 => (if hT h30 a25 = 10 then (if (hI h30 a25 14) < x29 then (k85 h30) else (if hT h30 a25 = 10 then (lt_ (hR h30 a25 47) (fun o32 => (nn o32 (fun a33 => (if okA h30 a33 20 x29 = true then (lt_ (sI h30 a33 (ix x29) x29) (fun h34 => (lt_ (x29 + 1) (fun x35 => (c_X10_changesOf_L61 F a25 x26 x27 x28 k85 n x35 h34))))) else none))))) else none)) else none)
def c_X10_changesOf_L97 (F : Nat) (a45 : Nat) (x46 : Int32) (x47 : Int32) (x48 : Int32) (x49 : Int32) (k126 : z_Hp → Option (Int32 × z_Hp)) : Nat → Int32 → z_Hp → Option (Int32 × z_Hp)
  | 0, _, _ => none
  | n + 1, x50, h51 => (if hT h51 a45 = 10 then (if (hI h51 a45 14) < x50 then (k126 h51) else (if hT h51 a45 = 10 then (lt_ (hR h51 a45 48) (fun o53 => (if hT h51 a45 = 10 then (lt_ (hR h51 a45 47) (fun o54 => (nn o54 (fun a55 => (if okA h51 a55 20 x50 = true then (nn o53 (fun a56 => (if okA h51 a56 20 x50 = true then (lt_ (sI h51 a56 (ix x50) (hI h51 a55 (ix x50))) (fun h57 => (lt_ (x50 + 1) (fun x58 => (c_X10_changesOf_L97 F a45 x46 x47 x48 x49 k126 n x58 h57))))) else none))) else none))))) else none))) else none)) else none)
def c_X10_changesOf_L139 (F : Nat) (a63 : Nat) (x64 : Int32) (x65 : Int32) (x66 : Int32) (x67 : Int32) (k253 : z_Hp → Option (Int32 × z_Hp)) : Nat → Int32 → z_Hp → Option (Int32 × z_Hp)
  | 0, _, _ => none
  | n + 1, x68, h69 => (if hT h69 a63 = 10 then (if (hI h69 a63 14) ≤ x68 then (k253 h69) else (if hT h69 a63 = 10 then (lt_ (hR h69 a63 48) (fun o71 => (nn o71 (fun a72 => (if okA h69 a72 20 x68 = true then (if hT h69 a63 = 10 then (bI (c_X10_areAlike F a63 x64 x67 x65 x68 h69) (fun x74 h73 => (lt_ (fun (x76 : Int32) (h77 : z_Hp) => (lt_ ((hI h69 a72 (ix x68)) + x76) (fun x78 => (if hT h77 a63 = 10 then (lt_ (hR h77 a63 48) (fun o79 => (nn o79 (fun a80 => (if okA h77 a80 20 (x68 + 1) = true then (lt_ (fun (x82 : Int32) (h83 : z_Hp) => (if hT h83 a63 = 10 then (lt_ (hR h83 a63 47) (fun o84 => (if hT h83 a63 = 10 then (lt_ (hR h83 a63 47) (fun o85 => (nn o85 (fun a86 => (if okA h83 a86 20 x68 = true then (lt_ (fun (x88 : Int32) (h89 : z_Hp) => (nn o84 (fun a90 => (if okA h89 a90 20 (x68 + 1) = true then (lt_ (sI h89 a90 (ix (x68 + 1)) x88) (fun h91 => (lt_ (x68 + 1) (fun x92 => (c_X10_changesOf_L139 F a63 x64 x65 x66 x67 k253 n x92 h91))))) else none)))) (fun (j246_87 : Int32 → z_Hp → Option (Int32 × z_Hp)) => (if x82 ≤ ((hI h83 a86 (ix x68)) + 1) then (j246_87 x82 h83) else (if hT h83 a63 = 10 then (lt_ (hR h83 a63 47) (fun o93 => (nn o93 (fun a94 => (if okA h83 a94 20 x68 = true then (j246_87 ((hI h83 a94 (ix x68)) + 1) h83) else none))))) else none)))) else none))))) else none))) else none)) (fun (j208_81 : Int32 → z_Hp → Option (Int32 × z_Hp)) => (if x78 ≤ ((hI h77 a80 (ix (x68 + 1))) + 1) then (j208_81 x78 h77) else (if hT h77 a63 = 10 then (lt_ (hR h77 a63 48) (fun o95 => (nn o95 (fun a96 => (if okA h77 a96 20 (x68 + 1) = true then (j208_81 ((hI h77 a96 (ix (x68 + 1))) + 1) h77) else none))))) else none)))) else none))))) else none)))) (fun (j173_75 : Int32 → z_Hp → Option (Int32 × z_Hp)) => (if x74 = 0 then (j173_75 1 h73) else (j173_75 0 h73)))))) else none) else none))))) else none)) else none)
def c_X10_changesOf_L88 (F : Nat) (a37 : Nat) (x38 : Int32) (x39 : Int32) (x40 : Int32) : Nat → Int32 → z_Hp → Option (Int32 × z_Hp)
  | 0, _, _ => none
  | n + 1, x41, h42 => (if x40 ≤ x41 then (if hT h42 a37 = 10 then (lt_ (hR h42 a37 47) (fun o43 => (if hT h42 a37 = 10 then (nn o43 (fun a44 => (if okA h42 a44 20 (hI h42 a37 14) = true then (some (hI h42 a44 (ix (hI h42 a37 14)), h42)) else none))) else none))) else none) else (c_X10_changesOf_L97 F a37 x38 x39 x40 x41 (fun h59 => (if hT h59 a37 = 10 then (lt_ (hR h59 a37 47) (fun o60 => (nn o60 (fun a61 => (if okA h59 a61 20 0 = true then (lt_ (sI h59 a61 (ix 0) (x41 + 1)) (fun h62 => (c_X10_changesOf_L139 F a37 x38 x39 x40 x41 (fun h97 => (lt_ (x41 + 1) (fun x98 => (c_X10_changesOf_L88 F a37 x38 x39 x40 n x98 h97)))) F 0 h62))) else none))))) else none)) F 0 h42))
def c_X10_changesOf (F : Nat) (a0 : Nat) (x1 : Int32) (x2 : Int32) (h0 : z_Hp) : Option (Int32 × z_Hp) := (if hT h0 a0 = 10 then (bV (c_X10_setWords F a0 x1 h0) (fun h3 => (if hT h3 a0 = 10 then (lt_ (hI h3 a0 14) (fun x4 => (c_X10_changesOf_L13 F a0 x1 x2 x4 (fun h23 => (if hT h23 a0 = 10 then (bV (c_X10_setWords F a0 x2 h23) (fun h24 => (c_X10_changesOf_L61 F a0 x1 x2 x4 (fun h36 => (c_X10_changesOf_L88 F a0 x1 x2 x4 F 0 h36)) F 0 h24))) else none)) F 0 h3))) else none))) else none)
set_option maxRecDepth 20000 in
set_option maxHeartbeats 4000000 in
theorem g_X10_changesOf_L13 (F : Nat) (a5 : Nat) (x6 : Int32) (x7 : Int32) (x8 : Int32) (k53 : z_Hp → Option (Int32 × z_Hp)) (qk53 : ∀ (h11 : z_Hp), z_G zi mi_X10_changesOf 53 [(0, vr (some a5)), (1, vi x6), (2, vi x7), (3, vi x8)] [] h11 (k53 h11)) : ∀ (n : Nat) (x9 : Int32) (h10 : z_Hp), z_G zi mi_X10_changesOf 13 [(0, vr (some a5)), (1, vi x6), (2, vi x7), (3, vi x8), (4, vi x9)] [] h10 (c_X10_changesOf_L13 F a5 x6 x7 x8 k53 n x9 h10) := by
  intro n
  induction n with
  | zero => intro x9 h10; rw [c_X10_changesOf_L13]; exact z_none
  | succ n ih =>
    intro x9 h10
    rw [c_X10_changesOf_L13]
    refine z_iload (pc := 13) dX10_changesOf_13 4 rfl (z_iload_n (pc := 15) dX10_changesOf_15 rfl 3 rfl (?_))
    refine z_icmp_ge (pc := 16) (tgt := 53) dX10_changesOf_16 (by decide) ?_ ?_
    · exact z_sub [0, 1, 2, 3] rfl (qk53 h10)
    · refine z_aload_n (pc := 19) dX10_changesOf_19 rfl 0 rfl (z_getRl (pc := 20) fl_RX10_120 rfl dX10_changesOf_20 (fun o12 => (z_iload (pc := 23) dX10_changesOf_23 4 rfl (z_aload_n (pc := 25) dX10_changesOf_25 rfl 0 rfl (z_getRl (pc := 26) fl_RX10_38 rfl dX10_changesOf_26 (fun o13 => (z_iload (pc := 29) dX10_changesOf_29 4 rfl (?_))))))))
      refine z_nn (fun a14 ea14 => ?_)
      subst ea14
      refine z_iaload (pc := 31) dX10_changesOf_31 (?_)
      refine z_nn (fun a15 ea15 => ?_)
      subst ea15
      refine z_iastorel (pc := 32) dX10_changesOf_32 (fun h16 => (z_aload_n (pc := 33) dX10_changesOf_33 rfl 0 rfl (z_getRl (pc := 34) fl_RX10_123 rfl dX10_changesOf_34 (fun o17 => (z_iload (pc := 37) dX10_changesOf_37 4 rfl (z_aload_n (pc := 39) dX10_changesOf_39 rfl 0 rfl (z_getRl (pc := 40) fl_RX10_41 rfl dX10_changesOf_40 (fun o18 => (z_iload (pc := 43) dX10_changesOf_43 4 rfl (?_))))))))))
      refine z_nn (fun a19 ea19 => ?_)
      subst ea19
      refine z_iaload (pc := 45) dX10_changesOf_45 (?_)
      refine z_nn (fun a20 ea20 => ?_)
      subst ea20
      refine z_iastorel (pc := 46) dX10_changesOf_46 (fun h21 => (z_iincl (pc := 47) (L' := fun x22 => [(0, vr (some a5)), (1, vi x6), (2, vi x7), (3, vi x8), (4, vi x22)]) dX10_changesOf_47 4 rfl ic_1 (Nat.le_of_ble_eq_true rfl) (fun _ => rfl) (fun x22 => (z_goto (pc := 50) (tgt := 13) dX10_changesOf_50 (by decide) (?_)))))
      exact ih x22 h21
set_option maxRecDepth 20000 in
set_option maxHeartbeats 4000000 in
theorem g_X10_changesOf_L61 (F : Nat) (a25 : Nat) (x26 : Int32) (x27 : Int32) (x28 : Int32) (k85 : z_Hp → Option (Int32 × z_Hp)) (qk85 : ∀ (h31 : z_Hp), z_G zi mi_X10_changesOf 85 [(0, vr (some a25)), (1, vi x26), (2, vi x27), (3, vi x28)] [] h31 (k85 h31)) : ∀ (n : Nat) (x29 : Int32) (h30 : z_Hp), z_G zi mi_X10_changesOf 61 [(0, vr (some a25)), (1, vi x26), (2, vi x27), (3, vi x28), (4, vi x29)] [] h30 (c_X10_changesOf_L61 F a25 x26 x27 x28 k85 n x29 h30) := by
  intro n
  induction n with
  | zero => intro x29 h30; rw [c_X10_changesOf_L61]; exact z_none
  | succ n ih =>
    intro x29 h30
    rw [c_X10_changesOf_L61]
    refine z_iload (pc := 61) dX10_changesOf_61 4 rfl (z_aload_n (pc := 63) dX10_changesOf_63 rfl 0 rfl (z_getI (pc := 64) fl_RX10_200 rfl dX10_changesOf_64 (?_)))
    refine z_icmp_gt (pc := 67) (tgt := 85) dX10_changesOf_67 (by decide) ?_ ?_
    · exact z_sub [0, 1, 2, 3] rfl (qk85 h30)
    · refine z_aload_n (pc := 70) dX10_changesOf_70 rfl 0 rfl (z_getRl (pc := 71) fl_RX10_126 rfl dX10_changesOf_71 (fun o32 => (z_iload (pc := 74) dX10_changesOf_74 4 rfl (z_iload (pc := 76) dX10_changesOf_76 4 rfl (?_)))))
      refine z_nn (fun a33 ea33 => ?_)
      subst ea33
      refine z_iastorel (pc := 78) dX10_changesOf_78 (fun h34 => (z_iincl (pc := 79) (L' := fun x35 => [(0, vr (some a25)), (1, vi x26), (2, vi x27), (3, vi x28), (4, vi x35)]) dX10_changesOf_79 4 rfl ic_1 (Nat.le_of_ble_eq_true rfl) (fun _ => rfl) (fun x35 => (z_goto (pc := 82) (tgt := 61) dX10_changesOf_82 (by decide) (?_)))))
      exact ih x35 h34
set_option maxRecDepth 20000 in
set_option maxHeartbeats 4000000 in
theorem g_X10_changesOf_L97 (F : Nat) (a45 : Nat) (x46 : Int32) (x47 : Int32) (x48 : Int32) (x49 : Int32) (k126 : z_Hp → Option (Int32 × z_Hp)) (qk126 : ∀ (h52 : z_Hp), z_G zi mi_X10_changesOf 126 [(0, vr (some a45)), (1, vi x46), (2, vi x47), (3, vi x48), (4, vi x49)] [] h52 (k126 h52)) : ∀ (n : Nat) (x50 : Int32) (h51 : z_Hp), z_G zi mi_X10_changesOf 97 [(0, vr (some a45)), (1, vi x46), (2, vi x47), (3, vi x48), (4, vi x49), (5, vi x50)] [] h51 (c_X10_changesOf_L97 F a45 x46 x47 x48 x49 k126 n x50 h51) := by
  intro n
  induction n with
  | zero => intro x50 h51; rw [c_X10_changesOf_L97]; exact z_none
  | succ n ih =>
    intro x50 h51
    rw [c_X10_changesOf_L97]
    refine z_iload (pc := 97) dX10_changesOf_97 5 rfl (z_aload_n (pc := 99) dX10_changesOf_99 rfl 0 rfl (z_getI (pc := 100) fl_RX10_200 rfl dX10_changesOf_100 (?_)))
    refine z_icmp_gt (pc := 103) (tgt := 126) dX10_changesOf_103 (by decide) ?_ ?_
    · exact z_sub [0, 1, 2, 3, 4] rfl (qk126 h51)
    · refine z_aload_n (pc := 106) dX10_changesOf_106 rfl 0 rfl (z_getRl (pc := 107) fl_RX10_129 rfl dX10_changesOf_107 (fun o53 => (z_iload (pc := 110) dX10_changesOf_110 5 rfl (z_aload_n (pc := 112) dX10_changesOf_112 rfl 0 rfl (z_getRl (pc := 113) fl_RX10_126 rfl dX10_changesOf_113 (fun o54 => (z_iload (pc := 116) dX10_changesOf_116 5 rfl (?_))))))))
      refine z_nn (fun a55 ea55 => ?_)
      subst ea55
      refine z_iaload (pc := 118) dX10_changesOf_118 (?_)
      refine z_nn (fun a56 ea56 => ?_)
      subst ea56
      refine z_iastorel (pc := 119) dX10_changesOf_119 (fun h57 => (z_iincl (pc := 120) (L' := fun x58 => [(0, vr (some a45)), (1, vi x46), (2, vi x47), (3, vi x48), (4, vi x49), (5, vi x58)]) dX10_changesOf_120 5 rfl ic_1 (Nat.le_of_ble_eq_true rfl) (fun _ => rfl) (fun x58 => (z_goto (pc := 123) (tgt := 97) dX10_changesOf_123 (by decide) (?_)))))
      exact ih x58 h57
set_option maxRecDepth 20000 in
set_option maxHeartbeats 4000000 in
theorem g_X10_changesOf_L139 (F : Nat) (a63 : Nat) (x64 : Int32) (x65 : Int32) (x66 : Int32) (x67 : Int32) (k253 : z_Hp → Option (Int32 × z_Hp)) (qk253 : ∀ (h70 : z_Hp), z_G zi mi_X10_changesOf 253 [(0, vr (some a63)), (1, vi x64), (2, vi x65), (3, vi x66), (4, vi x67)] [] h70 (k253 h70)) : ∀ (n : Nat) (x68 : Int32) (h69 : z_Hp), z_G zi mi_X10_changesOf 139 [(0, vr (some a63)), (1, vi x64), (2, vi x65), (3, vi x66), (4, vi x67), (5, vi x68)] [] h69 (c_X10_changesOf_L139 F a63 x64 x65 x66 x67 k253 n x68 h69) := by
  intro n
  induction n with
  | zero => intro x68 h69; rw [c_X10_changesOf_L139]; exact z_none
  | succ n ih =>
    intro x68 h69
    rw [c_X10_changesOf_L139]
    refine z_iload (pc := 139) dX10_changesOf_139 5 rfl (z_aload_n (pc := 141) dX10_changesOf_141 rfl 0 rfl (z_getI (pc := 142) fl_RX10_200 rfl dX10_changesOf_142 (?_)))
    refine z_icmp_ge (pc := 145) (tgt := 253) dX10_changesOf_145 (by decide) ?_ ?_
    · exact z_sub [0, 1, 2, 3, 4] rfl (qk253 h69)
    · refine z_aload_n (pc := 148) dX10_changesOf_148 rfl 0 rfl (z_getRl (pc := 149) fl_RX10_129 rfl dX10_changesOf_149 (fun o71 => (z_iload (pc := 152) dX10_changesOf_152 5 rfl (?_))))
      refine z_nn (fun a72 ea72 => ?_)
      subst ea72
      refine z_iaload (pc := 154) dX10_changesOf_154 (z_aload_n (pc := 155) dX10_changesOf_155 rfl 0 rfl (z_iload_n (pc := 156) dX10_changesOf_156 rfl 1 rfl (z_iload (pc := 157) dX10_changesOf_157 4 rfl (z_iload_n (pc := 159) dX10_changesOf_159 rfl 2 rfl (z_iload (pc := 160) dX10_changesOf_160 5 rfl (z_callV_I (pc := 162) (avs := [vi x64, vi x67, vi x65, vi x68]) (st := [vi (hI h69 a72 (ix x68))]) rfl (q := (RX10, TX10, 62)) rfl rfl (t_X10_areAlike F a63 x64 x67 x65 x68 h69) ky_X10_areAlike wm_X10_areAlike we_X10_areAlike wz_RX10_328 (rm_X10_changesOf_X10_areAlike) (Nat.le_of_ble_eq_true rfl) dX10_changesOf_162 (fun x74 h73 => (?_))))))))
      refine z_jn (P := fun (j : Int32 → z_Hp → Option (Int32 × z_Hp)) => ∀ (x76 : Int32) (h77 : z_Hp), z_G zi mi_X10_changesOf 173 [(0, vr (some a63)), (1, vi x64), (2, vi x65), (3, vi x66), (4, vi x67), (5, vi x68)] [vi x76, vi (hI h69 a72 (ix x68))] h77 (j x76 h77)) (fun x76 h77 => ?_) (fun j173_75 qj173_75 => ?_)
      · refine z_iadd (pc := 173) dX10_changesOf_173 (z_istorel (pc := 174) (L' := fun x78 => [(0, vr (some a63)), (1, vi x64), (2, vi x65), (3, vi x66), (4, vi x67), (5, vi x68), (6, vi x78)]) dX10_changesOf_174 (Nat.le_of_ble_eq_true rfl) (fun _ => rfl) (fun x78 => (z_aload_n (pc := 176) dX10_changesOf_176 rfl 0 rfl (z_getRl (pc := 177) fl_RX10_129 rfl dX10_changesOf_177 (fun o79 => (z_iload (pc := 180) dX10_changesOf_180 5 rfl (z_iconst (pc := 182) dX10_changesOf_182 ic_1 (z_iadd (pc := 183) dX10_changesOf_183 (?_)))))))))
        refine z_nn (fun a80 ea80 => ?_)
        subst ea80
        refine z_iaload (pc := 184) dX10_changesOf_184 (z_iconst (pc := 185) dX10_changesOf_185 ic_1 (z_iadd (pc := 186) dX10_changesOf_186 (z_iload (pc := 187) dX10_changesOf_187 6 rfl (?_))))
        refine z_jn (P := fun (j : Int32 → z_Hp → Option (Int32 × z_Hp)) => ∀ (x82 : Int32) (h83 : z_Hp), z_G zi mi_X10_changesOf 208 [(0, vr (some a63)), (1, vi x64), (2, vi x65), (3, vi x66), (4, vi x67), (5, vi x68)] [vi x82] h83 (j x82 h83)) (fun x82 h83 => ?_) (fun j208_81 qj208_81 => ?_)
        · refine z_istore (pc := 208) (L' := [(0, vr (some a63)), (1, vi x64), (2, vi x65), (3, vi x66), (4, vi x67), (5, vi x68), (6, vi x82)]) dX10_changesOf_208 (Nat.le_of_ble_eq_true rfl) rfl (z_aload_n (pc := 210) dX10_changesOf_210 rfl 0 rfl (z_getRl (pc := 211) fl_RX10_126 rfl dX10_changesOf_211 (fun o84 => (z_iload (pc := 214) dX10_changesOf_214 5 rfl (z_iconst (pc := 216) dX10_changesOf_216 ic_1 (z_iadd (pc := 217) dX10_changesOf_217 (z_aload_n (pc := 218) dX10_changesOf_218 rfl 0 rfl (z_getRl (pc := 219) fl_RX10_126 rfl dX10_changesOf_219 (fun o85 => (?_))))))))))
          refine z_iload (pc := 222) dX10_changesOf_222 5 rfl (?_)
          refine z_nn (fun a86 ea86 => ?_)
          subst ea86
          refine z_iaload (pc := 224) dX10_changesOf_224 (z_iconst (pc := 225) dX10_changesOf_225 ic_1 (z_iadd (pc := 226) dX10_changesOf_226 (z_iload (pc := 227) dX10_changesOf_227 6 rfl (?_))))
          refine z_jn (P := fun (j : Int32 → z_Hp → Option (Int32 × z_Hp)) => ∀ (x88 : Int32) (h89 : z_Hp), z_G zi mi_X10_changesOf 246 [(0, vr (some a63)), (1, vi x64), (2, vi x65), (3, vi x66), (4, vi x67), (5, vi x68)] [vi x88, vi (x68 + 1), vr o84] h89 (j x88 h89)) (fun x88 h89 => ?_) (fun j246_87 qj246_87 => ?_)
          · refine z_nn (fun a90 ea90 => ?_)
            subst ea90
            refine z_iastorel (pc := 246) dX10_changesOf_246 (fun h91 => (z_iincl (pc := 247) (L' := fun x92 => [(0, vr (some a63)), (1, vi x64), (2, vi x65), (3, vi x66), (4, vi x67), (5, vi x92)]) dX10_changesOf_247 5 rfl ic_1 (Nat.le_of_ble_eq_true rfl) (fun _ => rfl) (fun x92 => (z_goto (pc := 250) (tgt := 139) dX10_changesOf_250 (by decide) (?_)))))
            exact ih x92 h91
          refine z_icmp_ge (pc := 229) (tgt := 244) dX10_changesOf_229 (by decide) ?_ ?_
          · refine z_iload (pc := 244) dX10_changesOf_244 6 rfl (?_)
            exact z_sub [0, 1, 2, 3, 4, 5] rfl (qj246_87 x82 h83)
          · refine z_aload_n (pc := 232) dX10_changesOf_232 rfl 0 rfl (z_getRl (pc := 233) fl_RX10_126 rfl dX10_changesOf_233 (fun o93 => (z_iload (pc := 236) dX10_changesOf_236 5 rfl (?_))))
            refine z_nn (fun a94 ea94 => ?_)
            subst ea94
            refine z_iaload (pc := 238) dX10_changesOf_238 (z_iconst (pc := 239) dX10_changesOf_239 ic_1 (z_iadd (pc := 240) dX10_changesOf_240 (z_goto (pc := 241) (tgt := 246) dX10_changesOf_241 (by decide) (?_))))
            exact z_sub [0, 1, 2, 3, 4, 5] rfl (qj246_87 ((hI h83 a94 (ix x68)) + 1) h83)
        refine z_icmp_ge (pc := 189) (tgt := 206) dX10_changesOf_189 (by decide) ?_ ?_
        · refine z_iload (pc := 206) dX10_changesOf_206 6 rfl (?_)
          exact z_sub [0, 1, 2, 3, 4, 5] rfl (qj208_81 x78 h77)
        · refine z_aload_n (pc := 192) dX10_changesOf_192 rfl 0 rfl (z_getRl (pc := 193) fl_RX10_129 rfl dX10_changesOf_193 (fun o95 => (z_iload (pc := 196) dX10_changesOf_196 5 rfl (z_iconst (pc := 198) dX10_changesOf_198 ic_1 (z_iadd (pc := 199) dX10_changesOf_199 (?_))))))
          refine z_nn (fun a96 ea96 => ?_)
          subst ea96
          refine z_iaload (pc := 200) dX10_changesOf_200 (z_iconst (pc := 201) dX10_changesOf_201 ic_1 (z_iadd (pc := 202) dX10_changesOf_202 (z_goto (pc := 203) (tgt := 208) dX10_changesOf_203 (by decide) (?_))))
          exact z_sub [0, 1, 2, 3, 4, 5] rfl (qj208_81 ((hI h77 a96 (ix (x68 + 1))) + 1) h77)
      refine z_if_eq (pc := 165) (tgt := 172) dX10_changesOf_165 (by decide) ?_ ?_
      · refine z_iconst (pc := 172) dX10_changesOf_172 ic_1 (?_)
        exact qj173_75 1 h73
      · refine z_iconst (pc := 168) dX10_changesOf_168 ic_0 (z_goto (pc := 169) (tgt := 173) dX10_changesOf_169 (by decide) (?_))
        exact qj173_75 0 h73
set_option maxRecDepth 20000 in
set_option maxHeartbeats 4000000 in
theorem g_X10_changesOf_L88 (F : Nat) (a37 : Nat) (x38 : Int32) (x39 : Int32) (x40 : Int32) : ∀ (n : Nat) (x41 : Int32) (h42 : z_Hp), z_G zi mi_X10_changesOf 88 [(0, vr (some a37)), (1, vi x38), (2, vi x39), (3, vi x40), (4, vi x41)] [] h42 (c_X10_changesOf_L88 F a37 x38 x39 x40 n x41 h42) := by
  intro n
  induction n with
  | zero => intro x41 h42; rw [c_X10_changesOf_L88]; exact z_none
  | succ n ih =>
    intro x41 h42
    rw [c_X10_changesOf_L88]
    refine z_iload (pc := 88) dX10_changesOf_88 4 rfl (z_iload_n (pc := 90) dX10_changesOf_90 rfl 3 rfl (?_))
    refine z_icmp_ge (pc := 91) (tgt := 259) dX10_changesOf_91 (by decide) ?_ ?_
    · refine z_aload_n (pc := 259) dX10_changesOf_259 rfl 0 rfl (z_getRl (pc := 260) fl_RX10_126 rfl dX10_changesOf_260 (fun o43 => (z_aload_n (pc := 263) dX10_changesOf_263 rfl 0 rfl (z_getI (pc := 264) fl_RX10_200 rfl dX10_changesOf_264 (?_)))))
      refine z_nn (fun a44 ea44 => ?_)
      subst ea44
      refine z_iaload (pc := 267) dX10_changesOf_267 (?_)
      exact z_iret (pc := 268) dX10_changesOf_268 rfl rfl
    · refine z_iconst (pc := 94) dX10_changesOf_94 ic_0 (z_istore (pc := 95) (L' := [(0, vr (some a37)), (1, vi x38), (2, vi x39), (3, vi x40), (4, vi x41), (5, vi 0)]) dX10_changesOf_95 (Nat.le_of_ble_eq_true rfl) rfl (?_))
      refine g_X10_changesOf_L97 F a37 x38 x39 x40 x41 _ (fun h59 => ?_) F 0 h42
      refine z_aload_n (pc := 126) dX10_changesOf_126 rfl 0 rfl (z_getRl (pc := 127) fl_RX10_126 rfl dX10_changesOf_127 (fun o60 => (z_iconst (pc := 130) dX10_changesOf_130 ic_0 (z_iload (pc := 131) dX10_changesOf_131 4 rfl (z_iconst (pc := 133) dX10_changesOf_133 ic_1 (z_iadd (pc := 134) dX10_changesOf_134 (?_)))))))
      refine z_nn (fun a61 ea61 => ?_)
      subst ea61
      refine z_iastorel (pc := 135) dX10_changesOf_135 (fun h62 => (z_iconst (pc := 136) dX10_changesOf_136 ic_0 (z_istore (pc := 137) (L' := [(0, vr (some a37)), (1, vi x38), (2, vi x39), (3, vi x40), (4, vi x41), (5, vi 0)]) dX10_changesOf_137 (Nat.le_of_ble_eq_true rfl) rfl (?_))))
      refine g_X10_changesOf_L139 F a37 x38 x39 x40 x41 _ (fun h97 => ?_) F 0 h62
      refine z_iincl (pc := 253) (L' := fun x98 => [(0, vr (some a37)), (1, vi x38), (2, vi x39), (3, vi x40), (4, vi x98)]) dX10_changesOf_253 4 rfl ic_1 (Nat.le_of_ble_eq_true rfl) (fun _ => rfl) (fun x98 => (z_goto (pc := 256) (tgt := 88) dX10_changesOf_256 (by decide) (?_)))
      exact ih x98 h97
set_option maxRecDepth 20000 in
set_option maxHeartbeats 4000000 in
theorem t_X10_changesOf (F : Nat) (a0 : Nat) (x1 : Int32) (x2 : Int32) (h0 : z_Hp) : z_Ct zi mi_X10_changesOf [vr (some a0), vi x1, vi x2] h0 (c_X10_changesOf F a0 x1 x2 h0) := by
  refine z_entry (by decide) (Nat.le_of_ble_eq_true rfl) [(0, vr (some a0)), (1, vi x1), (2, vi x2)] rfl ?_
  unfold c_X10_changesOf
  refine z_aload_n (pc := 0) dX10_changesOf_0 rfl 0 rfl (z_iload_n (pc := 1) dX10_changesOf_1 rfl 1 rfl (z_callV_V (pc := 2) (avs := [vi x1]) (st := []) rfl (q := (RX10, TX10, 62)) rfl rfl (t_X10_setWords F a0 x1 h0) ky_X10_setWords wm_X10_setWords we_X10_setWords wz_RX10_203 (rm_X10_changesOf_X10_setWords) (Nat.le_of_ble_eq_true rfl) dX10_changesOf_2 (fun h3 => (?_))))
  refine z_aload_n (pc := 5) dX10_changesOf_5 rfl 0 rfl (z_getI (pc := 6) fl_RX10_200 rfl dX10_changesOf_6 (z_istorel_n (pc := 9) (L' := fun x4 => [(0, vr (some a0)), (1, vi x1), (2, vi x2), (3, vi x4)]) dX10_changesOf_9 rfl (Nat.le_of_ble_eq_true rfl) (fun _ => rfl) (fun x4 => (z_iconst (pc := 10) dX10_changesOf_10 ic_0 (z_istore (pc := 11) (L' := [(0, vr (some a0)), (1, vi x1), (2, vi x2), (3, vi x4), (4, vi 0)]) dX10_changesOf_11 (Nat.le_of_ble_eq_true rfl) rfl (?_))))))
  refine g_X10_changesOf_L13 F a0 x1 x2 x4 _ (fun h23 => ?_) F 0 h3
  refine z_aload_n (pc := 53) dX10_changesOf_53 rfl 0 rfl (z_iload_n (pc := 54) dX10_changesOf_54 rfl 2 rfl (z_callV_V (pc := 55) (avs := [vi x2]) (st := []) rfl (q := (RX10, TX10, 62)) rfl rfl (t_X10_setWords F a0 x2 h23) ky_X10_setWords wm_X10_setWords we_X10_setWords wz_RX10_203 (rm_X10_changesOf_X10_setWords) (Nat.le_of_ble_eq_true rfl) dX10_changesOf_55 (fun h24 => (?_))))
  refine z_iconst (pc := 58) dX10_changesOf_58 ic_0 (z_istore (pc := 59) (L' := [(0, vr (some a0)), (1, vi x1), (2, vi x2), (3, vi x4), (4, vi 0)]) dX10_changesOf_59 (Nat.le_of_ble_eq_true rfl) rfl (?_))
  refine g_X10_changesOf_L61 F a0 x1 x2 x4 _ (fun h36 => ?_) F 0 h24
  refine z_iconst (pc := 85) dX10_changesOf_85 ic_0 (z_istore (pc := 86) (L' := [(0, vr (some a0)), (1, vi x1), (2, vi x2), (3, vi x4), (4, vi 0)]) dX10_changesOf_86 (Nat.le_of_ble_eq_true rfl) rfl (?_))
  refine g_X10_changesOf_L88 F a0 x1 x2 x4 F 0 h36
theorem dX10_changes_0 : decode cX10_changes 0 = .ok (.iload_n 1, 1) := by decide +kernel
theorem dX10_changes_1 : decode cX10_changes 1 = .ok (.invokestatic 194, 3) := by decide +kernel
theorem dX10_changes_4 : decode cX10_changes 4 = .ok (.ifCond .eq 10, 3) := by decide +kernel
theorem dX10_changes_7 : decode cX10_changes 7 = .ok (.iload_n 2, 1) := by decide +kernel
theorem dX10_changes_8 : decode cX10_changes 8 = .ok (.invokestatic 194, 3) := by decide +kernel
theorem dX10_changes_11 : decode cX10_changes 11 = .ok (.ifCond .ne 5, 3) := by decide +kernel
theorem dX10_changes_14 : decode cX10_changes 14 = .ok (.iconst (-1), 1) := by decide +kernel
theorem dX10_changes_15 : decode cX10_changes 15 = .ok (.ireturn, 1) := by decide +kernel
theorem dX10_changes_16 : decode cX10_changes 16 = .ok (.aload_n 0, 1) := by decide +kernel
theorem dX10_changes_17 : decode cX10_changes 17 = .ok (.getfield 32, 3) := by decide +kernel
theorem dX10_changes_20 : decode cX10_changes 20 = .ok (.iload_n 1, 1) := by decide +kernel
theorem dX10_changes_21 : decode cX10_changes 21 = .ok (.iaload, 1) := by decide +kernel
theorem dX10_changes_22 : decode cX10_changes 22 = .ok (.ifCond .lt 12, 3) := by decide +kernel
theorem dX10_changes_25 : decode cX10_changes 25 = .ok (.aload_n 0, 1) := by decide +kernel
theorem dX10_changes_26 : decode cX10_changes 26 = .ok (.getfield 32, 3) := by decide +kernel
theorem dX10_changes_29 : decode cX10_changes 29 = .ok (.iload_n 2, 1) := by decide +kernel
theorem dX10_changes_30 : decode cX10_changes 30 = .ok (.iaload, 1) := by decide +kernel
theorem dX10_changes_31 : decode cX10_changes 31 = .ok (.ifCond .ge 11, 3) := by decide +kernel
theorem dX10_changes_34 : decode cX10_changes 34 = .ok (.aload_n 0, 1) := by decide +kernel
theorem dX10_changes_35 : decode cX10_changes 35 = .ok (.iconst 1, 1) := by decide +kernel
theorem dX10_changes_36 : decode cX10_changes 36 = .ok (.invokevirtual 174, 3) := by decide +kernel
theorem dX10_changes_39 : decode cX10_changes 39 = .ok (.goto 9, 3) := by decide +kernel
theorem dX10_changes_42 : decode cX10_changes 42 = .ok (.aload_n 0, 1) := by decide +kernel
theorem dX10_changes_43 : decode cX10_changes 43 = .ok (.iload_n 1, 1) := by decide +kernel
theorem dX10_changes_44 : decode cX10_changes 44 = .ok (.iload_n 2, 1) := by decide +kernel
theorem dX10_changes_45 : decode cX10_changes 45 = .ok (.invokevirtual 332, 3) := by decide +kernel
theorem dX10_changes_48 : decode cX10_changes 48 = .ok (.ireturn, 1) := by decide +kernel
def c_X10_changes (F : Nat) (a0 : Nat) (x1 : Int32) (x2 : Int32) (h0 : z_Hp) : Option (Int32 × z_Hp) := (bI (c_X10_isSong F x1 h0) (fun x4 h3 => (if x4 = 0 then (some ((-1), h3)) else (bI (c_X10_isSong F x2 h3) (fun x6 h5 => (if x6 = 0 then (some ((-1), h5)) else (if hT h5 a0 = 10 then (lt_ (hR h5 a0 12) (fun o7 => (nn o7 (fun a8 => (if okA h5 a8 20 x1 = true then (lt_ (fun (h10 : z_Hp) => (if hT h10 a0 = 10 then (bI (c_X10_meets F a0 1 h10) (fun x12 h11 => (some (x12, h11)))) else none)) (fun (j34_9 : z_Hp → Option (Int32 × z_Hp)) => (if (hI h5 a8 (ix x1)) < 0 then (j34_9 h5) else (if hT h5 a0 = 10 then (lt_ (hR h5 a0 12) (fun o13 => (nn o13 (fun a14 => (if okA h5 a14 20 x2 = true then (if 0 ≤ (hI h5 a14 (ix x2)) then (if hT h5 a0 = 10 then (bI (c_X10_changesOf F a0 x1 x2 h5) (fun x16 h15 => (some (x16, h15)))) else none) else (j34_9 h5)) else none))))) else none)))) else none))))) else none)))))))
set_option maxRecDepth 20000 in
set_option maxHeartbeats 4000000 in
theorem t_X10_changes (F : Nat) (a0 : Nat) (x1 : Int32) (x2 : Int32) (h0 : z_Hp) : z_Ct zi mi_X10_changes [vr (some a0), vi x1, vi x2] h0 (c_X10_changes F a0 x1 x2 h0) := by
  refine z_entry (by decide) (Nat.le_of_ble_eq_true rfl) [(0, vr (some a0)), (1, vi x1), (2, vi x2)] rfl ?_
  unfold c_X10_changes
  refine z_iload_n (pc := 0) dX10_changes_0 rfl 1 rfl (z_callS_I (pc := 1) (avs := [vi x1]) (st := []) rfl (t_X10_isSong F x1 h0) ky_X10_isSong ws_X10_isSong wz_RX10_194 (rm_X10_changes_X10_isSong) (Nat.le_of_ble_eq_true rfl) dX10_changes_1 (fun x4 h3 => (?_)))
  refine z_if_eq (pc := 4) (tgt := 14) dX10_changes_4 (by decide) ?_ ?_
  · refine z_iconst (pc := 14) dX10_changes_14 ic_m1 (?_)
    exact z_iret (pc := 15) dX10_changes_15 rfl rfl
  · refine z_iload_n (pc := 7) dX10_changes_7 rfl 2 rfl (z_callS_I (pc := 8) (avs := [vi x2]) (st := []) rfl (t_X10_isSong F x2 h3) ky_X10_isSong ws_X10_isSong wz_RX10_194 (rm_X10_changes_X10_isSong) (Nat.le_of_ble_eq_true rfl) dX10_changes_8 (fun x6 h5 => (?_)))
    refine z_if_ne (pc := 11) (tgt := 16) dX10_changes_11 (by decide) ?_ ?_
    · refine z_aload_n (pc := 16) dX10_changes_16 rfl 0 rfl (z_getRl (pc := 17) fl_RX10_32 rfl dX10_changes_17 (fun o7 => (z_iload_n (pc := 20) dX10_changes_20 rfl 1 rfl (?_))))
      refine z_nn (fun a8 ea8 => ?_)
      subst ea8
      refine z_iaload (pc := 21) dX10_changes_21 (?_)
      refine z_jn (P := fun (j : z_Hp → Option (Int32 × z_Hp)) => ∀ (h10 : z_Hp), z_G zi mi_X10_changes 34 [(0, vr (some a0))] [] h10 (j h10)) (fun h10 => ?_) (fun j34_9 qj34_9 => ?_)
      · refine z_aload_n (pc := 34) dX10_changes_34 rfl 0 rfl (z_iconst (pc := 35) dX10_changes_35 ic_1 (z_callV_I (pc := 36) (avs := [vi 1]) (st := []) rfl (q := (RX10, TX10, 62)) rfl rfl (t_X10_meets F a0 1 h10) ky_X10_meets wm_X10_meets we_X10_meets wz_RX10_174 (rm_X10_changes_X10_meets) (Nat.le_of_ble_eq_true rfl) dX10_changes_36 (fun x12 h11 => (?_))))
        refine z_goto (pc := 39) (tgt := 48) dX10_changes_39 (by decide) (?_)
        exact z_iret (pc := 48) dX10_changes_48 rfl rfl
      refine z_if_lt (pc := 22) (tgt := 34) dX10_changes_22 (by decide) ?_ ?_
      · exact z_sub [0] rfl (qj34_9 h5)
      · refine z_aload_n (pc := 25) dX10_changes_25 rfl 0 rfl (z_getRl (pc := 26) fl_RX10_32 rfl dX10_changes_26 (fun o13 => (z_iload_n (pc := 29) dX10_changes_29 rfl 2 rfl (?_))))
        refine z_nn (fun a14 ea14 => ?_)
        subst ea14
        refine z_iaload (pc := 30) dX10_changes_30 (?_)
        refine z_if_ge (pc := 31) (tgt := 42) dX10_changes_31 (by decide) ?_ ?_
        · refine z_aload_n (pc := 42) dX10_changes_42 rfl 0 rfl (z_iload_n (pc := 43) dX10_changes_43 rfl 1 rfl (z_iload_n (pc := 44) dX10_changes_44 rfl 2 rfl (z_callV_I (pc := 45) (avs := [vi x1, vi x2]) (st := []) rfl (q := (RX10, TX10, 62)) rfl rfl (t_X10_changesOf F a0 x1 x2 h5) ky_X10_changesOf wm_X10_changesOf we_X10_changesOf wz_RX10_332 (rm_X10_changes_X10_changesOf) (Nat.le_of_ble_eq_true rfl) dX10_changes_45 (fun x16 h15 => (?_)))))
          exact z_iret (pc := 48) dX10_changes_48 rfl rfl
        · exact z_sub [0] rfl (qj34_9 h5)
    · refine z_iconst (pc := 14) dX10_changes_14 ic_m1 (?_)
      exact z_iret (pc := 15) dX10_changes_15 rfl rfl
theorem dX10_askedSet_0 : decode cX10_askedSet 0 = .ok (.iload_n 1, 1) := by decide +kernel
theorem dX10_askedSet_1 : decode cX10_askedSet 1 = .ok (.iconst 1, 1) := by decide +kernel
theorem dX10_askedSet_2 : decode cX10_askedSet 2 = .ok (.iconst 1, 1) := by decide +kernel
theorem dX10_askedSet_3 : decode cX10_askedSet 3 = .ok (.aload_n 0, 1) := by decide +kernel
theorem dX10_askedSet_4 : decode cX10_askedSet 4 = .ok (.getfield 262, 3) := by decide +kernel
theorem dX10_askedSet_7 : decode cX10_askedSet 7 = .ok (.ishl, 1) := by decide +kernel
theorem dX10_askedSet_8 : decode cX10_askedSet 8 = .ok (.iconst 1, 1) := by decide +kernel
theorem dX10_askedSet_9 : decode cX10_askedSet 9 = .ok (.isub, 1) := by decide +kernel
theorem dX10_askedSet_10 : decode cX10_askedSet 10 = .ok (.invokestatic 166, 3) := by decide +kernel
theorem dX10_askedSet_13 : decode cX10_askedSet 13 = .ok (.ifCond .ne 7, 3) := by decide +kernel
theorem dX10_askedSet_16 : decode cX10_askedSet 16 = .ok (.iconst (-1), 1) := by decide +kernel
theorem dX10_askedSet_17 : decode cX10_askedSet 17 = .ok (.goto 18, 3) := by decide +kernel
theorem dX10_askedSet_20 : decode cX10_askedSet 20 = .ok (.iload_n 1, 1) := by decide +kernel
theorem dX10_askedSet_21 : decode cX10_askedSet 21 = .ok (.invokestatic 279, 3) := by decide +kernel
theorem dX10_askedSet_24 : decode cX10_askedSet 24 = .ok (.bipush 10, 2) := by decide +kernel
theorem dX10_askedSet_26 : decode cX10_askedSet 26 = .ok (.if_icmp .le 8, 3) := by decide +kernel
theorem dX10_askedSet_29 : decode cX10_askedSet 29 = .ok (.bipush (-6), 2) := by decide +kernel
theorem dX10_askedSet_31 : decode cX10_askedSet 31 = .ok (.goto 4, 3) := by decide +kernel
theorem dX10_askedSet_34 : decode cX10_askedSet 34 = .ok (.iconst 0, 1) := by decide +kernel
theorem dX10_askedSet_35 : decode cX10_askedSet 35 = .ok (.ireturn, 1) := by decide +kernel
def c_X10_askedSet (F : Nat) (a0 : Nat) (x1 : Int32) (h0 : z_Hp) : Option (Int32 × z_Hp) := (if hT h0 a0 = 10 then (bI (c_X10_in F x1 1 ((1 <<< ((hI h0 a0 26) &&& 31)) - 1) h0) (fun x3 h2 => (if x3 = 0 then (some ((-1), h2)) else (bI (c_X10_bits F x1 h2) (fun x5 h4 => (if x5 ≤ 10 then (some (0, h4)) else (some ((-6), h4)))))))) else none)
set_option maxRecDepth 20000 in
set_option maxHeartbeats 4000000 in
theorem t_X10_askedSet (F : Nat) (a0 : Nat) (x1 : Int32) (h0 : z_Hp) : z_Ct zi mi_X10_askedSet [vr (some a0), vi x1] h0 (c_X10_askedSet F a0 x1 h0) := by
  refine z_entry (by decide) (Nat.le_of_ble_eq_true rfl) [(0, vr (some a0)), (1, vi x1)] rfl ?_
  unfold c_X10_askedSet
  refine z_iload_n (pc := 0) dX10_askedSet_0 rfl 1 rfl (z_iconst (pc := 1) dX10_askedSet_1 ic_1 (z_iconst (pc := 2) dX10_askedSet_2 ic_1 (z_aload_n (pc := 3) dX10_askedSet_3 rfl 0 rfl (z_getI (pc := 4) fl_RX10_262 rfl dX10_askedSet_4 (z_ishl (pc := 7) dX10_askedSet_7 (z_iconst (pc := 8) dX10_askedSet_8 ic_1 (z_isub (pc := 9) dX10_askedSet_9 (?_))))))))
  refine z_callS_I (pc := 10) (avs := [vi x1, vi 1, vi ((1 <<< ((hI h0 a0 26) &&& 31)) - 1)]) (st := []) rfl (t_X10_in F x1 1 ((1 <<< ((hI h0 a0 26) &&& 31)) - 1) h0) ky_X10_in ws_X10_in wz_RX10_166 (rm_X10_askedSet_X10_in) (Nat.le_of_ble_eq_true rfl) dX10_askedSet_10 (fun x3 h2 => (?_))
  refine z_if_ne (pc := 13) (tgt := 20) dX10_askedSet_13 (by decide) ?_ ?_
  · refine z_iload_n (pc := 20) dX10_askedSet_20 rfl 1 rfl (z_callS_I (pc := 21) (avs := [vi x1]) (st := []) rfl (t_X10_bits F x1 h2) ky_X10_bits ws_X10_bits wz_RX10_279 (rm_X10_askedSet_X10_bits) (Nat.le_of_ble_eq_true rfl) dX10_askedSet_21 (fun x5 h4 => (?_)))
    refine z_bipush (pc := 24) dX10_askedSet_24 bp_10 (?_)
    refine z_icmp_le (pc := 26) (tgt := 34) dX10_askedSet_26 (by decide) ?_ ?_
    · refine z_iconst (pc := 34) dX10_askedSet_34 ic_0 (?_)
      exact z_iret (pc := 35) dX10_askedSet_35 rfl rfl
    · refine z_bipush (pc := 29) dX10_askedSet_29 bp_m6 (z_goto (pc := 31) (tgt := 35) dX10_askedSet_31 (by decide) (?_))
      exact z_iret (pc := 35) dX10_askedSet_35 rfl rfl
  · refine z_iconst (pc := 16) dX10_askedSet_16 ic_m1 (z_goto (pc := 17) (tgt := 35) dX10_askedSet_17 (by decide) (?_))
    exact z_iret (pc := 35) dX10_askedSet_35 rfl rfl
