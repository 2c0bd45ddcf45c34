theorem dX10_hasSongs_0 : decode cX10_hasSongs 0 = .ok (.iconst 1, 1) := by decide +kernel
theorem dX10_hasSongs_1 : decode cX10_hasSongs 1 = .ok (.istore_n 2, 1) := by decide +kernel
theorem dX10_hasSongs_2 : decode cX10_hasSongs 2 = .ok (.iconst 0, 1) := by decide +kernel
theorem dX10_hasSongs_3 : decode cX10_hasSongs 3 = .ok (.istore_n 3, 1) := by decide +kernel
theorem dX10_hasSongs_4 : decode cX10_hasSongs 4 = .ok (.iload_n 3, 1) := by decide +kernel
theorem dX10_hasSongs_5 : decode cX10_hasSongs 5 = .ok (.aload_n 0, 1) := by decide +kernel
theorem dX10_hasSongs_6 : decode cX10_hasSongs 6 = .ok (.getfield 262, 3) := by decide +kernel
theorem dX10_hasSongs_9 : decode cX10_hasSongs 9 = .ok (.if_icmp .ge 41, 3) := by decide +kernel
theorem dX10_hasSongs_12 : decode cX10_hasSongs 12 = .ok (.iload_n 2, 1) := by decide +kernel
theorem dX10_hasSongs_13 : decode cX10_hasSongs 13 = .ok (.ifCond .eq 29, 3) := by decide +kernel
theorem dX10_hasSongs_16 : decode cX10_hasSongs 16 = .ok (.iload_n 1, 1) := by decide +kernel
theorem dX10_hasSongs_17 : decode cX10_hasSongs 17 = .ok (.iload_n 3, 1) := by decide +kernel
theorem dX10_hasSongs_18 : decode cX10_hasSongs 18 = .ok (.invokestatic 312, 3) := by decide +kernel
theorem dX10_hasSongs_21 : decode cX10_hasSongs 21 = .ok (.ifCond .eq 17, 3) := by decide +kernel
theorem dX10_hasSongs_24 : decode cX10_hasSongs 24 = .ok (.aload_n 0, 1) := by decide +kernel
theorem dX10_hasSongs_25 : decode cX10_hasSongs 25 = .ok (.getfield 32, 3) := by decide +kernel
theorem dX10_hasSongs_28 : decode cX10_hasSongs 28 = .ok (.aload_n 0, 1) := by decide +kernel
theorem dX10_hasSongs_29 : decode cX10_hasSongs 29 = .ok (.getfield 74, 3) := by decide +kernel
theorem dX10_hasSongs_32 : decode cX10_hasSongs 32 = .ok (.iload_n 3, 1) := by decide +kernel
theorem dX10_hasSongs_33 : decode cX10_hasSongs 33 = .ok (.iaload, 1) := by decide +kernel
theorem dX10_hasSongs_34 : decode cX10_hasSongs 34 = .ok (.iaload, 1) := by decide +kernel
theorem dX10_hasSongs_35 : decode cX10_hasSongs 35 = .ok (.ifCond .lt 7, 3) := by decide +kernel
theorem dX10_hasSongs_38 : decode cX10_hasSongs 38 = .ok (.iconst 1, 1) := by decide +kernel
theorem dX10_hasSongs_39 : decode cX10_hasSongs 39 = .ok (.goto 4, 3) := by decide +kernel
theorem dX10_hasSongs_42 : decode cX10_hasSongs 42 = .ok (.iconst 0, 1) := by decide +kernel
theorem dX10_hasSongs_43 : decode cX10_hasSongs 43 = .ok (.istore_n 2, 1) := by decide +kernel
theorem dX10_hasSongs_44 : decode cX10_hasSongs 44 = .ok (.iinc 3 1, 3) := by decide +kernel
theorem dX10_hasSongs_47 : decode cX10_hasSongs 47 = .ok (.goto (-43), 3) := by decide +kernel
theorem dX10_hasSongs_50 : decode cX10_hasSongs 50 = .ok (.iload_n 2, 1) := by decide +kernel
theorem dX10_hasSongs_51 : decode cX10_hasSongs 51 = .ok (.ireturn, 1) := by decide +kernel
def c_X10_hasSongs_L4 (F : Nat) (a2 : Nat) (x3 : Int32) : Nat → Int32 → Int32 → z_Hp → Option (Int32 × z_Hp)
  | 0, _, _, _ => none
  | n + 1, x4, x5, h6 => (if hT h6 a2 = 10 then (if (hI h6 a2 26) ≤ x5 then (if x4 = 0 ∨ x4 = 1 then some (x4, h6) else none) else (lt_ (fun (x8 : Int32) (h9 : z_Hp) => (lt_ (x5 + 1) (fun x10 => (c_X10_hasSongs_L4 F a2 x3 n x8 x10 h9)))) (fun (j43_7 : Int32 → z_Hp → Option (Int32 × z_Hp)) => (lt_ (fun (h12 : z_Hp) => (j43_7 0 h12)) (fun (j42_11 : z_Hp → Option (Int32 × z_Hp)) => (if x4 = 0 then (j42_11 h6) else (bI (c_X10_has F x3 x5 h6) (fun x14 h13 => (lt_ (fun (h16 : z_Hp) => (j43_7 1 h16)) (fun (j38_15 : z_Hp → Option (Int32 × z_Hp)) => (if x14 = 0 then (j38_15 h13) else (if hT h13 a2 = 10 then (lt_ (hR h13 a2 12) (fun o17 => (if hT h13 a2 = 10 then (lt_ (hR h13 a2 29) (fun o18 => (nn o18 (fun a19 => (if okA h13 a19 20 x5 = true then (nn o17 (fun a20 => (if okA h13 a20 20 (hI h13 a19 (ix x5)) = true then (if (hI h13 a20 (ix (hI h13 a19 (ix x5)))) < 0 then (j42_11 h13) else (j38_15 h13)) else none))) else none))))) else none))) else none)))))))))))) else none)
def c_X10_hasSongs (F : Nat) (a0 : Nat) (x1 : Int32) (h0 : z_Hp) : Option (Int32 × z_Hp) := (c_X10_hasSongs_L4 F a0 x1 F 1 0 h0)
set_option maxRecDepth 20000 in
set_option maxHeartbeats 4000000 in
theorem g_X10_hasSongs_L4 (F : Nat) (a2 : Nat) (x3 : Int32) : ∀ (n : Nat) (x4 : Int32) (x5 : Int32) (h6 : z_Hp), z_G zi mi_X10_hasSongs 4 [(0, vr (some a2)), (1, vi x3), (2, vi x4), (3, vi x5)] [] h6 (c_X10_hasSongs_L4 F a2 x3 n x4 x5 h6) := by
  intro n
  induction n with
  | zero => intro x4 x5 h6; rw [c_X10_hasSongs_L4]; exact z_none
  | succ n ih =>
    intro x4 x5 h6
    rw [c_X10_hasSongs_L4]
    refine z_iload_n (pc := 4) dX10_hasSongs_4 rfl 3 rfl (z_aload_n (pc := 5) dX10_hasSongs_5 rfl 0 rfl (z_getI (pc := 6) fl_RX10_262 rfl dX10_hasSongs_6 (?_)))
    refine z_icmp_ge (pc := 9) (tgt := 50) dX10_hasSongs_9 (by decide) ?_ ?_
    · refine z_iload_n (pc := 50) dX10_hasSongs_50 rfl 2 rfl (?_)
      exact z_zret (pc := 51) dX10_hasSongs_51 rfl
    · refine z_iload_n (pc := 12) dX10_hasSongs_12 rfl 2 rfl (?_)
      refine z_jn (P := fun (j : Int32 → z_Hp → Option (Int32 × z_Hp)) => ∀ (x8 : Int32) (h9 : z_Hp), z_G zi mi_X10_hasSongs 43 [(0, vr (some a2)), (1, vi x3), (3, vi x5)] [vi x8] h9 (j x8 h9)) (fun x8 h9 => ?_) (fun j43_7 qj43_7 => ?_)
      · refine z_istore_n (pc := 43) (L' := [(0, vr (some a2)), (1, vi x3), (2, vi x8), (3, vi x5)]) dX10_hasSongs_43 rfl (Nat.le_of_ble_eq_true rfl) rfl (z_iincl (pc := 44) (L' := fun x10 => [(0, vr (some a2)), (1, vi x3), (2, vi x8), (3, vi x10)]) dX10_hasSongs_44 3 rfl ic_1 (Nat.le_of_ble_eq_true rfl) (fun _ => rfl) (fun x10 => (z_goto (pc := 47) (tgt := 4) dX10_hasSongs_47 (by decide) (?_))))
        exact ih x8 x10 h9
      refine z_jn (P := fun (j : z_Hp → Option (Int32 × z_Hp)) => ∀ (h12 : z_Hp), z_G zi mi_X10_hasSongs 42 [(0, vr (some a2)), (1, vi x3), (3, vi x5)] [] h12 (j h12)) (fun h12 => ?_) (fun j42_11 qj42_11 => ?_)
      · refine z_iconst (pc := 42) dX10_hasSongs_42 ic_0 (?_)
        exact qj43_7 0 h12
      refine z_if_eq (pc := 13) (tgt := 42) dX10_hasSongs_13 (by decide) ?_ ?_
      · exact z_sub [0, 1, 3] rfl (qj42_11 h6)
      · refine z_iload_n (pc := 16) dX10_hasSongs_16 rfl 1 rfl (z_iload_n (pc := 17) dX10_hasSongs_17 rfl 3 rfl (z_callS_I (pc := 18) (avs := [vi x3, vi x5]) (st := []) rfl (t_X10_has F x3 x5 h6) ky_X10_has ws_X10_has wz_RX10_312 (rm_X10_hasSongs_X10_has) (Nat.le_of_ble_eq_true rfl) dX10_hasSongs_18 (fun x14 h13 => (?_))))
        refine z_jn (P := fun (j : z_Hp → Option (Int32 × z_Hp)) => ∀ (h16 : z_Hp), z_G zi mi_X10_hasSongs 38 [(0, vr (some a2)), (1, vi x3), (3, vi x5)] [] h16 (j h16)) (fun h16 => ?_) (fun j38_15 qj38_15 => ?_)
        · refine z_iconst (pc := 38) dX10_hasSongs_38 ic_1 (z_goto (pc := 39) (tgt := 43) dX10_hasSongs_39 (by decide) (?_))
          exact qj43_7 1 h16
        refine z_if_eq (pc := 21) (tgt := 38) dX10_hasSongs_21 (by decide) ?_ ?_
        · exact z_sub [0, 1, 3] rfl (qj38_15 h13)
        · refine z_aload_n (pc := 24) dX10_hasSongs_24 rfl 0 rfl (z_getRl (pc := 25) fl_RX10_32 rfl dX10_hasSongs_25 (fun o17 => (z_aload_n (pc := 28) dX10_hasSongs_28 rfl 0 rfl (z_getRl (pc := 29) fl_RX10_74 rfl dX10_hasSongs_29 (fun o18 => (z_iload_n (pc := 32) dX10_hasSongs_32 rfl 3 rfl (?_)))))))
          refine z_nn (fun a19 ea19 => ?_)
          subst ea19
          refine z_iaload (pc := 33) dX10_hasSongs_33 (?_)
          refine z_nn (fun a20 ea20 => ?_)
          subst ea20
          refine z_iaload (pc := 34) dX10_hasSongs_34 (?_)
          refine z_if_lt (pc := 35) (tgt := 42) dX10_hasSongs_35 (by decide) ?_ ?_
          · exact z_sub [0, 1, 3] rfl (qj42_11 h13)
          · exact z_sub [0, 1, 3] rfl (qj38_15 h13)
set_option maxRecDepth 20000 in
set_option maxHeartbeats 4000000 in
theorem t_X10_hasSongs (F : Nat) (a0 : Nat) (x1 : Int32) (h0 : z_Hp) : z_Ct zi mi_X10_hasSongs [vr (some a0), vi x1] h0 (c_X10_hasSongs F a0 x1 h0) := by
  refine z_entry (by decide) (Nat.le_of_ble_eq_true rfl) [(0, vr (some a0)), (1, vi x1)] rfl ?_
  unfold c_X10_hasSongs
  refine z_iconst (pc := 0) dX10_hasSongs_0 ic_1 (z_istore_n (pc := 1) (L' := [(0, vr (some a0)), (1, vi x1), (2, vi 1)]) dX10_hasSongs_1 rfl (Nat.le_of_ble_eq_true rfl) rfl (z_iconst (pc := 2) dX10_hasSongs_2 ic_0 (z_istore_n (pc := 3) (L' := [(0, vr (some a0)), (1, vi x1), (2, vi 1), (3, vi 0)]) dX10_hasSongs_3 rfl (Nat.le_of_ble_eq_true rfl) rfl (?_))))
  refine g_X10_hasSongs_L4 F a0 x1 F 1 0 h0
theorem dX10_comesAhead_0 : decode cX10_comesAhead 0 = .ok (.aload_n 0, 1) := by decide +kernel
theorem dX10_comesAhead_1 : decode cX10_comesAhead 1 = .ok (.getfield 114, 3) := by decide +kernel
theorem dX10_comesAhead_4 : decode cX10_comesAhead 4 = .ok (.iload_n 1, 1) := by decide +kernel
theorem dX10_comesAhead_5 : decode cX10_comesAhead 5 = .ok (.iaload, 1) := by decide +kernel
theorem dX10_comesAhead_6 : decode cX10_comesAhead 6 = .ok (.aload_n 0, 1) := by decide +kernel
theorem dX10_comesAhead_7 : decode cX10_comesAhead 7 = .ok (.getfield 114, 3) := by decide +kernel
theorem dX10_comesAhead_10 : decode cX10_comesAhead 10 = .ok (.iload_n 2, 1) := by decide +kernel
theorem dX10_comesAhead_11 : decode cX10_comesAhead 11 = .ok (.iaload, 1) := by decide +kernel
theorem dX10_comesAhead_12 : decode cX10_comesAhead 12 = .ok (.if_icmp .lt 23, 3) := by decide +kernel
theorem dX10_comesAhead_15 : decode cX10_comesAhead 15 = .ok (.aload_n 0, 1) := by decide +kernel
theorem dX10_comesAhead_16 : decode cX10_comesAhead 16 = .ok (.getfield 114, 3) := by decide +kernel
theorem dX10_comesAhead_19 : decode cX10_comesAhead 19 = .ok (.iload_n 1, 1) := by decide +kernel
theorem dX10_comesAhead_20 : decode cX10_comesAhead 20 = .ok (.iaload, 1) := by decide +kernel
theorem dX10_comesAhead_21 : decode cX10_comesAhead 21 = .ok (.aload_n 0, 1) := by decide +kernel
theorem dX10_comesAhead_22 : decode cX10_comesAhead 22 = .ok (.getfield 114, 3) := by decide +kernel
theorem dX10_comesAhead_25 : decode cX10_comesAhead 25 = .ok (.iload_n 2, 1) := by decide +kernel
theorem dX10_comesAhead_26 : decode cX10_comesAhead 26 = .ok (.iaload, 1) := by decide +kernel
theorem dX10_comesAhead_27 : decode cX10_comesAhead 27 = .ok (.if_icmp .ne 12, 3) := by decide +kernel
theorem dX10_comesAhead_30 : decode cX10_comesAhead 30 = .ok (.iload_n 1, 1) := by decide +kernel
theorem dX10_comesAhead_31 : decode cX10_comesAhead 31 = .ok (.iload_n 2, 1) := by decide +kernel
theorem dX10_comesAhead_32 : decode cX10_comesAhead 32 = .ok (.if_icmp .ge 7, 3) := by decide +kernel
theorem dX10_comesAhead_35 : decode cX10_comesAhead 35 = .ok (.iconst 1, 1) := by decide +kernel
theorem dX10_comesAhead_36 : decode cX10_comesAhead 36 = .ok (.goto 4, 3) := by decide +kernel
theorem dX10_comesAhead_39 : decode cX10_comesAhead 39 = .ok (.iconst 0, 1) := by decide +kernel
theorem dX10_comesAhead_40 : decode cX10_comesAhead 40 = .ok (.ireturn, 1) := by decide +kernel
def c_X10_comesAhead (F : Nat) (a0 : Nat) (x1 : Int32) (x2 : Int32) (h0 : z_Hp) : Option (Int32 × z_Hp) := (if hT h0 a0 = 10 then (lt_ (hR h0 a0 43) (fun o3 => (nn o3 (fun a4 => (if okA h0 a4 20 x1 = true then (if hT h0 a0 = 10 then (lt_ (hR h0 a0 43) (fun o5 => (nn o5 (fun a6 => (if okA h0 a6 20 x2 = true then (if (hI h0 a4 (ix x1)) < (hI h0 a6 (ix x2)) then (some (1, h0)) else (if hT h0 a0 = 10 then (lt_ (hR h0 a0 43) (fun o7 => (nn o7 (fun a8 => (if okA h0 a8 20 x1 = true then (if hT h0 a0 = 10 then (lt_ (hR h0 a0 43) (fun o9 => (nn o9 (fun a10 => (if okA h0 a10 20 x2 = true then (if (hI h0 a8 (ix x1)) = (hI h0 a10 (ix x2)) then (if x2 ≤ x1 then (some (0, h0)) else (some (1, h0))) else (some (0, h0))) else none))))) else none) else none))))) else none)) else none))))) else none) else none))))) else none)
set_option maxRecDepth 20000 in
set_option maxHeartbeats 4000000 in
theorem t_X10_comesAhead (F : Nat) (a0 : Nat) (x1 : Int32) (x2 : Int32) (h0 : z_Hp) : z_Ct zi mi_X10_comesAhead [vr (some a0), vi x1, vi x2] h0 (c_X10_comesAhead F a0 x1 x2 h0) := by
  refine z_entry (by decide) (Nat.le_of_ble_eq_true rfl) [(0, vr (some a0)), (1, vi x1), (2, vi x2)] rfl ?_
  unfold c_X10_comesAhead
  refine z_aload_n (pc := 0) dX10_comesAhead_0 rfl 0 rfl (z_getRl (pc := 1) fl_RX10_114 rfl dX10_comesAhead_1 (fun o3 => (z_iload_n (pc := 4) dX10_comesAhead_4 rfl 1 rfl (?_))))
  refine z_nn (fun a4 ea4 => ?_)
  subst ea4
  refine z_iaload (pc := 5) dX10_comesAhead_5 (z_aload_n (pc := 6) dX10_comesAhead_6 rfl 0 rfl (z_getRl (pc := 7) fl_RX10_114 rfl dX10_comesAhead_7 (fun o5 => (z_iload_n (pc := 10) dX10_comesAhead_10 rfl 2 rfl (?_)))))
  refine z_nn (fun a6 ea6 => ?_)
  subst ea6
  refine z_iaload (pc := 11) dX10_comesAhead_11 (?_)
  refine z_icmp_lt (pc := 12) (tgt := 35) dX10_comesAhead_12 (by decide) ?_ ?_
  · refine z_iconst (pc := 35) dX10_comesAhead_35 ic_1 (z_goto (pc := 36) (tgt := 40) dX10_comesAhead_36 (by decide) (?_))
    exact z_iret (pc := 40) dX10_comesAhead_40 rfl rfl
  · refine z_aload_n (pc := 15) dX10_comesAhead_15 rfl 0 rfl (z_getRl (pc := 16) fl_RX10_114 rfl dX10_comesAhead_16 (fun o7 => (z_iload_n (pc := 19) dX10_comesAhead_19 rfl 1 rfl (?_))))
    refine z_nn (fun a8 ea8 => ?_)
    subst ea8
    refine z_iaload (pc := 20) dX10_comesAhead_20 (z_aload_n (pc := 21) dX10_comesAhead_21 rfl 0 rfl (z_getRl (pc := 22) fl_RX10_114 rfl dX10_comesAhead_22 (fun o9 => (z_iload_n (pc := 25) dX10_comesAhead_25 rfl 2 rfl (?_)))))
    refine z_nn (fun a10 ea10 => ?_)
    subst ea10
    refine z_iaload (pc := 26) dX10_comesAhead_26 (?_)
    refine z_icmp_ne (pc := 27) (tgt := 39) dX10_comesAhead_27 (by decide) ?_ ?_
    · refine z_iconst (pc := 39) dX10_comesAhead_39 ic_0 (?_)
      exact z_iret (pc := 40) dX10_comesAhead_40 rfl rfl
    · refine z_iload_n (pc := 30) dX10_comesAhead_30 rfl 1 rfl (z_iload_n (pc := 31) dX10_comesAhead_31 rfl 2 rfl (?_))
      refine z_icmp_ge (pc := 32) (tgt := 39) dX10_comesAhead_32 (by decide) ?_ ?_
      · refine z_iconst (pc := 39) dX10_comesAhead_39 ic_0 (?_)
        exact z_iret (pc := 40) dX10_comesAhead_40 rfl rfl
      · refine z_iconst (pc := 35) dX10_comesAhead_35 ic_1 (z_goto (pc := 36) (tgt := 40) dX10_comesAhead_36 (by decide) (?_))
        exact z_iret (pc := 40) dX10_comesAhead_40 rfl rfl
theorem dX10_family_0 : decode cX10_family 0 = .ok (.aload_n 0, 1) := by decide +kernel
theorem dX10_family_1 : decode cX10_family 1 = .ok (.iload_n 1, 1) := by decide +kernel
theorem dX10_family_2 : decode cX10_family 2 = .ok (.invokevirtual 335, 3) := by decide +kernel
theorem dX10_family_5 : decode cX10_family 5 = .ok (.istore_n 2, 1) := by decide +kernel
theorem dX10_family_6 : decode cX10_family 6 = .ok (.iload_n 2, 1) := by decide +kernel
theorem dX10_family_7 : decode cX10_family 7 = .ok (.ifCond .ge 5, 3) := by decide +kernel
theorem dX10_family_10 : decode cX10_family 10 = .ok (.iload_n 2, 1) := by decide +kernel
theorem dX10_family_11 : decode cX10_family 11 = .ok (.ireturn, 1) := by decide +kernel
theorem dX10_family_12 : decode cX10_family 12 = .ok (.aload_n 0, 1) := by decide +kernel
theorem dX10_family_13 : decode cX10_family 13 = .ok (.iload_n 1, 1) := by decide +kernel
theorem dX10_family_14 : decode cX10_family 14 = .ok (.invokevirtual 338, 3) := by decide +kernel
theorem dX10_family_17 : decode cX10_family 17 = .ok (.ifCond .ne 9, 3) := by decide +kernel
theorem dX10_family_20 : decode cX10_family 20 = .ok (.aload_n 0, 1) := by decide +kernel
theorem dX10_family_21 : decode cX10_family 21 = .ok (.iconst 1, 1) := by decide +kernel
theorem dX10_family_22 : decode cX10_family 22 = .ok (.invokevirtual 174, 3) := by decide +kernel
theorem dX10_family_25 : decode cX10_family 25 = .ok (.ireturn, 1) := by decide +kernel
theorem dX10_family_26 : decode cX10_family 26 = .ok (.aload_n 0, 1) := by decide +kernel
theorem dX10_family_27 : decode cX10_family 27 = .ok (.iconst 0, 1) := by decide +kernel
theorem dX10_family_28 : decode cX10_family 28 = .ok (.invokevirtual 325, 3) := by decide +kernel
theorem dX10_family_31 : decode cX10_family 31 = .ok (.ifCond .ne 6, 3) := by decide +kernel
theorem dX10_family_34 : decode cX10_family 34 = .ok (.bipush (-4), 2) := by decide +kernel
theorem dX10_family_36 : decode cX10_family 36 = .ok (.ireturn, 1) := by decide +kernel
theorem dX10_family_37 : decode cX10_family 37 = .ok (.iconst 0, 1) := by decide +kernel
theorem dX10_family_38 : decode cX10_family 38 = .ok (.istore_n 3, 1) := by decide +kernel
theorem dX10_family_39 : decode cX10_family 39 = .ok (.aload_n 0, 1) := by decide +kernel
theorem dX10_family_40 : decode cX10_family 40 = .ok (.lconst 1, 1) := by decide +kernel
theorem dX10_family_41 : decode cX10_family 41 = .ok (.putfield 322, 3) := by decide +kernel
theorem dX10_family_44 : decode cX10_family 44 = .ok (.iconst 0, 1) := by decide +kernel
theorem dX10_family_45 : decode cX10_family 45 = .ok (.istore 4, 2) := by decide +kernel
theorem dX10_family_47 : decode cX10_family 47 = .ok (.iload 4, 2) := by decide +kernel
theorem dX10_family_49 : decode cX10_family 49 = .ok (.aload_n 0, 1) := by decide +kernel
theorem dX10_family_50 : decode cX10_family 50 = .ok (.getfield 262, 3) := by decide +kernel
theorem dX10_family_53 : decode cX10_family 53 = .ok (.if_icmp .ge 180, 3) := by decide +kernel
theorem dX10_family_56 : decode cX10_family 56 = .ok (.bipush (-9), 2) := by decide +kernel
theorem dX10_family_58 : decode cX10_family 58 = .ok (.istore 5, 2) := by decide +kernel
theorem dX10_family_60 : decode cX10_family 60 = .ok (.iconst 0, 1) := by decide +kernel
theorem dX10_family_61 : decode cX10_family 61 = .ok (.istore 6, 2) := by decide +kernel
theorem dX10_family_63 : decode cX10_family 63 = .ok (.iconst 0, 1) := by decide +kernel
theorem dX10_family_64 : decode cX10_family 64 = .ok (.istore 7, 2) := by decide +kernel
theorem dX10_family_66 : decode cX10_family 66 = .ok (.iload 7, 2) := by decide +kernel
theorem dX10_family_68 : decode cX10_family 68 = .ok (.aload_n 0, 1) := by decide +kernel
theorem dX10_family_69 : decode cX10_family 69 = .ok (.getfield 262, 3) := by decide +kernel
theorem dX10_family_72 : decode cX10_family 72 = .ok (.if_icmp .ge 120, 3) := by decide +kernel
theorem dX10_family_75 : decode cX10_family 75 = .ok (.iload_n 1, 1) := by decide +kernel
theorem dX10_family_76 : decode cX10_family 76 = .ok (.iload 4, 2) := by decide +kernel
theorem dX10_family_78 : decode cX10_family 78 = .ok (.invokestatic 312, 3) := by decide +kernel
theorem dX10_family_81 : decode cX10_family 81 = .ok (.ifCond .eq 111, 3) := by decide +kernel
theorem dX10_family_84 : decode cX10_family 84 = .ok (.iload_n 1, 1) := by decide +kernel
theorem dX10_family_85 : decode cX10_family 85 = .ok (.iload 7, 2) := by decide +kernel
theorem dX10_family_87 : decode cX10_family 87 = .ok (.invokestatic 312, 3) := by decide +kernel
theorem dX10_family_90 : decode cX10_family 90 = .ok (.ifCond .eq 96, 3) := by decide +kernel
theorem dX10_family_93 : decode cX10_family 93 = .ok (.iload 7, 2) := by decide +kernel
theorem dX10_family_95 : decode cX10_family 95 = .ok (.iload 4, 2) := by decide +kernel
theorem dX10_family_97 : decode cX10_family 97 = .ok (.if_icmp .eq 89, 3) := by decide +kernel
theorem dX10_family_100 : decode cX10_family 100 = .ok (.aload_n 0, 1) := by decide +kernel
theorem dX10_family_101 : decode cX10_family 101 = .ok (.iload 7, 2) := by decide +kernel
theorem dX10_family_103 : decode cX10_family 103 = .ok (.iload 4, 2) := by decide +kernel
theorem dX10_family_105 : decode cX10_family 105 = .ok (.invokevirtual 341, 3) := by decide +kernel
theorem dX10_family_108 : decode cX10_family 108 = .ok (.ifCond .eq 78, 3) := by decide +kernel
theorem dX10_family_111 : decode cX10_family 111 = .ok (.aload_n 0, 1) := by decide +kernel
theorem dX10_family_112 : decode cX10_family 112 = .ok (.aload_n 0, 1) := by decide +kernel
theorem dX10_family_113 : decode cX10_family 113 = .ok (.getfield 74, 3) := by decide +kernel
theorem dX10_family_116 : decode cX10_family 116 = .ok (.iload 7, 2) := by decide +kernel
theorem dX10_family_118 : decode cX10_family 118 = .ok (.iaload, 1) := by decide +kernel
theorem dX10_family_119 : decode cX10_family 119 = .ok (.aload_n 0, 1) := by decide +kernel
theorem dX10_family_120 : decode cX10_family 120 = .ok (.getfield 74, 3) := by decide +kernel
theorem dX10_family_123 : decode cX10_family 123 = .ok (.iload 4, 2) := by decide +kernel
theorem dX10_family_125 : decode cX10_family 125 = .ok (.iaload, 1) := by decide +kernel
theorem dX10_family_126 : decode cX10_family 126 = .ok (.invokevirtual 332, 3) := by decide +kernel
theorem dX10_family_129 : decode cX10_family 129 = .ok (.istore 8, 2) := by decide +kernel
theorem dX10_family_131 : decode cX10_family 131 = .ok (.iload 5, 2) := by decide +kernel
theorem dX10_family_133 : decode cX10_family 133 = .ok (.ifCond .lt 10, 3) := by decide +kernel
theorem dX10_family_136 : decode cX10_family 136 = .ok (.iload 8, 2) := by decide +kernel
theorem dX10_family_138 : decode cX10_family 138 = .ok (.iload 5, 2) := by decide +kernel
theorem dX10_family_140 : decode cX10_family 140 = .ok (.if_icmp .ge 7, 3) := by decide +kernel
theorem dX10_family_143 : decode cX10_family 143 = .ok (.iconst 1, 1) := by decide +kernel
theorem dX10_family_144 : decode cX10_family 144 = .ok (.goto 19, 3) := by decide +kernel
theorem dX10_family_147 : decode cX10_family 147 = .ok (.iload 8, 2) := by decide +kernel
theorem dX10_family_149 : decode cX10_family 149 = .ok (.iload 5, 2) := by decide +kernel
theorem dX10_family_151 : decode cX10_family 151 = .ok (.if_icmp .ne 10, 3) := by decide +kernel
theorem dX10_family_154 : decode cX10_family 154 = .ok (.iload 6, 2) := by decide +kernel
theorem dX10_family_156 : decode cX10_family 156 = .ok (.iconst 1, 1) := by decide +kernel
theorem dX10_family_157 : decode cX10_family 157 = .ok (.iadd, 1) := by decide +kernel
theorem dX10_family_158 : decode cX10_family 158 = .ok (.goto 5, 3) := by decide +kernel
theorem dX10_family_161 : decode cX10_family 161 = .ok (.iload 6, 2) := by decide +kernel
theorem dX10_family_163 : decode cX10_family 163 = .ok (.istore 6, 2) := by decide +kernel
theorem dX10_family_165 : decode cX10_family 165 = .ok (.iload 5, 2) := by decide +kernel
theorem dX10_family_167 : decode cX10_family 167 = .ok (.ifCond .lt 10, 3) := by decide +kernel
theorem dX10_family_170 : decode cX10_family 170 = .ok (.iload 8, 2) := by decide +kernel
theorem dX10_family_172 : decode cX10_family 172 = .ok (.iload 5, 2) := by decide +kernel
theorem dX10_family_174 : decode cX10_family 174 = .ok (.if_icmp .ge 8, 3) := by decide +kernel
theorem dX10_family_177 : decode cX10_family 177 = .ok (.iload 8, 2) := by decide +kernel
theorem dX10_family_179 : decode cX10_family 179 = .ok (.goto 5, 3) := by decide +kernel
theorem dX10_family_182 : decode cX10_family 182 = .ok (.iload 5, 2) := by decide +kernel
theorem dX10_family_184 : decode cX10_family 184 = .ok (.istore 5, 2) := by decide +kernel
theorem dX10_family_186 : decode cX10_family 186 = .ok (.iinc 7 1, 3) := by decide +kernel
theorem dX10_family_189 : decode cX10_family 189 = .ok (.goto (-123), 3) := by decide +kernel
theorem dX10_family_192 : decode cX10_family 192 = .ok (.iload_n 3, 1) := by decide +kernel
theorem dX10_family_193 : decode cX10_family 193 = .ok (.iload 5, 2) := by decide +kernel
theorem dX10_family_195 : decode cX10_family 195 = .ok (.ifCond .ge 7, 3) := by decide +kernel
theorem dX10_family_198 : decode cX10_family 198 = .ok (.iconst 0, 1) := by decide +kernel
theorem dX10_family_199 : decode cX10_family 199 = .ok (.goto 5, 3) := by decide +kernel
theorem dX10_family_202 : decode cX10_family 202 = .ok (.iload 5, 2) := by decide +kernel
theorem dX10_family_204 : decode cX10_family 204 = .ok (.iadd, 1) := by decide +kernel
theorem dX10_family_205 : decode cX10_family 205 = .ok (.istore_n 3, 1) := by decide +kernel
theorem dX10_family_206 : decode cX10_family 206 = .ok (.aload_n 0, 1) := by decide +kernel
theorem dX10_family_207 : decode cX10_family 207 = .ok (.dup, 1) := by decide +kernel
theorem dX10_family_208 : decode cX10_family 208 = .ok (.getfield 322, 3) := by decide +kernel
theorem dX10_family_211 : decode cX10_family 211 = .ok (.iload 5, 2) := by decide +kernel
theorem dX10_family_213 : decode cX10_family 213 = .ok (.ifCond .ge 7, 3) := by decide +kernel
theorem dX10_family_216 : decode cX10_family 216 = .ok (.lconst 1, 1) := by decide +kernel
theorem dX10_family_217 : decode cX10_family 217 = .ok (.goto 6, 3) := by decide +kernel
theorem dX10_family_220 : decode cX10_family 220 = .ok (.iload 6, 2) := by decide +kernel
theorem dX10_family_222 : decode cX10_family 222 = .ok (.i2l, 1) := by decide +kernel
theorem dX10_family_223 : decode cX10_family 223 = .ok (.lmul, 1) := by decide +kernel
theorem dX10_family_224 : decode cX10_family 224 = .ok (.putfield 322, 3) := by decide +kernel
theorem dX10_family_227 : decode cX10_family 227 = .ok (.iinc 4 1, 3) := by decide +kernel
theorem dX10_family_230 : decode cX10_family 230 = .ok (.goto (-183), 3) := by decide +kernel
theorem dX10_family_233 : decode cX10_family 233 = .ok (.iload_n 3, 1) := by decide +kernel
theorem dX10_family_234 : decode cX10_family 234 = .ok (.ireturn, 1) := by decide +kernel
def c_X10_family_L66 (F : Nat) (a14 : Nat) (x15 : Int32) (x16 : Int32) (x17 : Int32) (k192 : Int32 → Int32 → z_Hp → Option (Int32 × z_Hp)) : Nat → Int32 → Int32 → Int32 → z_Hp → Option (Int32 × z_Hp)
  | 0, _, _, _, _ => none
  | n + 1, x18, x19, x20, h21 => (if hT h21 a14 = 10 then (if (hI h21 a14 26) ≤ x20 then (k192 x18 x19 h21) else (bI (c_X10_has F x15 x17 h21) (fun x26 h25 => (if x26 = 0 then (k192 x18 x19 h25) else (bI (c_X10_has F x15 x20 h25) (fun x28 h27 => (lt_ (fun (x30 : Int32) (x31 : Int32) (h32 : z_Hp) => (lt_ (x20 + 1) (fun x33 => (c_X10_family_L66 F a14 x15 x16 x17 k192 n x30 x31 x33 h32)))) (fun (j186_29 : Int32 → Int32 → z_Hp → Option (Int32 × z_Hp)) => (if x28 = 0 then (j186_29 x18 x19 h27) else (if x20 = x17 then (j186_29 x18 x19 h27) else (if hT h27 a14 = 10 then (bI (c_X10_comesAhead F a14 x20 x17 h27) (fun x35 h34 => (if x35 = 0 then (j186_29 x18 x19 h34) else (if hT h34 a14 = 10 then (lt_ (hR h34 a14 29) (fun o36 => (nn o36 (fun a37 => (if okA h34 a37 20 x20 = true then (if hT h34 a14 = 10 then (lt_ (hR h34 a14 29) (fun o38 => (nn o38 (fun a39 => (if okA h34 a39 20 x17 = true then (if hT h34 a14 = 10 then (bI (c_X10_changesOf F a14 (hI h34 a37 (ix x20)) (hI h34 a39 (ix x17)) h34) (fun x41 h40 => (lt_ (fun (x43 : Int32) (h44 : z_Hp) => (lt_ (fun (x46 : Int32) (h47 : z_Hp) => (j186_29 x46 x43 h47)) (fun (j184_45 : Int32 → z_Hp → Option (Int32 × z_Hp)) => (lt_ (fun (h49 : z_Hp) => (j184_45 x41 h49)) (fun (j177_48 : z_Hp → Option (Int32 × z_Hp)) => (if x18 < 0 then (j177_48 h44) else (if x18 ≤ x41 then (j184_45 x18 h44) else (j177_48 h44)))))))) (fun (j163_42 : Int32 → z_Hp → Option (Int32 × z_Hp)) => (lt_ (fun (h51 : z_Hp) => (j163_42 1 h51)) (fun (j143_50 : z_Hp → Option (Int32 × z_Hp)) => (if x18 < 0 then (j143_50 h40) else (if x18 ≤ x41 then (if x41 = x18 then (j163_42 (x19 + 1) h40) else (j163_42 x19 h40)) else (j143_50 h40))))))))) else none) else none))))) else none) else none))))) else none)))) else none))))))))))) else none)
def c_X10_family_L47 (F : Nat) (a9 : Nat) (x10 : Int32) : Nat → Int32 → Int32 → z_Hp → Option (Int32 × z_Hp)
  | 0, _, _, _ => none
  | n + 1, x11, x12, h13 => (if hT h13 a9 = 10 then (if (hI h13 a9 26) ≤ x12 then (some (x11, h13)) else (c_X10_family_L66 F a9 x10 x11 x12 (fun x52 x53 h54 => (lt_ (fun (x56 : Int32) (h57 : z_Hp) => (lt_ (x11 + x56) (fun x58 => (if hT h57 a9 = 10 then (lt_ (fun (y60 : Int64) (h61 : z_Hp) => (if hT h61 a9 = 10 then (lt_ (sJ h61 a9 3 ((hJ h57 a9 3) * y60)) (fun h62 => (lt_ (x12 + 1) (fun x63 => (c_X10_family_L47 F a9 x10 n x58 x63 h62))))) else none)) (fun (j223_59 : Int64 → z_Hp → Option (Int32 × z_Hp)) => (if 0 ≤ x52 then (j223_59 ((x53 : Int32).toInt64) h57) else (j223_59 1 h57)))) else none)))) (fun (j204_55 : Int32 → z_Hp → Option (Int32 × z_Hp)) => (if 0 ≤ x52 then (j204_55 x52 h54) else (j204_55 0 h54))))) F (-9) 0 0 h13)) else none)
def c_X10_family (F : Nat) (a0 : Nat) (x1 : Int32) (h0 : z_Hp) : Option (Int32 × z_Hp) := (if hT h0 a0 = 10 then (bI (c_X10_askedSet F a0 x1 h0) (fun x3 h2 => (if 0 ≤ x3 then (if hT h2 a0 = 10 then (bI (c_X10_hasSongs F a0 x1 h2) (fun x5 h4 => (if x5 = 0 then (if hT h4 a0 = 10 then (bI (c_X10_meets F a0 1 h4) (fun x65 h64 => (some (x65, h64)))) else none) else (if hT h4 a0 = 10 then (bI (c_X10_setYears F a0 0 h4) (fun x7 h6 => (if x7 = 0 then (some ((-4), h6)) else (if hT h6 a0 = 10 then (lt_ (sJ h6 a0 3 1) (fun h8 => (c_X10_family_L47 F a0 x1 F 0 0 h8))) else none)))) else none)))) else none) else (some (x3, h2))))) else none)
set_option maxRecDepth 20000 in
set_option maxHeartbeats 4000000 in
theorem g_X10_family_L66 (F : Nat) (a14 : Nat) (x15 : Int32) (x16 : Int32) (x17 : Int32) (k192 : Int32 → Int32 → z_Hp → Option (Int32 × z_Hp)) (qk192 : ∀ (x22 : Int32) (x23 : Int32) (h24 : z_Hp), z_G zi mi_X10_family 192 [(0, vr (some a14)), (1, vi x15), (3, vi x16), (4, vi x17), (5, vi x22), (6, vi x23)] [] h24 (k192 x22 x23 h24)) : ∀ (n : Nat) (x18 : Int32) (x19 : Int32) (x20 : Int32) (h21 : z_Hp), z_G zi mi_X10_family 66 [(0, vr (some a14)), (1, vi x15), (3, vi x16), (4, vi x17), (5, vi x18), (6, vi x19), (7, vi x20)] [] h21 (c_X10_family_L66 F a14 x15 x16 x17 k192 n x18 x19 x20 h21) := by
  intro n
  induction n with
  | zero => intro x18 x19 x20 h21; rw [c_X10_family_L66]; exact z_none
  | succ n ih =>
    intro x18 x19 x20 h21
    rw [c_X10_family_L66]
    refine z_iload (pc := 66) dX10_family_66 6 rfl (z_aload_n (pc := 68) dX10_family_68 rfl 0 rfl (z_getI (pc := 69) fl_RX10_262 rfl dX10_family_69 (?_)))
    refine z_icmp_ge (pc := 72) (tgt := 192) dX10_family_72 (by decide) ?_ ?_
    · exact z_sub [0, 1, 2, 3, 4, 5] rfl (qk192 x18 x19 h21)
    · refine z_iload_n (pc := 75) dX10_family_75 rfl 1 rfl (z_iload (pc := 76) dX10_family_76 3 rfl (z_callS_I (pc := 78) (avs := [vi x15, vi x17]) (st := []) rfl (t_X10_has F x15 x17 h21) ky_X10_has ws_X10_has wz_RX10_312 (rm_X10_family_X10_has) (Nat.le_of_ble_eq_true rfl) dX10_family_78 (fun x26 h25 => (?_))))
      refine z_if_eq (pc := 81) (tgt := 192) dX10_family_81 (by decide) ?_ ?_
      · exact z_sub [0, 1, 2, 3, 4, 5] rfl (qk192 x18 x19 h25)
      · refine z_iload_n (pc := 84) dX10_family_84 rfl 1 rfl (z_iload (pc := 85) dX10_family_85 6 rfl (z_callS_I (pc := 87) (avs := [vi x15, vi x20]) (st := []) rfl (t_X10_has F x15 x20 h25) ky_X10_has ws_X10_has wz_RX10_312 (rm_X10_family_X10_has) (Nat.le_of_ble_eq_true rfl) dX10_family_87 (fun x28 h27 => (?_))))
        refine z_jn (P := fun (j : Int32 → Int32 → z_Hp → Option (Int32 × z_Hp)) => ∀ (x30 : Int32) (x31 : Int32) (h32 : z_Hp), z_G zi mi_X10_family 186 [(0, vr (some a14)), (1, vi x15), (3, vi x16), (4, vi x17), (5, vi x30), (6, vi x31), (7, vi x20)] [] h32 (j x30 x31 h32)) (fun x30 x31 h32 => ?_) (fun j186_29 qj186_29 => ?_)
        · refine z_iincl (pc := 186) (L' := fun x33 => [(0, vr (some a14)), (1, vi x15), (3, vi x16), (4, vi x17), (5, vi x30), (6, vi x31), (7, vi x33)]) dX10_family_186 6 rfl ic_1 (Nat.le_of_ble_eq_true rfl) (fun _ => rfl) (fun x33 => (z_goto (pc := 189) (tgt := 66) dX10_family_189 (by decide) (?_)))
          exact ih x30 x31 x33 h32
        refine z_if_eq (pc := 90) (tgt := 186) dX10_family_90 (by decide) ?_ ?_
        · exact qj186_29 x18 x19 h27
        · refine z_iload (pc := 93) dX10_family_93 6 rfl (z_iload (pc := 95) dX10_family_95 3 rfl (?_))
          refine z_icmp_eq (pc := 97) (tgt := 186) dX10_family_97 (by decide) ?_ ?_
          · exact qj186_29 x18 x19 h27
          · refine z_aload_n (pc := 100) dX10_family_100 rfl 0 rfl (z_iload (pc := 101) dX10_family_101 6 rfl (z_iload (pc := 103) dX10_family_103 3 rfl (z_callV_I (pc := 105) (avs := [vi x20, vi x17]) (st := []) rfl (q := (RX10, TX10, 62)) rfl rfl (t_X10_comesAhead F a14 x20 x17 h27) ky_X10_comesAhead wm_X10_comesAhead we_X10_comesAhead wz_RX10_341 (rm_X10_family_X10_comesAhead) (Nat.le_of_ble_eq_true rfl) dX10_family_105 (fun x35 h34 => (?_)))))
            refine z_if_eq (pc := 108) (tgt := 186) dX10_family_108 (by decide) ?_ ?_
            · exact qj186_29 x18 x19 h34
            · refine z_aload_n (pc := 111) dX10_family_111 rfl 0 rfl (z_aload_n (pc := 112) dX10_family_112 rfl 0 rfl (z_getRl (pc := 113) fl_RX10_74 rfl dX10_family_113 (fun o36 => (z_iload (pc := 116) dX10_family_116 6 rfl (?_)))))
              refine z_nn (fun a37 ea37 => ?_)
              subst ea37
              refine z_iaload (pc := 118) dX10_family_118 (z_aload_n (pc := 119) dX10_family_119 rfl 0 rfl (z_getRl (pc := 120) fl_RX10_74 rfl dX10_family_120 (fun o38 => (z_iload (pc := 123) dX10_family_123 3 rfl (?_)))))
              refine z_nn (fun a39 ea39 => ?_)
              subst ea39
              refine z_iaload (pc := 125) dX10_family_125 (z_callV_I (pc := 126) (avs := [vi (hI h34 a37 (ix x20)), vi (hI h34 a39 (ix x17))]) (st := []) rfl (q := (RX10, TX10, 62)) rfl rfl (t_X10_changesOf F a14 (hI h34 a37 (ix x20)) (hI h34 a39 (ix x17)) h34) ky_X10_changesOf wm_X10_changesOf we_X10_changesOf wz_RX10_332 (rm_X10_family_X10_changesOf) (Nat.le_of_ble_eq_true rfl) dX10_family_126 (fun x41 h40 => (?_)))
              refine z_istore (pc := 129) (L' := [(0, vr (some a14)), (1, vi x15), (3, vi x16), (4, vi x17), (5, vi x18), (6, vi x19), (7, vi x20), (8, vi x41)]) dX10_family_129 (Nat.le_of_ble_eq_true rfl) rfl (z_iload (pc := 131) dX10_family_131 4 rfl (?_))
              refine z_jn (P := fun (j : Int32 → z_Hp → Option (Int32 × z_Hp)) => ∀ (x43 : Int32) (h44 : z_Hp), z_G zi mi_X10_family 163 [(0, vr (some a14)), (1, vi x15), (3, vi x16), (4, vi x17), (5, vi x18), (7, vi x20), (8, vi x41)] [vi x43] h44 (j x43 h44)) (fun x43 h44 => ?_) (fun j163_42 qj163_42 => ?_)
              · refine z_istore (pc := 163) (L' := [(0, vr (some a14)), (1, vi x15), (3, vi x16), (4, vi x17), (5, vi x18), (6, vi x43), (7, vi x20), (8, vi x41)]) dX10_family_163 (Nat.le_of_ble_eq_true rfl) rfl (z_iload (pc := 165) dX10_family_165 4 rfl (?_))
                refine z_jn (P := fun (j : Int32 → z_Hp → Option (Int32 × z_Hp)) => ∀ (x46 : Int32) (h47 : z_Hp), z_G zi mi_X10_family 184 [(0, vr (some a14)), (1, vi x15), (3, vi x16), (4, vi x17), (6, vi x43), (7, vi x20)] [vi x46] h47 (j x46 h47)) (fun x46 h47 => ?_) (fun j184_45 qj184_45 => ?_)
                · refine z_istore (pc := 184) (L' := [(0, vr (some a14)), (1, vi x15), (3, vi x16), (4, vi x17), (5, vi x46), (6, vi x43), (7, vi x20)]) dX10_family_184 (Nat.le_of_ble_eq_true rfl) rfl (?_)
                  exact qj186_29 x46 x43 h47
                refine z_jn (P := fun (j : z_Hp → Option (Int32 × z_Hp)) => ∀ (h49 : z_Hp), z_G zi mi_X10_family 177 [(0, vr (some a14)), (1, vi x15), (3, vi x16), (4, vi x17), (6, vi x43), (7, vi x20), (8, vi x41)] [] h49 (j h49)) (fun h49 => ?_) (fun j177_48 qj177_48 => ?_)
                · refine z_iload (pc := 177) dX10_family_177 6 rfl (z_goto (pc := 179) (tgt := 184) dX10_family_179 (by decide) (?_))
                  exact z_sub [0, 1, 2, 3, 4, 5] rfl (qj184_45 x41 h49)
                refine z_if_lt (pc := 167) (tgt := 177) dX10_family_167 (by decide) ?_ ?_
                · exact z_sub [0, 1, 2, 3, 5, 6, 7] rfl (qj177_48 h44)
                · refine z_iload (pc := 170) dX10_family_170 7 rfl (z_iload (pc := 172) dX10_family_172 4 rfl (?_))
                  refine z_icmp_ge (pc := 174) (tgt := 182) dX10_family_174 (by decide) ?_ ?_
                  · refine z_iload (pc := 182) dX10_family_182 4 rfl (?_)
                    exact z_sub [0, 1, 2, 3, 5, 6] rfl (qj184_45 x18 h44)
                  · exact z_sub [0, 1, 2, 3, 5, 6, 7] rfl (qj177_48 h44)
              refine z_jn (P := fun (j : z_Hp → Option (Int32 × z_Hp)) => ∀ (h51 : z_Hp), z_G zi mi_X10_family 143 [(0, vr (some a14)), (1, vi x15), (3, vi x16), (4, vi x17), (5, vi x18), (7, vi x20), (8, vi x41)] [] h51 (j h51)) (fun h51 => ?_) (fun j143_50 qj143_50 => ?_)
              · refine z_iconst (pc := 143) dX10_family_143 ic_1 (z_goto (pc := 144) (tgt := 163) dX10_family_144 (by decide) (?_))
                exact qj163_42 1 h51
              refine z_if_lt (pc := 133) (tgt := 143) dX10_family_133 (by decide) ?_ ?_
              · exact z_sub [0, 1, 2, 3, 4, 6, 7] rfl (qj143_50 h40)
              · refine z_iload (pc := 136) dX10_family_136 7 rfl (z_iload (pc := 138) dX10_family_138 4 rfl (?_))
                refine z_icmp_ge (pc := 140) (tgt := 147) dX10_family_140 (by decide) ?_ ?_
                · refine z_iload (pc := 147) dX10_family_147 7 rfl (z_iload (pc := 149) dX10_family_149 4 rfl (?_))
                  refine z_icmp_ne (pc := 151) (tgt := 161) dX10_family_151 (by decide) ?_ ?_
                  · refine z_iload (pc := 161) dX10_family_161 5 rfl (?_)
                    exact z_sub [0, 1, 2, 3, 4, 6, 7] rfl (qj163_42 x19 h40)
                  · refine z_iload (pc := 154) dX10_family_154 5 rfl (z_iconst (pc := 156) dX10_family_156 ic_1 (z_iadd (pc := 157) dX10_family_157 (z_goto (pc := 158) (tgt := 163) dX10_family_158 (by decide) (?_))))
                    exact z_sub [0, 1, 2, 3, 4, 6, 7] rfl (qj163_42 (x19 + 1) h40)
                · exact z_sub [0, 1, 2, 3, 4, 6, 7] rfl (qj143_50 h40)
set_option maxRecDepth 20000 in
set_option maxHeartbeats 4000000 in
theorem g_X10_family_L47 (F : Nat) (a9 : Nat) (x10 : Int32) : ∀ (n : Nat) (x11 : Int32) (x12 : Int32) (h13 : z_Hp), z_G zi mi_X10_family 47 [(0, vr (some a9)), (1, vi x10), (3, vi x11), (4, vi x12)] [] h13 (c_X10_family_L47 F a9 x10 n x11 x12 h13) := by
  intro n
  induction n with
  | zero => intro x11 x12 h13; rw [c_X10_family_L47]; exact z_none
  | succ n ih =>
    intro x11 x12 h13
    rw [c_X10_family_L47]
    refine z_iload (pc := 47) dX10_family_47 3 rfl (z_aload_n (pc := 49) dX10_family_49 rfl 0 rfl (z_getI (pc := 50) fl_RX10_262 rfl dX10_family_50 (?_)))
    refine z_icmp_ge (pc := 53) (tgt := 233) dX10_family_53 (by decide) ?_ ?_
    · refine z_iload_n (pc := 233) dX10_family_233 rfl 2 rfl (?_)
      exact z_iret (pc := 234) dX10_family_234 rfl rfl
    · refine z_bipush (pc := 56) dX10_family_56 bp_m9 (z_istore (pc := 58) (L' := [(0, vr (some a9)), (1, vi x10), (3, vi x11), (4, vi x12), (5, vi (-9))]) dX10_family_58 (Nat.le_of_ble_eq_true rfl) rfl (z_iconst (pc := 60) dX10_family_60 ic_0 (z_istore (pc := 61) (L' := [(0, vr (some a9)), (1, vi x10), (3, vi x11), (4, vi x12), (5, vi (-9)), (6, vi 0)]) dX10_family_61 (Nat.le_of_ble_eq_true rfl) rfl (z_iconst (pc := 63) dX10_family_63 ic_0 (z_istore (pc := 64) (L' := [(0, vr (some a9)), (1, vi x10), (3, vi x11), (4, vi x12), (5, vi (-9)), (6, vi 0), (7, vi 0)]) dX10_family_64 (Nat.le_of_ble_eq_true rfl) rfl (?_))))))
      refine g_X10_family_L66 F a9 x10 x11 x12 _ (fun x52 x53 h54 => ?_) F (-9) 0 0 h13
      refine z_iload_n (pc := 192) dX10_family_192 rfl 2 rfl (z_iload (pc := 193) dX10_family_193 4 rfl (?_))
      refine z_jn (P := fun (j : Int32 → z_Hp → Option (Int32 × z_Hp)) => ∀ (x56 : Int32) (h57 : z_Hp), z_G zi mi_X10_family 204 [(0, vr (some a9)), (1, vi x10), (4, vi x12), (5, vi x52), (6, vi x53)] [vi x56, vi x11] h57 (j x56 h57)) (fun x56 h57 => ?_) (fun j204_55 qj204_55 => ?_)
      · refine z_iadd (pc := 204) dX10_family_204 (z_istorel_n (pc := 205) (L' := fun x58 => [(0, vr (some a9)), (1, vi x10), (3, vi x58), (4, vi x12), (5, vi x52), (6, vi x53)]) dX10_family_205 rfl (Nat.le_of_ble_eq_true rfl) (fun _ => rfl) (fun x58 => (z_aload_n (pc := 206) dX10_family_206 rfl 0 rfl (z_dup (pc := 207) dX10_family_207 rfl (z_getJ (pc := 208) fl_RX10_322 rfl dX10_family_208 (z_iload (pc := 211) dX10_family_211 4 rfl (?_)))))))
        refine z_jn (P := fun (j : Int64 → z_Hp → Option (Int32 × z_Hp)) => ∀ (y60 : Int64) (h61 : z_Hp), z_G zi mi_X10_family 223 [(0, vr (some a9)), (1, vi x10), (3, vi x58), (4, vi x12)] [vl y60, vl (hJ h57 a9 3), vr (some a9)] h61 (j y60 h61)) (fun y60 h61 => ?_) (fun j223_59 qj223_59 => ?_)
        · refine z_lmul (pc := 223) dX10_family_223 (z_putJl (pc := 224) fl_RX10_322 (fin_X_10_3 _) rfl dX10_family_224 (fun h62 => (z_iincl (pc := 227) (L' := fun x63 => [(0, vr (some a9)), (1, vi x10), (3, vi x58), (4, vi x63)]) dX10_family_227 3 rfl ic_1 (Nat.le_of_ble_eq_true rfl) (fun _ => rfl) (fun x63 => (z_goto (pc := 230) (tgt := 47) dX10_family_230 (by decide) (?_))))))
          exact ih x58 x63 h62
        refine z_if_ge (pc := 213) (tgt := 220) dX10_family_213 (by decide) ?_ ?_
        · refine z_iload (pc := 220) dX10_family_220 5 rfl (z_i2l (pc := 222) dX10_family_222 (?_))
          exact z_sub [0, 1, 2, 3] rfl (qj223_59 ((x53 : Int32).toInt64) h57)
        · refine z_lconst (pc := 216) dX10_family_216 lc_1 (z_goto (pc := 217) (tgt := 223) dX10_family_217 (by decide) (?_))
          exact z_sub [0, 1, 2, 3] rfl (qj223_59 1 h57)
      refine z_if_ge (pc := 195) (tgt := 202) dX10_family_195 (by decide) ?_ ?_
      · refine z_iload (pc := 202) dX10_family_202 4 rfl (?_)
        exact z_sub [0, 1, 3, 4, 5] rfl (qj204_55 x52 h54)
      · refine z_iconst (pc := 198) dX10_family_198 ic_0 (z_goto (pc := 199) (tgt := 204) dX10_family_199 (by decide) (?_))
        exact z_sub [0, 1, 3, 4, 5] rfl (qj204_55 0 h54)
set_option maxRecDepth 20000 in
set_option maxHeartbeats 4000000 in
theorem t_X10_family (F : Nat) (a0 : Nat) (x1 : Int32) (h0 : z_Hp) : z_Ct zi mi_X10_family [vr (some a0), vi x1] h0 (c_X10_family F a0 x1 h0) := by
  refine z_entry (by decide) (Nat.le_of_ble_eq_true rfl) [(0, vr (some a0)), (1, vi x1)] rfl ?_
  unfold c_X10_family
  refine z_aload_n (pc := 0) dX10_family_0 rfl 0 rfl (z_iload_n (pc := 1) dX10_family_1 rfl 1 rfl (z_callV_I (pc := 2) (avs := [vi x1]) (st := []) rfl (q := (RX10, TX10, 62)) rfl rfl (t_X10_askedSet F a0 x1 h0) ky_X10_askedSet wm_X10_askedSet we_X10_askedSet wz_RX10_335 (rm_X10_family_X10_askedSet) (Nat.le_of_ble_eq_true rfl) dX10_family_2 (fun x3 h2 => (?_))))
  refine z_istore_n (pc := 5) (L' := [(0, vr (some a0)), (1, vi x1), (2, vi x3)]) dX10_family_5 rfl (Nat.le_of_ble_eq_true rfl) rfl (z_iload_n (pc := 6) dX10_family_6 rfl 2 rfl (?_))
  refine z_if_ge (pc := 7) (tgt := 12) dX10_family_7 (by decide) ?_ ?_
  · refine z_aload_n (pc := 12) dX10_family_12 rfl 0 rfl (z_iload_n (pc := 13) dX10_family_13 rfl 1 rfl (z_callV_I (pc := 14) (avs := [vi x1]) (st := []) rfl (q := (RX10, TX10, 62)) rfl rfl (t_X10_hasSongs F a0 x1 h2) ky_X10_hasSongs wm_X10_hasSongs we_X10_hasSongs wz_RX10_338 (rm_X10_family_X10_hasSongs) (Nat.le_of_ble_eq_true rfl) dX10_family_14 (fun x5 h4 => (?_))))
    refine z_if_ne (pc := 17) (tgt := 26) dX10_family_17 (by decide) ?_ ?_
    · refine z_aload_n (pc := 26) dX10_family_26 rfl 0 rfl (z_iconst (pc := 27) dX10_family_27 ic_0 (z_callV_I (pc := 28) (avs := [vi 0]) (st := []) rfl (q := (RX10, TX10, 62)) rfl rfl (t_X10_setYears F a0 0 h4) ky_X10_setYears wm_X10_setYears we_X10_setYears wz_RX10_325 (rm_X10_family_X10_setYears) (Nat.le_of_ble_eq_true rfl) dX10_family_28 (fun x7 h6 => (?_))))
      refine z_if_ne (pc := 31) (tgt := 37) dX10_family_31 (by decide) ?_ ?_
      · refine z_iconst (pc := 37) dX10_family_37 ic_0 (z_istore_n (pc := 38) (L' := [(0, vr (some a0)), (1, vi x1), (2, vi x3), (3, vi 0)]) dX10_family_38 rfl (Nat.le_of_ble_eq_true rfl) rfl (z_aload_n (pc := 39) dX10_family_39 rfl 0 rfl (z_lconst (pc := 40) dX10_family_40 lc_1 (z_putJl (pc := 41) fl_RX10_322 (fin_X_10_3 _) rfl dX10_family_41 (fun h8 => (z_iconst (pc := 44) dX10_family_44 ic_0 (z_istore (pc := 45) (L' := [(0, vr (some a0)), (1, vi x1), (2, vi x3), (3, vi 0), (4, vi 0)]) dX10_family_45 (Nat.le_of_ble_eq_true rfl) rfl (?_))))))))
        refine z_sub [0, 1, 3, 4] rfl (g_X10_family_L47 F a0 x1 F 0 0 h8)
      · refine z_bipush (pc := 34) dX10_family_34 bp_m4 (?_)
        exact z_iret (pc := 36) dX10_family_36 rfl rfl
    · refine z_aload_n (pc := 20) dX10_family_20 rfl 0 rfl (z_iconst (pc := 21) dX10_family_21 ic_1 (z_callV_I (pc := 22) (avs := [vi 1]) (st := []) rfl (q := (RX10, TX10, 62)) rfl rfl (t_X10_meets F a0 1 h4) ky_X10_meets wm_X10_meets we_X10_meets wz_RX10_174 (rm_X10_family_X10_meets) (Nat.le_of_ble_eq_true rfl) dX10_family_22 (fun x65 h64 => (?_))))
      exact z_iret (pc := 25) dX10_family_25 rfl rfl
  · refine z_iload_n (pc := 10) dX10_family_10 rfl 2 rfl (?_)
    exact z_iret (pc := 11) dX10_family_11 rfl rfl
theorem dX10_judge_0 : decode cX10_judge 0 = .ok (.iload_n 2, 1) := by decide +kernel
theorem dX10_judge_1 : decode cX10_judge 1 = .ok (.invokestatic 170, 3) := by decide +kernel
theorem dX10_judge_4 : decode cX10_judge 4 = .ok (.ifCond .ne 5, 3) := by decide +kernel
theorem dX10_judge_7 : decode cX10_judge 7 = .ok (.iconst (-1), 1) := by decide +kernel
theorem dX10_judge_8 : decode cX10_judge 8 = .ok (.ireturn, 1) := by decide +kernel
theorem dX10_judge_9 : decode cX10_judge 9 = .ok (.aload_n 0, 1) := by decide +kernel
theorem dX10_judge_10 : decode cX10_judge 10 = .ok (.iload_n 1, 1) := by decide +kernel
theorem dX10_judge_11 : decode cX10_judge 11 = .ok (.invokevirtual 335, 3) := by decide +kernel
theorem dX10_judge_14 : decode cX10_judge 14 = .ok (.istore_n 3, 1) := by decide +kernel
theorem dX10_judge_15 : decode cX10_judge 15 = .ok (.iload_n 3, 1) := by decide +kernel
theorem dX10_judge_16 : decode cX10_judge 16 = .ok (.ifCond .ge 5, 3) := by decide +kernel
theorem dX10_judge_19 : decode cX10_judge 19 = .ok (.iload_n 3, 1) := by decide +kernel
theorem dX10_judge_20 : decode cX10_judge 20 = .ok (.ireturn, 1) := by decide +kernel
theorem dX10_judge_21 : decode cX10_judge 21 = .ok (.aload_n 0, 1) := by decide +kernel
theorem dX10_judge_22 : decode cX10_judge 22 = .ok (.getfield 17, 3) := by decide +kernel
theorem dX10_judge_25 : decode cX10_judge 25 = .ok (.iload_n 2, 1) := by decide +kernel
theorem dX10_judge_26 : decode cX10_judge 26 = .ok (.iaload, 1) := by decide +kernel
theorem dX10_judge_27 : decode cX10_judge 27 = .ok (.ifCond .lt 11, 3) := by decide +kernel
theorem dX10_judge_30 : decode cX10_judge 30 = .ok (.aload_n 0, 1) := by decide +kernel
theorem dX10_judge_31 : decode cX10_judge 31 = .ok (.iload_n 1, 1) := by decide +kernel
theorem dX10_judge_32 : decode cX10_judge 32 = .ok (.invokevirtual 338, 3) := by decide +kernel
theorem dX10_judge_35 : decode cX10_judge 35 = .ok (.ifCond .ne 9, 3) := by decide +kernel
theorem dX10_judge_38 : decode cX10_judge 38 = .ok (.aload_n 0, 1) := by decide +kernel
theorem dX10_judge_39 : decode cX10_judge 39 = .ok (.iconst 1, 1) := by decide +kernel
theorem dX10_judge_40 : decode cX10_judge 40 = .ok (.invokevirtual 174, 3) := by decide +kernel
theorem dX10_judge_43 : decode cX10_judge 43 = .ok (.ireturn, 1) := by decide +kernel
theorem dX10_judge_44 : decode cX10_judge 44 = .ok (.aload_n 0, 1) := by decide +kernel
theorem dX10_judge_45 : decode cX10_judge 45 = .ok (.getfield 17, 3) := by decide +kernel
theorem dX10_judge_48 : decode cX10_judge 48 = .ok (.iload_n 2, 1) := by decide +kernel
theorem dX10_judge_49 : decode cX10_judge 49 = .ok (.iaload, 1) := by decide +kernel
theorem dX10_judge_50 : decode cX10_judge 50 = .ok (.iload_n 1, 1) := by decide +kernel
theorem dX10_judge_51 : decode cX10_judge 51 = .ok (.invokestatic 279, 3) := by decide +kernel
theorem dX10_judge_54 : decode cX10_judge 54 = .ok (.if_icmp .eq 9, 3) := by decide +kernel
theorem dX10_judge_57 : decode cX10_judge 57 = .ok (.aload_n 0, 1) := by decide +kernel
theorem dX10_judge_58 : decode cX10_judge 58 = .ok (.iconst 5, 1) := by decide +kernel
theorem dX10_judge_59 : decode cX10_judge 59 = .ok (.invokevirtual 174, 3) := by decide +kernel
theorem dX10_judge_62 : decode cX10_judge 62 = .ok (.ireturn, 1) := by decide +kernel
theorem dX10_judge_63 : decode cX10_judge 63 = .ok (.aload_n 0, 1) := by decide +kernel
theorem dX10_judge_64 : decode cX10_judge 64 = .ok (.iconst 0, 1) := by decide +kernel
theorem dX10_judge_65 : decode cX10_judge 65 = .ok (.invokevirtual 325, 3) := by decide +kernel
theorem dX10_judge_68 : decode cX10_judge 68 = .ok (.ifCond .ne 6, 3) := by decide +kernel
theorem dX10_judge_71 : decode cX10_judge 71 = .ok (.bipush (-4), 2) := by decide +kernel
theorem dX10_judge_73 : decode cX10_judge 73 = .ok (.ireturn, 1) := by decide +kernel
theorem dX10_judge_74 : decode cX10_judge 74 = .ok (.bipush (-9), 2) := by decide +kernel
theorem dX10_judge_76 : decode cX10_judge 76 = .ok (.istore 4, 2) := by decide +kernel
theorem dX10_judge_78 : decode cX10_judge 78 = .ok (.iconst 0, 1) := by decide +kernel
theorem dX10_judge_79 : decode cX10_judge 79 = .ok (.istore 5, 2) := by decide +kernel
theorem dX10_judge_81 : decode cX10_judge 81 = .ok (.iload 5, 2) := by decide +kernel
theorem dX10_judge_83 : decode cX10_judge 83 = .ok (.aload_n 0, 1) := by decide +kernel
theorem dX10_judge_84 : decode cX10_judge 84 = .ok (.getfield 262, 3) := by decide +kernel
theorem dX10_judge_87 : decode cX10_judge 87 = .ok (.if_icmp .ge 43, 3) := by decide +kernel
theorem dX10_judge_90 : decode cX10_judge 90 = .ok (.iload_n 1, 1) := by decide +kernel
theorem dX10_judge_91 : decode cX10_judge 91 = .ok (.iload 5, 2) := by decide +kernel
theorem dX10_judge_93 : decode cX10_judge 93 = .ok (.invokestatic 312, 3) := by decide +kernel
theorem dX10_judge_96 : decode cX10_judge 96 = .ok (.ifCond .eq 24, 3) := by decide +kernel
theorem dX10_judge_99 : decode cX10_judge 99 = .ok (.iload 4, 2) := by decide +kernel
theorem dX10_judge_101 : decode cX10_judge 101 = .ok (.ifCond .lt 14, 3) := by decide +kernel
theorem dX10_judge_104 : decode cX10_judge 104 = .ok (.aload_n 0, 1) := by decide +kernel
theorem dX10_judge_105 : decode cX10_judge 105 = .ok (.iload 5, 2) := by decide +kernel
theorem dX10_judge_107 : decode cX10_judge 107 = .ok (.iload 4, 2) := by decide +kernel
theorem dX10_judge_109 : decode cX10_judge 109 = .ok (.invokevirtual 341, 3) := by decide +kernel
theorem dX10_judge_112 : decode cX10_judge 112 = .ok (.ifCond .eq 8, 3) := by decide +kernel
theorem dX10_judge_115 : decode cX10_judge 115 = .ok (.iload 5, 2) := by decide +kernel
theorem dX10_judge_117 : decode cX10_judge 117 = .ok (.goto 5, 3) := by decide +kernel
theorem dX10_judge_120 : decode cX10_judge 120 = .ok (.iload 4, 2) := by decide +kernel
theorem dX10_judge_122 : decode cX10_judge 122 = .ok (.istore 4, 2) := by decide +kernel
theorem dX10_judge_124 : decode cX10_judge 124 = .ok (.iinc 5 1, 3) := by decide +kernel
theorem dX10_judge_127 : decode cX10_judge 127 = .ok (.goto (-46), 3) := by decide +kernel
theorem dX10_judge_130 : decode cX10_judge 130 = .ok (.iconst 0, 1) := by decide +kernel
theorem dX10_judge_131 : decode cX10_judge 131 = .ok (.istore 5, 2) := by decide +kernel
theorem dX10_judge_133 : decode cX10_judge 133 = .ok (.iconst 0, 1) := by decide +kernel
theorem dX10_judge_134 : decode cX10_judge 134 = .ok (.istore 6, 2) := by decide +kernel
theorem dX10_judge_136 : decode cX10_judge 136 = .ok (.iconst 0, 1) := by decide +kernel
theorem dX10_judge_137 : decode cX10_judge 137 = .ok (.istore 7, 2) := by decide +kernel
theorem dX10_judge_139 : decode cX10_judge 139 = .ok (.iload 7, 2) := by decide +kernel
theorem dX10_judge_141 : decode cX10_judge 141 = .ok (.aload_n 0, 1) := by decide +kernel
theorem dX10_judge_142 : decode cX10_judge 142 = .ok (.getfield 262, 3) := by decide +kernel
theorem dX10_judge_145 : decode cX10_judge 145 = .ok (.if_icmp .ge 142, 3) := by decide +kernel
theorem dX10_judge_148 : decode cX10_judge 148 = .ok (.iload_n 1, 1) := by decide +kernel
theorem dX10_judge_149 : decode cX10_judge 149 = .ok (.iload 7, 2) := by decide +kernel
theorem dX10_judge_151 : decode cX10_judge 151 = .ok (.invokestatic 312, 3) := by decide +kernel
theorem dX10_judge_154 : decode cX10_judge 154 = .ok (.ifCond .eq 127, 3) := by decide +kernel
theorem dX10_judge_157 : decode cX10_judge 157 = .ok (.aload_n 0, 1) := by decide +kernel
theorem dX10_judge_158 : decode cX10_judge 158 = .ok (.getfield 20, 3) := by decide +kernel
theorem dX10_judge_161 : decode cX10_judge 161 = .ok (.bipush 40, 2) := by decide +kernel
theorem dX10_judge_163 : decode cX10_judge 163 = .ok (.iload_n 2, 1) := by decide +kernel
theorem dX10_judge_164 : decode cX10_judge 164 = .ok (.imul, 1) := by decide +kernel
theorem dX10_judge_165 : decode cX10_judge 165 = .ok (.iload 6, 2) := by decide +kernel
theorem dX10_judge_167 : decode cX10_judge 167 = .ok (.iadd, 1) := by decide +kernel
theorem dX10_judge_168 : decode cX10_judge 168 = .ok (.iaload, 1) := by decide +kernel
theorem dX10_judge_169 : decode cX10_judge 169 = .ok (.istore 8, 2) := by decide +kernel
theorem dX10_judge_171 : decode cX10_judge 171 = .ok (.iinc 6 1, 3) := by decide +kernel
theorem dX10_judge_174 : decode cX10_judge 174 = .ok (.iload 8, 2) := by decide +kernel
theorem dX10_judge_176 : decode cX10_judge 176 = .ok (.bipush (-9), 2) := by decide +kernel
theorem dX10_judge_178 : decode cX10_judge 178 = .ok (.if_icmp .ne 18, 3) := by decide +kernel
theorem dX10_judge_181 : decode cX10_judge 181 = .ok (.iload 7, 2) := by decide +kernel
theorem dX10_judge_183 : decode cX10_judge 183 = .ok (.iload 4, 2) := by decide +kernel
theorem dX10_judge_185 : decode cX10_judge 185 = .ok (.if_icmp .ne 7, 3) := by decide +kernel
theorem dX10_judge_188 : decode cX10_judge 188 = .ok (.iconst 1, 1) := by decide +kernel
theorem dX10_judge_189 : decode cX10_judge 189 = .ok (.goto 48, 3) := by decide +kernel
theorem dX10_judge_192 : decode cX10_judge 192 = .ok (.iconst 0, 1) := by decide +kernel
theorem dX10_judge_193 : decode cX10_judge 193 = .ok (.goto 44, 3) := by decide +kernel
theorem dX10_judge_196 : decode cX10_judge 196 = .ok (.aload_n 0, 1) := by decide +kernel
theorem dX10_judge_197 : decode cX10_judge 197 = .ok (.iload 8, 2) := by decide +kernel
theorem dX10_judge_199 : decode cX10_judge 199 = .ok (.invokevirtual 265, 3) := by decide +kernel
theorem dX10_judge_202 : decode cX10_judge 202 = .ok (.ifCond .eq 34, 3) := by decide +kernel
theorem dX10_judge_205 : decode cX10_judge 205 = .ok (.iload_n 1, 1) := by decide +kernel
theorem dX10_judge_206 : decode cX10_judge 206 = .ok (.iload 8, 2) := by decide +kernel
theorem dX10_judge_208 : decode cX10_judge 208 = .ok (.invokestatic 312, 3) := by decide +kernel
theorem dX10_judge_211 : decode cX10_judge 211 = .ok (.ifCond .eq 25, 3) := by decide +kernel
theorem dX10_judge_214 : decode cX10_judge 214 = .ok (.iload 8, 2) := by decide +kernel
theorem dX10_judge_216 : decode cX10_judge 216 = .ok (.iload 7, 2) := by decide +kernel
theorem dX10_judge_218 : decode cX10_judge 218 = .ok (.if_icmp .eq 18, 3) := by decide +kernel
theorem dX10_judge_221 : decode cX10_judge 221 = .ok (.aload_n 0, 1) := by decide +kernel
theorem dX10_judge_222 : decode cX10_judge 222 = .ok (.iload 8, 2) := by decide +kernel
theorem dX10_judge_224 : decode cX10_judge 224 = .ok (.iload 7, 2) := by decide +kernel
theorem dX10_judge_226 : decode cX10_judge 226 = .ok (.invokevirtual 341, 3) := by decide +kernel
theorem dX10_judge_229 : decode cX10_judge 229 = .ok (.ifCond .eq 7, 3) := by decide +kernel
theorem dX10_judge_232 : decode cX10_judge 232 = .ok (.iconst 1, 1) := by decide +kernel
theorem dX10_judge_233 : decode cX10_judge 233 = .ok (.goto 4, 3) := by decide +kernel
theorem dX10_judge_236 : decode cX10_judge 236 = .ok (.iconst 0, 1) := by decide +kernel
theorem dX10_judge_237 : decode cX10_judge 237 = .ok (.istore 9, 2) := by decide +kernel
theorem dX10_judge_239 : decode cX10_judge 239 = .ok (.iload 9, 2) := by decide +kernel
theorem dX10_judge_241 : decode cX10_judge 241 = .ok (.ifCond .ne 6, 3) := by decide +kernel
theorem dX10_judge_244 : decode cX10_judge 244 = .ok (.iload 7, 2) := by decide +kernel
theorem dX10_judge_246 : decode cX10_judge 246 = .ok (.ireturn, 1) := by decide +kernel
theorem dX10_judge_247 : decode cX10_judge 247 = .ok (.iload 5, 2) := by decide +kernel
theorem dX10_judge_249 : decode cX10_judge 249 = .ok (.iload 8, 2) := by decide +kernel
theorem dX10_judge_251 : decode cX10_judge 251 = .ok (.bipush (-9), 2) := by decide +kernel
theorem dX10_judge_253 : decode cX10_judge 253 = .ok (.if_icmp .ne 7, 3) := by decide +kernel
theorem dX10_judge_256 : decode cX10_judge 256 = .ok (.iconst 0, 1) := by decide +kernel
theorem dX10_judge_257 : decode cX10_judge 257 = .ok (.goto 21, 3) := by decide +kernel
theorem dX10_judge_260 : decode cX10_judge 260 = .ok (.aload_n 0, 1) := by decide +kernel
theorem dX10_judge_261 : decode cX10_judge 261 = .ok (.aload_n 0, 1) := by decide +kernel
theorem dX10_judge_262 : decode cX10_judge 262 = .ok (.getfield 74, 3) := by decide +kernel
theorem dX10_judge_265 : decode cX10_judge 265 = .ok (.iload 8, 2) := by decide +kernel
theorem dX10_judge_267 : decode cX10_judge 267 = .ok (.iaload, 1) := by decide +kernel
theorem dX10_judge_268 : decode cX10_judge 268 = .ok (.aload_n 0, 1) := by decide +kernel
theorem dX10_judge_269 : decode cX10_judge 269 = .ok (.getfield 74, 3) := by decide +kernel
theorem dX10_judge_272 : decode cX10_judge 272 = .ok (.iload 7, 2) := by decide +kernel
theorem dX10_judge_274 : decode cX10_judge 274 = .ok (.iaload, 1) := by decide +kernel
theorem dX10_judge_275 : decode cX10_judge 275 = .ok (.invokevirtual 332, 3) := by decide +kernel
theorem dX10_judge_278 : decode cX10_judge 278 = .ok (.iadd, 1) := by decide +kernel
theorem dX10_judge_279 : decode cX10_judge 279 = .ok (.istore 5, 2) := by decide +kernel
theorem dX10_judge_281 : decode cX10_judge 281 = .ok (.iinc 7 1, 3) := by decide +kernel
theorem dX10_judge_284 : decode cX10_judge 284 = .ok (.goto (-145), 3) := by decide +kernel
theorem dX10_judge_287 : decode cX10_judge 287 = .ok (.aload_n 0, 1) := by decide +kernel
theorem dX10_judge_288 : decode cX10_judge 288 = .ok (.iload 5, 2) := by decide +kernel
theorem dX10_judge_290 : decode cX10_judge 290 = .ok (.bipush (-9), 2) := by decide +kernel
theorem dX10_judge_292 : decode cX10_judge 292 = .ok (.invokevirtual 184, 3) := by decide +kernel
theorem dX10_judge_295 : decode cX10_judge 295 = .ok (.ireturn, 1) := by decide +kernel
def c_X10_judge_L81 (F : Nat) (a21 : Nat) (x22 : Int32) (x23 : Int32) (k130 : Int32 → z_Hp → Option (Int32 × z_Hp)) : Nat → Int32 → Int32 → z_Hp → Option (Int32 × z_Hp)
  | 0, _, _, _ => none
  | n + 1, x24, x25, h26 => (if hT h26 a21 = 10 then (if (hI h26 a21 26) ≤ x25 then (k130 x24 h26) else (bI (c_X10_has F x22 x25 h26) (fun x30 h29 => (lt_ (fun (x32 : Int32) (h33 : z_Hp) => (lt_ (x25 + 1) (fun x34 => (c_X10_judge_L81 F a21 x22 x23 k130 n x32 x34 h33)))) (fun (j122_31 : Int32 → z_Hp → Option (Int32 × z_Hp)) => (lt_ (fun (h36 : z_Hp) => (j122_31 x24 h36)) (fun (j120_35 : z_Hp → Option (Int32 × z_Hp)) => (if x30 = 0 then (j120_35 h29) else (lt_ (fun (h38 : z_Hp) => (j122_31 x25 h38)) (fun (j115_37 : z_Hp → Option (Int32 × z_Hp)) => (if x24 < 0 then (j115_37 h29) else (if hT h29 a21 = 10 then (bI (c_X10_comesAhead F a21 x25 x24 h29) (fun x40 h39 => (if x40 = 0 then (j120_35 h39) else (j115_37 h39)))) else none)))))))))))) else none)
def c_X10_judge_L139 (F : Nat) (a43 : Nat) (x44 : Int32) (x45 : Int32) (x46 : Int32) (k287 : Int32 → z_Hp → Option (Int32 × z_Hp)) : Nat → Int32 → Int32 → Int32 → z_Hp → Option (Int32 × z_Hp)
  | 0, _, _, _, _ => none
  | n + 1, x47, x48, x49, h50 => (if hT h50 a43 = 10 then (if (hI h50 a43 26) ≤ x49 then (k287 x47 h50) else (bI (c_X10_has F x44 x49 h50) (fun x54 h53 => (lt_ (fun (x56 : Int32) (x57 : Int32) (h58 : z_Hp) => (lt_ (x49 + 1) (fun x59 => (c_X10_judge_L139 F a43 x44 x45 x46 k287 n x56 x57 x59 h58)))) (fun (j281_55 : Int32 → Int32 → z_Hp → Option (Int32 × z_Hp)) => (if x54 = 0 then (j281_55 x47 x48 h53) else (if hT h53 a43 = 10 then (lt_ (hR h53 a43 8) (fun o60 => (nn o60 (fun a61 => (if okA h53 a61 20 ((40 * x45) + x48) = true then (lt_ (hI h53 a61 (ix ((40 * x45) + x48))) (fun x62 => (lt_ (x48 + 1) (fun x63 => (lt_ (fun (x65 : Int32) (h66 : z_Hp) => (if x65 = 0 then (some (x49, h66)) else (lt_ (fun (x68 : Int32) (h69 : z_Hp) => (lt_ (x47 + x68) (fun x70 => (j281_55 x70 x63 h69)))) (fun (j278_67 : Int32 → z_Hp → Option (Int32 × z_Hp)) => (if x62 = (-9) then (j278_67 0 h66) else (if hT h66 a43 = 10 then (lt_ (hR h66 a43 29) (fun o71 => (nn o71 (fun a72 => (if okA h66 a72 20 x62 = true then (if hT h66 a43 = 10 then (lt_ (hR h66 a43 29) (fun o73 => (nn o73 (fun a74 => (if okA h66 a74 20 x49 = true then (if hT h66 a43 = 10 then (bI (c_X10_changesOf F a43 (hI h66 a72 (ix x62)) (hI h66 a74 (ix x49)) h66) (fun x76 h75 => (j278_67 x76 h75))) else none) else none))))) else none) else none))))) else none)))))) (fun (j237_64 : Int32 → z_Hp → Option (Int32 × z_Hp)) => (if x62 = (-9) then (if x49 = x46 then (j237_64 1 h53) else (j237_64 0 h53)) else (if hT h53 a43 = 10 then (bI (c_X10_isSheet F a43 x62 h53) (fun x78 h77 => (lt_ (fun (h80 : z_Hp) => (j237_64 0 h80)) (fun (j236_79 : z_Hp → Option (Int32 × z_Hp)) => (if x78 = 0 then (j236_79 h77) else (bI (c_X10_has F x44 x62 h77) (fun x82 h81 => (if x82 = 0 then (j236_79 h81) else (if x62 = x49 then (j236_79 h81) else (if hT h81 a43 = 10 then (bI (c_X10_comesAhead F a43 x62 x49 h81) (fun x84 h83 => (if x84 = 0 then (j236_79 h83) else (j237_64 1 h83)))) else none)))))))))) else none)))))))) else none))))) else none))))))) else none)
def c_X10_judge (F : Nat) (a0 : Nat) (x1 : Int32) (x2 : Int32) (h0 : z_Hp) : Option (Int32 × z_Hp) := (bI (c_X10_isRow F x2 h0) (fun x4 h3 => (if x4 = 0 then (some ((-1), h3)) else (if hT h3 a0 = 10 then (bI (c_X10_askedSet F a0 x1 h3) (fun x6 h5 => (if 0 ≤ x6 then (if hT h5 a0 = 10 then (lt_ (hR h5 a0 7) (fun o7 => (nn o7 (fun a8 => (if okA h5 a8 20 x2 = true then (lt_ (fun (h10 : z_Hp) => (if hT h10 a0 = 10 then (bI (c_X10_meets F a0 1 h10) (fun x12 h11 => (some (x12, h11)))) else none)) (fun (j38_9 : z_Hp → Option (Int32 × z_Hp)) => (if (hI h5 a8 (ix x2)) < 0 then (j38_9 h5) else (if hT h5 a0 = 10 then (bI (c_X10_hasSongs F a0 x1 h5) (fun x14 h13 => (if x14 = 0 then (j38_9 h13) else (if hT h13 a0 = 10 then (lt_ (hR h13 a0 7) (fun o15 => (nn o15 (fun a16 => (if okA h13 a16 20 x2 = true then (bI (c_X10_bits F x1 h13) (fun x18 h17 => (if (hI h13 a16 (ix x2)) = x18 then (if hT h17 a0 = 10 then (bI (c_X10_setYears F a0 0 h17) (fun x20 h19 => (if x20 = 0 then (some ((-4), h19)) else (c_X10_judge_L81 F a0 x1 x2 (fun x41 h42 => (c_X10_judge_L139 F a0 x1 x2 x41 (fun x85 h86 => (if hT h86 a0 = 10 then (bI (c_X10_ask F a0 x85 (-9) h86) (fun x88 h87 => (some (x88, h87)))) else none)) F 0 0 0 h42)) F (-9) 0 h19)))) else none) else (if hT h17 a0 = 10 then (bI (c_X10_meets F a0 5 h17) (fun x90 h89 => (some (x90, h89)))) else none)))) else none))))) else none)))) else none)))) else none))))) else none) else (some (x6, h5))))) else none))))
set_option maxRecDepth 20000 in
set_option maxHeartbeats 4000000 in
theorem g_X10_judge_L81 (F : Nat) (a21 : Nat) (x22 : Int32) (x23 : Int32) (k130 : Int32 → z_Hp → Option (Int32 × z_Hp)) (qk130 : ∀ (x27 : Int32) (h28 : z_Hp), z_G zi mi_X10_judge 130 [(0, vr (some a21)), (1, vi x22), (2, vi x23), (4, vi x27)] [] h28 (k130 x27 h28)) : ∀ (n : Nat) (x24 : Int32) (x25 : Int32) (h26 : z_Hp), z_G zi mi_X10_judge 81 [(0, vr (some a21)), (1, vi x22), (2, vi x23), (4, vi x24), (5, vi x25)] [] h26 (c_X10_judge_L81 F a21 x22 x23 k130 n x24 x25 h26) := by
  intro n
  induction n with
  | zero => intro x24 x25 h26; rw [c_X10_judge_L81]; exact z_none
  | succ n ih =>
    intro x24 x25 h26
    rw [c_X10_judge_L81]
    refine z_iload (pc := 81) dX10_judge_81 4 rfl (z_aload_n (pc := 83) dX10_judge_83 rfl 0 rfl (z_getI (pc := 84) fl_RX10_262 rfl dX10_judge_84 (?_)))
    refine z_icmp_ge (pc := 87) (tgt := 130) dX10_judge_87 (by decide) ?_ ?_
    · exact z_sub [0, 1, 2, 3] rfl (qk130 x24 h26)
    · refine z_iload_n (pc := 90) dX10_judge_90 rfl 1 rfl (z_iload (pc := 91) dX10_judge_91 4 rfl (z_callS_I (pc := 93) (avs := [vi x22, vi x25]) (st := []) rfl (t_X10_has F x22 x25 h26) ky_X10_has ws_X10_has wz_RX10_312 (rm_X10_judge_X10_has) (Nat.le_of_ble_eq_true rfl) dX10_judge_93 (fun x30 h29 => (?_))))
      refine z_jn (P := fun (j : Int32 → z_Hp → Option (Int32 × z_Hp)) => ∀ (x32 : Int32) (h33 : z_Hp), z_G zi mi_X10_judge 122 [(0, vr (some a21)), (1, vi x22), (2, vi x23), (5, vi x25)] [vi x32] h33 (j x32 h33)) (fun x32 h33 => ?_) (fun j122_31 qj122_31 => ?_)
      · refine z_istore (pc := 122) (L' := [(0, vr (some a21)), (1, vi x22), (2, vi x23), (4, vi x32), (5, vi x25)]) dX10_judge_122 (Nat.le_of_ble_eq_true rfl) rfl (z_iincl (pc := 124) (L' := fun x34 => [(0, vr (some a21)), (1, vi x22), (2, vi x23), (4, vi x32), (5, vi x34)]) dX10_judge_124 4 rfl ic_1 (Nat.le_of_ble_eq_true rfl) (fun _ => rfl) (fun x34 => (z_goto (pc := 127) (tgt := 81) dX10_judge_127 (by decide) (?_))))
        exact ih x32 x34 h33
      refine z_jn (P := fun (j : z_Hp → Option (Int32 × z_Hp)) => ∀ (h36 : z_Hp), z_G zi mi_X10_judge 120 [(0, vr (some a21)), (1, vi x22), (2, vi x23), (4, vi x24), (5, vi x25)] [] h36 (j h36)) (fun h36 => ?_) (fun j120_35 qj120_35 => ?_)
      · refine z_iload (pc := 120) dX10_judge_120 3 rfl (?_)
        exact z_sub [0, 1, 2, 4] rfl (qj122_31 x24 h36)
      refine z_if_eq (pc := 96) (tgt := 120) dX10_judge_96 (by decide) ?_ ?_
      · exact qj120_35 h29
      · refine z_iload (pc := 99) dX10_judge_99 3 rfl (?_)
        refine z_jn (P := fun (j : z_Hp → Option (Int32 × z_Hp)) => ∀ (h38 : z_Hp), z_G zi mi_X10_judge 115 [(0, vr (some a21)), (1, vi x22), (2, vi x23), (5, vi x25)] [] h38 (j h38)) (fun h38 => ?_) (fun j115_37 qj115_37 => ?_)
        · refine z_iload (pc := 115) dX10_judge_115 3 rfl (z_goto (pc := 117) (tgt := 122) dX10_judge_117 (by decide) (?_))
          exact qj122_31 x25 h38
        refine z_if_lt (pc := 101) (tgt := 115) dX10_judge_101 (by decide) ?_ ?_
        · exact z_sub [0, 1, 2, 4] rfl (qj115_37 h29)
        · refine z_aload_n (pc := 104) dX10_judge_104 rfl 0 rfl (z_iload (pc := 105) dX10_judge_105 4 rfl (z_iload (pc := 107) dX10_judge_107 3 rfl (z_callV_I (pc := 109) (avs := [vi x25, vi x24]) (st := []) rfl (q := (RX10, TX10, 62)) rfl rfl (t_X10_comesAhead F a21 x25 x24 h29) ky_X10_comesAhead wm_X10_comesAhead we_X10_comesAhead wz_RX10_341 (rm_X10_judge_X10_comesAhead) (Nat.le_of_ble_eq_true rfl) dX10_judge_109 (fun x40 h39 => (?_)))))
          refine z_if_eq (pc := 112) (tgt := 120) dX10_judge_112 (by decide) ?_ ?_
          · exact qj120_35 h39
          · exact z_sub [0, 1, 2, 4] rfl (qj115_37 h39)
set_option maxRecDepth 20000 in
set_option maxHeartbeats 4000000 in
theorem g_X10_judge_L139 (F : Nat) (a43 : Nat) (x44 : Int32) (x45 : Int32) (x46 : Int32) (k287 : Int32 → z_Hp → Option (Int32 × z_Hp)) (qk287 : ∀ (x51 : Int32) (h52 : z_Hp), z_G zi mi_X10_judge 287 [(0, vr (some a43)), (5, vi x51)] [] h52 (k287 x51 h52)) : ∀ (n : Nat) (x47 : Int32) (x48 : Int32) (x49 : Int32) (h50 : z_Hp), z_G zi mi_X10_judge 139 [(0, vr (some a43)), (1, vi x44), (2, vi x45), (4, vi x46), (5, vi x47), (6, vi x48), (7, vi x49)] [] h50 (c_X10_judge_L139 F a43 x44 x45 x46 k287 n x47 x48 x49 h50) := by
  intro n
  induction n with
  | zero => intro x47 x48 x49 h50; rw [c_X10_judge_L139]; exact z_none
  | succ n ih =>
    intro x47 x48 x49 h50
    rw [c_X10_judge_L139]
    refine z_iload (pc := 139) dX10_judge_139 6 rfl (z_aload_n (pc := 141) dX10_judge_141 rfl 0 rfl (z_getI (pc := 142) fl_RX10_262 rfl dX10_judge_142 (?_)))
    refine z_icmp_ge (pc := 145) (tgt := 287) dX10_judge_145 (by decide) ?_ ?_
    · exact z_sub [0, 4] rfl (qk287 x47 h50)
    · refine z_iload_n (pc := 148) dX10_judge_148 rfl 1 rfl (z_iload (pc := 149) dX10_judge_149 6 rfl (z_callS_I (pc := 151) (avs := [vi x44, vi x49]) (st := []) rfl (t_X10_has F x44 x49 h50) ky_X10_has ws_X10_has wz_RX10_312 (rm_X10_judge_X10_has) (Nat.le_of_ble_eq_true rfl) dX10_judge_151 (fun x54 h53 => (?_))))
      refine z_jn (P := fun (j : Int32 → Int32 → z_Hp → Option (Int32 × z_Hp)) => ∀ (x56 : Int32) (x57 : Int32) (h58 : z_Hp), z_G zi mi_X10_judge 281 [(0, vr (some a43)), (1, vi x44), (2, vi x45), (4, vi x46), (5, vi x56), (6, vi x57), (7, vi x49)] [] h58 (j x56 x57 h58)) (fun x56 x57 h58 => ?_) (fun j281_55 qj281_55 => ?_)
      · refine z_iincl (pc := 281) (L' := fun x59 => [(0, vr (some a43)), (1, vi x44), (2, vi x45), (4, vi x46), (5, vi x56), (6, vi x57), (7, vi x59)]) dX10_judge_281 6 rfl ic_1 (Nat.le_of_ble_eq_true rfl) (fun _ => rfl) (fun x59 => (z_goto (pc := 284) (tgt := 139) dX10_judge_284 (by decide) (?_)))
        exact ih x56 x57 x59 h58
      refine z_if_eq (pc := 154) (tgt := 281) dX10_judge_154 (by decide) ?_ ?_
      · exact qj281_55 x47 x48 h53
      · refine z_aload_n (pc := 157) dX10_judge_157 rfl 0 rfl (z_getRl (pc := 158) fl_RX10_20 rfl dX10_judge_158 (fun o60 => (z_bipush (pc := 161) dX10_judge_161 bp_40 (z_iload_n (pc := 163) dX10_judge_163 rfl 2 rfl (z_imul (pc := 164) dX10_judge_164 (z_iload (pc := 165) dX10_judge_165 5 rfl (z_iadd (pc := 167) dX10_judge_167 (?_))))))))
        refine z_nn (fun a61 ea61 => ?_)
        subst ea61
        refine z_iaload (pc := 168) dX10_judge_168 (z_istorel (pc := 169) (L' := fun x62 => [(0, vr (some a43)), (1, vi x44), (2, vi x45), (4, vi x46), (5, vi x47), (6, vi x48), (7, vi x49), (8, vi x62)]) dX10_judge_169 (Nat.le_of_ble_eq_true rfl) (fun _ => rfl) (fun x62 => (z_iincl (pc := 171) (L' := fun x63 => [(0, vr (some a43)), (1, vi x44), (2, vi x45), (4, vi x46), (5, vi x47), (6, vi x63), (7, vi x49), (8, vi x62)]) dX10_judge_171 5 rfl ic_1 (Nat.le_of_ble_eq_true rfl) (fun _ => rfl) (fun x63 => (z_iload (pc := 174) dX10_judge_174 7 rfl (z_bipush (pc := 176) dX10_judge_176 bp_m9 (?_)))))))
        refine z_jn (P := fun (j : Int32 → z_Hp → Option (Int32 × z_Hp)) => ∀ (x65 : Int32) (h66 : z_Hp), z_G zi mi_X10_judge 237 [(0, vr (some a43)), (1, vi x44), (2, vi x45), (4, vi x46), (5, vi x47), (6, vi x63), (7, vi x49), (8, vi x62)] [vi x65] h66 (j x65 h66)) (fun x65 h66 => ?_) (fun j237_64 qj237_64 => ?_)
        · refine z_istore (pc := 237) (L' := [(0, vr (some a43)), (1, vi x44), (2, vi x45), (4, vi x46), (5, vi x47), (6, vi x63), (7, vi x49), (8, vi x62), (9, vi x65)]) dX10_judge_237 (Nat.le_of_ble_eq_true rfl) rfl (z_iload (pc := 239) dX10_judge_239 8 rfl (?_))
          refine z_if_ne (pc := 241) (tgt := 247) dX10_judge_241 (by decide) ?_ ?_
          · refine z_iload (pc := 247) dX10_judge_247 4 rfl (z_iload (pc := 249) dX10_judge_249 7 rfl (z_bipush (pc := 251) dX10_judge_251 bp_m9 (?_)))
            refine z_jn (P := fun (j : Int32 → z_Hp → Option (Int32 × z_Hp)) => ∀ (x68 : Int32) (h69 : z_Hp), z_G zi mi_X10_judge 278 [(0, vr (some a43)), (1, vi x44), (2, vi x45), (4, vi x46), (6, vi x63), (7, vi x49)] [vi x68, vi x47] h69 (j x68 h69)) (fun x68 h69 => ?_) (fun j278_67 qj278_67 => ?_)
            · refine z_iadd (pc := 278) dX10_judge_278 (z_istorel (pc := 279) (L' := fun x70 => [(0, vr (some a43)), (1, vi x44), (2, vi x45), (4, vi x46), (5, vi x70), (6, vi x63), (7, vi x49)]) dX10_judge_279 (Nat.le_of_ble_eq_true rfl) (fun _ => rfl) (fun x70 => (?_)))
              exact qj281_55 x70 x63 h69
            refine z_icmp_ne (pc := 253) (tgt := 260) dX10_judge_253 (by decide) ?_ ?_
            · refine z_aload_n (pc := 260) dX10_judge_260 rfl 0 rfl (z_aload_n (pc := 261) dX10_judge_261 rfl 0 rfl (z_getRl (pc := 262) fl_RX10_74 rfl dX10_judge_262 (fun o71 => (z_iload (pc := 265) dX10_judge_265 7 rfl (?_)))))
              refine z_nn (fun a72 ea72 => ?_)
              subst ea72
              refine z_iaload (pc := 267) dX10_judge_267 (z_aload_n (pc := 268) dX10_judge_268 rfl 0 rfl (z_getRl (pc := 269) fl_RX10_74 rfl dX10_judge_269 (fun o73 => (z_iload (pc := 272) dX10_judge_272 6 rfl (?_)))))
              refine z_nn (fun a74 ea74 => ?_)
              subst ea74
              refine z_iaload (pc := 274) dX10_judge_274 (z_callV_I (pc := 275) (avs := [vi (hI h66 a72 (ix x62)), vi (hI h66 a74 (ix x49))]) (st := [vi x47]) rfl (q := (RX10, TX10, 62)) rfl rfl (t_X10_changesOf F a43 (hI h66 a72 (ix x62)) (hI h66 a74 (ix x49)) h66) ky_X10_changesOf wm_X10_changesOf we_X10_changesOf wz_RX10_332 (rm_X10_judge_X10_changesOf) (Nat.le_of_ble_eq_true rfl) dX10_judge_275 (fun x76 h75 => (?_)))
              exact z_sub [0, 1, 2, 3, 5, 6] rfl (qj278_67 x76 h75)
            · refine z_iconst (pc := 256) dX10_judge_256 ic_0 (z_goto (pc := 257) (tgt := 278) dX10_judge_257 (by decide) (?_))
              exact z_sub [0, 1, 2, 3, 5, 6] rfl (qj278_67 0 h66)
          · refine z_iload (pc := 244) dX10_judge_244 6 rfl (?_)
            exact z_iret (pc := 246) dX10_judge_246 rfl rfl
        refine z_icmp_ne (pc := 178) (tgt := 196) dX10_judge_178 (by decide) ?_ ?_
        · refine z_aload_n (pc := 196) dX10_judge_196 rfl 0 rfl (z_iload (pc := 197) dX10_judge_197 7 rfl (z_callV_I (pc := 199) (avs := [vi x62]) (st := []) rfl (q := (RX10, TX10, 62)) rfl rfl (t_X10_isSheet F a43 x62 h53) ky_X10_isSheet wm_X10_isSheet we_X10_isSheet wz_RX10_265 (rm_X10_judge_X10_isSheet) (Nat.le_of_ble_eq_true rfl) dX10_judge_199 (fun x78 h77 => (?_))))
          refine z_jn (P := fun (j : z_Hp → Option (Int32 × z_Hp)) => ∀ (h80 : z_Hp), z_G zi mi_X10_judge 236 [(0, vr (some a43)), (1, vi x44), (2, vi x45), (4, vi x46), (5, vi x47), (6, vi x63), (7, vi x49), (8, vi x62)] [] h80 (j h80)) (fun h80 => ?_) (fun j236_79 qj236_79 => ?_)
          · refine z_iconst (pc := 236) dX10_judge_236 ic_0 (?_)
            exact qj237_64 0 h80
          refine z_if_eq (pc := 202) (tgt := 236) dX10_judge_202 (by decide) ?_ ?_
          · exact qj236_79 h77
          · refine z_iload_n (pc := 205) dX10_judge_205 rfl 1 rfl (z_iload (pc := 206) dX10_judge_206 7 rfl (z_callS_I (pc := 208) (avs := [vi x44, vi x62]) (st := []) rfl (t_X10_has F x44 x62 h77) ky_X10_has ws_X10_has wz_RX10_312 (rm_X10_judge_X10_has) (Nat.le_of_ble_eq_true rfl) dX10_judge_208 (fun x82 h81 => (?_))))
            refine z_if_eq (pc := 211) (tgt := 236) dX10_judge_211 (by decide) ?_ ?_
            · exact qj236_79 h81
            · refine z_iload (pc := 214) dX10_judge_214 7 rfl (z_iload (pc := 216) dX10_judge_216 6 rfl (?_))
              refine z_icmp_eq (pc := 218) (tgt := 236) dX10_judge_218 (by decide) ?_ ?_
              · exact qj236_79 h81
              · refine z_aload_n (pc := 221) dX10_judge_221 rfl 0 rfl (z_iload (pc := 222) dX10_judge_222 7 rfl (z_iload (pc := 224) dX10_judge_224 6 rfl (z_callV_I (pc := 226) (avs := [vi x62, vi x49]) (st := []) rfl (q := (RX10, TX10, 62)) rfl rfl (t_X10_comesAhead F a43 x62 x49 h81) ky_X10_comesAhead wm_X10_comesAhead we_X10_comesAhead wz_RX10_341 (rm_X10_judge_X10_comesAhead) (Nat.le_of_ble_eq_true rfl) dX10_judge_226 (fun x84 h83 => (?_)))))
                refine z_if_eq (pc := 229) (tgt := 236) dX10_judge_229 (by decide) ?_ ?_
                · exact qj236_79 h83
                · refine z_iconst (pc := 232) dX10_judge_232 ic_1 (z_goto (pc := 233) (tgt := 237) dX10_judge_233 (by decide) (?_))
                  exact qj237_64 1 h83
        · refine z_iload (pc := 181) dX10_judge_181 6 rfl (z_iload (pc := 183) dX10_judge_183 3 rfl (?_))
          refine z_icmp_ne (pc := 185) (tgt := 192) dX10_judge_185 (by decide) ?_ ?_
          · refine z_iconst (pc := 192) dX10_judge_192 ic_0 (z_goto (pc := 193) (tgt := 237) dX10_judge_193 (by decide) (?_))
            exact qj237_64 0 h53
          · refine z_iconst (pc := 188) dX10_judge_188 ic_1 (z_goto (pc := 189) (tgt := 237) dX10_judge_189 (by decide) (?_))
            exact qj237_64 1 h53
set_option maxRecDepth 20000 in
set_option maxHeartbeats 4000000 in
theorem t_X10_judge (F : Nat) (a0 : Nat) (x1 : Int32) (x2 : Int32) (h0 : z_Hp) : z_Ct zi mi_X10_judge [vr (some a0), vi x1, vi x2] h0 (c_X10_judge F a0 x1 x2 h0) := by
  refine z_entry (by decide) (Nat.le_of_ble_eq_true rfl) [(0, vr (some a0)), (1, vi x1), (2, vi x2)] rfl ?_
  unfold c_X10_judge
  refine z_iload_n (pc := 0) dX10_judge_0 rfl 2 rfl (z_callS_I (pc := 1) (avs := [vi x2]) (st := []) rfl (t_X10_isRow F x2 h0) ky_X10_isRow ws_X10_isRow wz_RX10_170 (rm_X10_judge_X10_isRow) (Nat.le_of_ble_eq_true rfl) dX10_judge_1 (fun x4 h3 => (?_)))
  refine z_if_ne (pc := 4) (tgt := 9) dX10_judge_4 (by decide) ?_ ?_
  · refine z_aload_n (pc := 9) dX10_judge_9 rfl 0 rfl (z_iload_n (pc := 10) dX10_judge_10 rfl 1 rfl (z_callV_I (pc := 11) (avs := [vi x1]) (st := []) rfl (q := (RX10, TX10, 62)) rfl rfl (t_X10_askedSet F a0 x1 h3) ky_X10_askedSet wm_X10_askedSet we_X10_askedSet wz_RX10_335 (rm_X10_judge_X10_askedSet) (Nat.le_of_ble_eq_true rfl) dX10_judge_11 (fun x6 h5 => (?_))))
    refine z_istore_n (pc := 14) (L' := [(0, vr (some a0)), (1, vi x1), (2, vi x2), (3, vi x6)]) dX10_judge_14 rfl (Nat.le_of_ble_eq_true rfl) rfl (z_iload_n (pc := 15) dX10_judge_15 rfl 3 rfl (?_))
    refine z_if_ge (pc := 16) (tgt := 21) dX10_judge_16 (by decide) ?_ ?_
    · refine z_aload_n (pc := 21) dX10_judge_21 rfl 0 rfl (z_getRl (pc := 22) fl_RX10_17 rfl dX10_judge_22 (fun o7 => (z_iload_n (pc := 25) dX10_judge_25 rfl 2 rfl (?_))))
      refine z_nn (fun a8 ea8 => ?_)
      subst ea8
      refine z_iaload (pc := 26) dX10_judge_26 (?_)
      refine z_jn (P := fun (j : z_Hp → Option (Int32 × z_Hp)) => ∀ (h10 : z_Hp), z_G zi mi_X10_judge 38 [(0, vr (some a0))] [] h10 (j h10)) (fun h10 => ?_) (fun j38_9 qj38_9 => ?_)
      · refine z_aload_n (pc := 38) dX10_judge_38 rfl 0 rfl (z_iconst (pc := 39) dX10_judge_39 ic_1 (z_callV_I (pc := 40) (avs := [vi 1]) (st := []) rfl (q := (RX10, TX10, 62)) rfl rfl (t_X10_meets F a0 1 h10) ky_X10_meets wm_X10_meets we_X10_meets wz_RX10_174 (rm_X10_judge_X10_meets) (Nat.le_of_ble_eq_true rfl) dX10_judge_40 (fun x12 h11 => (?_))))
        exact z_iret (pc := 43) dX10_judge_43 rfl rfl
      refine z_if_lt (pc := 27) (tgt := 38) dX10_judge_27 (by decide) ?_ ?_
      · exact z_sub [0] rfl (qj38_9 h5)
      · refine z_aload_n (pc := 30) dX10_judge_30 rfl 0 rfl (z_iload_n (pc := 31) dX10_judge_31 rfl 1 rfl (z_callV_I (pc := 32) (avs := [vi x1]) (st := []) rfl (q := (RX10, TX10, 62)) rfl rfl (t_X10_hasSongs F a0 x1 h5) ky_X10_hasSongs wm_X10_hasSongs we_X10_hasSongs wz_RX10_338 (rm_X10_judge_X10_hasSongs) (Nat.le_of_ble_eq_true rfl) dX10_judge_32 (fun x14 h13 => (?_))))
        refine z_if_ne (pc := 35) (tgt := 44) dX10_judge_35 (by decide) ?_ ?_
        · refine z_aload_n (pc := 44) dX10_judge_44 rfl 0 rfl (z_getRl (pc := 45) fl_RX10_17 rfl dX10_judge_45 (fun o15 => (z_iload_n (pc := 48) dX10_judge_48 rfl 2 rfl (?_))))
          refine z_nn (fun a16 ea16 => ?_)
          subst ea16
          refine z_iaload (pc := 49) dX10_judge_49 (z_iload_n (pc := 50) dX10_judge_50 rfl 1 rfl (z_callS_I (pc := 51) (avs := [vi x1]) (st := [vi (hI h13 a16 (ix x2))]) rfl (t_X10_bits F x1 h13) ky_X10_bits ws_X10_bits wz_RX10_279 (rm_X10_judge_X10_bits) (Nat.le_of_ble_eq_true rfl) dX10_judge_51 (fun x18 h17 => (?_))))
          refine z_icmp_eq (pc := 54) (tgt := 63) dX10_judge_54 (by decide) ?_ ?_
          · refine z_aload_n (pc := 63) dX10_judge_63 rfl 0 rfl (z_iconst (pc := 64) dX10_judge_64 ic_0 (z_callV_I (pc := 65) (avs := [vi 0]) (st := []) rfl (q := (RX10, TX10, 62)) rfl rfl (t_X10_setYears F a0 0 h17) ky_X10_setYears wm_X10_setYears we_X10_setYears wz_RX10_325 (rm_X10_judge_X10_setYears) (Nat.le_of_ble_eq_true rfl) dX10_judge_65 (fun x20 h19 => (?_))))
            refine z_if_ne (pc := 68) (tgt := 74) dX10_judge_68 (by decide) ?_ ?_
            · refine z_bipush (pc := 74) dX10_judge_74 bp_m9 (z_istore (pc := 76) (L' := [(0, vr (some a0)), (1, vi x1), (2, vi x2), (3, vi x6), (4, vi (-9))]) dX10_judge_76 (Nat.le_of_ble_eq_true rfl) rfl (z_iconst (pc := 78) dX10_judge_78 ic_0 (z_istore (pc := 79) (L' := [(0, vr (some a0)), (1, vi x1), (2, vi x2), (3, vi x6), (4, vi (-9)), (5, vi 0)]) dX10_judge_79 (Nat.le_of_ble_eq_true rfl) rfl (?_))))
              refine z_sub [0, 1, 2, 4, 5] rfl (g_X10_judge_L81 F a0 x1 x2 _ (fun x41 h42 => ?_) F (-9) 0 h19)
              refine z_iconst (pc := 130) dX10_judge_130 ic_0 (z_istore (pc := 131) (L' := [(0, vr (some a0)), (1, vi x1), (2, vi x2), (4, vi x41), (5, vi 0)]) dX10_judge_131 (Nat.le_of_ble_eq_true rfl) rfl (z_iconst (pc := 133) dX10_judge_133 ic_0 (z_istore (pc := 134) (L' := [(0, vr (some a0)), (1, vi x1), (2, vi x2), (4, vi x41), (5, vi 0), (6, vi 0)]) dX10_judge_134 (Nat.le_of_ble_eq_true rfl) rfl (z_iconst (pc := 136) dX10_judge_136 ic_0 (z_istore (pc := 137) (L' := [(0, vr (some a0)), (1, vi x1), (2, vi x2), (4, vi x41), (5, vi 0), (6, vi 0), (7, vi 0)]) dX10_judge_137 (Nat.le_of_ble_eq_true rfl) rfl (?_))))))
              refine g_X10_judge_L139 F a0 x1 x2 x41 _ (fun x85 h86 => ?_) F 0 0 0 h42
              refine z_aload_n (pc := 287) dX10_judge_287 rfl 0 rfl (z_iload (pc := 288) dX10_judge_288 1 rfl (z_bipush (pc := 290) dX10_judge_290 bp_m9 (z_callV_I (pc := 292) (avs := [vi x85, vi (-9)]) (st := []) rfl (q := (RX10, TX10, 62)) rfl rfl (t_X10_ask F a0 x85 (-9) h86) ky_X10_ask wm_X10_ask we_X10_ask wz_RX10_184 (rm_X10_judge_X10_ask) (Nat.le_of_ble_eq_true rfl) dX10_judge_292 (fun x88 h87 => (?_)))))
              exact z_iret (pc := 295) dX10_judge_295 rfl rfl
            · refine z_bipush (pc := 71) dX10_judge_71 bp_m4 (?_)
              exact z_iret (pc := 73) dX10_judge_73 rfl rfl
          · refine z_aload_n (pc := 57) dX10_judge_57 rfl 0 rfl (z_iconst (pc := 58) dX10_judge_58 ic_5 (z_callV_I (pc := 59) (avs := [vi 5]) (st := []) rfl (q := (RX10, TX10, 62)) rfl rfl (t_X10_meets F a0 5 h17) ky_X10_meets wm_X10_meets we_X10_meets wz_RX10_174 (rm_X10_judge_X10_meets) (Nat.le_of_ble_eq_true rfl) dX10_judge_59 (fun x90 h89 => (?_))))
            exact z_iret (pc := 62) dX10_judge_62 rfl rfl
        · exact z_sub [0] rfl (qj38_9 h13)
    · refine z_iload_n (pc := 19) dX10_judge_19 rfl 3 rfl (?_)
      exact z_iret (pc := 20) dX10_judge_20 rfl rfl
  · refine z_iconst (pc := 7) dX10_judge_7 ic_m1 (?_)
    exact z_iret (pc := 8) dX10_judge_8 rfl rfl
theorem dX10_choose_0 : decode cX10_choose 0 = .ok (.iload_n 1, 1) := by decide +kernel
theorem dX10_choose_1 : decode cX10_choose 1 = .ok (.iconst 0, 1) := by decide +kernel
theorem dX10_choose_2 : decode cX10_choose 2 = .ok (.iload_n 0, 1) := by decide +kernel
theorem dX10_choose_3 : decode cX10_choose 3 = .ok (.invokestatic 166, 3) := by decide +kernel
theorem dX10_choose_6 : decode cX10_choose 6 = .ok (.ifCond .ne 5, 3) := by decide +kernel
theorem dX10_choose_9 : decode cX10_choose 9 = .ok (.lconst 0, 1) := by decide +kernel
theorem dX10_choose_10 : decode cX10_choose 10 = .ok (.lreturn, 1) := by decide +kernel
theorem dX10_choose_11 : decode cX10_choose 11 = .ok (.lconst 1, 1) := by decide +kernel
theorem dX10_choose_12 : decode cX10_choose 12 = .ok (.lstore_n 2, 1) := by decide +kernel
theorem dX10_choose_13 : decode cX10_choose 13 = .ok (.iconst 1, 1) := by decide +kernel
theorem dX10_choose_14 : decode cX10_choose 14 = .ok (.istore 4, 2) := by decide +kernel
theorem dX10_choose_16 : decode cX10_choose 16 = .ok (.iload 4, 2) := by decide +kernel
theorem dX10_choose_18 : decode cX10_choose 18 = .ok (.iload_n 1, 1) := by decide +kernel
theorem dX10_choose_19 : decode cX10_choose 19 = .ok (.if_icmp .gt 23, 3) := by decide +kernel
theorem dX10_choose_22 : decode cX10_choose 22 = .ok (.lload_n 2, 1) := by decide +kernel
theorem dX10_choose_23 : decode cX10_choose 23 = .ok (.iload_n 0, 1) := by decide +kernel
theorem dX10_choose_24 : decode cX10_choose 24 = .ok (.iload_n 1, 1) := by decide +kernel
theorem dX10_choose_25 : decode cX10_choose 25 = .ok (.isub, 1) := by decide +kernel
theorem dX10_choose_26 : decode cX10_choose 26 = .ok (.iload 4, 2) := by decide +kernel
theorem dX10_choose_28 : decode cX10_choose 28 = .ok (.iadd, 1) := by decide +kernel
theorem dX10_choose_29 : decode cX10_choose 29 = .ok (.i2l, 1) := by decide +kernel
theorem dX10_choose_30 : decode cX10_choose 30 = .ok (.lmul, 1) := by decide +kernel
theorem dX10_choose_31 : decode cX10_choose 31 = .ok (.iload 4, 2) := by decide +kernel
theorem dX10_choose_33 : decode cX10_choose 33 = .ok (.i2l, 1) := by decide +kernel
theorem dX10_choose_34 : decode cX10_choose 34 = .ok (.ldiv, 1) := by decide +kernel
theorem dX10_choose_35 : decode cX10_choose 35 = .ok (.lstore_n 2, 1) := by decide +kernel
theorem dX10_choose_36 : decode cX10_choose 36 = .ok (.iinc 4 1, 3) := by decide +kernel
theorem dX10_choose_39 : decode cX10_choose 39 = .ok (.goto (-23), 3) := by decide +kernel
theorem dX10_choose_42 : decode cX10_choose 42 = .ok (.lload_n 2, 1) := by decide +kernel
theorem dX10_choose_43 : decode cX10_choose 43 = .ok (.lreturn, 1) := by decide +kernel
def c_X10_choose_L16 (F : Nat) (x5 : Int32) (x6 : Int32) : Nat → Int64 → Int32 → z_Hp → Option (Int64 × z_Hp)
  | 0, _, _, _ => none
  | n + 1, y7, x8, h9 => (if x6 < x8 then (some (y7, h9)) else (if ((x8 : Int32).toInt64) = 0 then none else (lt_ ((y7 * (((x5 - x6) + x8 : Int32).toInt64)) / ((x8 : Int32).toInt64)) (fun y10 => (lt_ (x8 + 1) (fun x11 => (c_X10_choose_L16 F x5 x6 n y10 x11 h9)))))))
def c_X10_choose (F : Nat) (x1 : Int32) (x2 : Int32) (h0 : z_Hp) : Option (Int64 × z_Hp) := (bI (c_X10_in F x2 0 x1 h0) (fun x4 h3 => (if x4 = 0 then (some (0, h3)) else (c_X10_choose_L16 F x1 x2 F 1 1 h3))))
set_option maxRecDepth 20000 in
set_option maxHeartbeats 4000000 in
theorem g_X10_choose_L16 (F : Nat) (x5 : Int32) (x6 : Int32) : ∀ (n : Nat) (y7 : Int64) (x8 : Int32) (h9 : z_Hp), z_G zl mi_X10_choose 16 [(0, vi x5), (1, vi x6), (2, vl y7), (4, vi x8)] [] h9 (c_X10_choose_L16 F x5 x6 n y7 x8 h9) := by
  intro n
  induction n with
  | zero => intro y7 x8 h9; rw [c_X10_choose_L16]; exact z_none
  | succ n ih =>
    intro y7 x8 h9
    rw [c_X10_choose_L16]
    refine z_iload (pc := 16) dX10_choose_16 3 rfl (z_iload_n (pc := 18) dX10_choose_18 rfl 1 rfl (?_))
    refine z_icmp_gt (pc := 19) (tgt := 42) dX10_choose_19 (by decide) ?_ ?_
    · refine z_lload_n (pc := 42) dX10_choose_42 rfl 2 rfl (?_)
      exact z_lret (pc := 43) dX10_choose_43 rfl
    · refine z_lload_n (pc := 22) dX10_choose_22 rfl 2 rfl (z_iload_n (pc := 23) dX10_choose_23 rfl 0 rfl (z_iload_n (pc := 24) dX10_choose_24 rfl 1 rfl (z_isub (pc := 25) dX10_choose_25 (z_iload (pc := 26) dX10_choose_26 3 rfl (z_iadd (pc := 28) dX10_choose_28 (z_i2l (pc := 29) dX10_choose_29 (z_lmul (pc := 30) dX10_choose_30 (?_))))))))
      refine z_iload (pc := 31) dX10_choose_31 3 rfl (z_i2l (pc := 33) dX10_choose_33 (z_ldiv (pc := 34) dX10_choose_34 (z_lstorel_n (pc := 35) (L' := fun y10 => [(0, vi x5), (1, vi x6), (2, vl y10), (4, vi x8)]) dX10_choose_35 rfl (Nat.le_of_ble_eq_true rfl) (fun _ => rfl) (fun y10 => (z_iincl (pc := 36) (L' := fun x11 => [(0, vi x5), (1, vi x6), (2, vl y10), (4, vi x11)]) dX10_choose_36 3 rfl ic_1 (Nat.le_of_ble_eq_true rfl) (fun _ => rfl) (fun x11 => (z_goto (pc := 39) (tgt := 16) dX10_choose_39 (by decide) (?_))))))))
      exact ih y10 x11 h9
set_option maxRecDepth 20000 in
set_option maxHeartbeats 4000000 in
theorem t_X10_choose (F : Nat) (x1 : Int32) (x2 : Int32) (h0 : z_Hp) : z_Ct zl mi_X10_choose [vi x1, vi x2] h0 (c_X10_choose F x1 x2 h0) := by
  refine z_entry (by decide) (Nat.le_of_ble_eq_true rfl) [(0, vi x1), (1, vi x2)] rfl ?_
  unfold c_X10_choose
  refine z_iload_n (pc := 0) dX10_choose_0 rfl 1 rfl (z_iconst (pc := 1) dX10_choose_1 ic_0 (z_iload_n (pc := 2) dX10_choose_2 rfl 0 rfl (z_callS_I (pc := 3) (avs := [vi x2, vi 0, vi x1]) (st := []) rfl (t_X10_in F x2 0 x1 h0) ky_X10_in ws_X10_in wz_RX10_166 (rm_X10_choose_X10_in) (Nat.le_of_ble_eq_true rfl) dX10_choose_3 (fun x4 h3 => (?_)))))
  refine z_if_ne (pc := 6) (tgt := 11) dX10_choose_6 (by decide) ?_ ?_
  · refine z_lconst (pc := 11) dX10_choose_11 lc_1 (z_lstore_n (pc := 12) (L' := [(0, vi x1), (1, vi x2), (2, vl 1)]) dX10_choose_12 rfl (Nat.le_of_ble_eq_true rfl) rfl (z_iconst (pc := 13) dX10_choose_13 ic_1 (z_istore (pc := 14) (L' := [(0, vi x1), (1, vi x2), (2, vl 1), (4, vi 1)]) dX10_choose_14 (Nat.le_of_ble_eq_true rfl) rfl (?_))))
    refine g_X10_choose_L16 F x1 x2 F 1 1 h3
  · refine z_lconst (pc := 9) dX10_choose_9 lc_0 (?_)
    exact z_lret (pc := 10) dX10_choose_10 rfl
theorem dX10_taken_0 : decode cX10_taken 0 = .ok (.aload_n 0, 1) := by decide +kernel
theorem dX10_taken_1 : decode cX10_taken 1 = .ok (.iload_n 1, 1) := by decide +kernel
theorem dX10_taken_2 : decode cX10_taken 2 = .ok (.invokevirtual 265, 3) := by decide +kernel
theorem dX10_taken_5 : decode cX10_taken 5 = .ok (.ifCond .eq 16, 3) := by decide +kernel
theorem dX10_taken_8 : decode cX10_taken 8 = .ok (.aload_n 0, 1) := by decide +kernel
theorem dX10_taken_9 : decode cX10_taken 9 = .ok (.iload_n 2, 1) := by decide +kernel
theorem dX10_taken_10 : decode cX10_taken 10 = .ok (.invokevirtual 265, 3) := by decide +kernel
theorem dX10_taken_13 : decode cX10_taken 13 = .ok (.ifCond .eq 8, 3) := by decide +kernel
theorem dX10_taken_16 : decode cX10_taken 16 = .ok (.iload_n 1, 1) := by decide +kernel
theorem dX10_taken_17 : decode cX10_taken 17 = .ok (.iload_n 2, 1) := by decide +kernel
theorem dX10_taken_18 : decode cX10_taken 18 = .ok (.if_icmp .ne 5, 3) := by decide +kernel
theorem dX10_taken_21 : decode cX10_taken 21 = .ok (.iconst (-1), 1) := by decide +kernel
theorem dX10_taken_22 : decode cX10_taken 22 = .ok (.ireturn, 1) := by decide +kernel
theorem dX10_taken_23 : decode cX10_taken 23 = .ok (.aload_n 0, 1) := by decide +kernel
theorem dX10_taken_24 : decode cX10_taken 24 = .ok (.getfield 86, 3) := by decide +kernel
theorem dX10_taken_27 : decode cX10_taken 27 = .ok (.iload_n 1, 1) := by decide +kernel
theorem dX10_taken_28 : decode cX10_taken 28 = .ok (.iaload, 1) := by decide +kernel
theorem dX10_taken_29 : decode cX10_taken 29 = .ok (.invokestatic 279, 3) := by decide +kernel
theorem dX10_taken_32 : decode cX10_taken 32 = .ok (.istore_n 3, 1) := by decide +kernel
theorem dX10_taken_33 : decode cX10_taken 33 = .ok (.aload_n 0, 1) := by decide +kernel
theorem dX10_taken_34 : decode cX10_taken 34 = .ok (.getfield 86, 3) := by decide +kernel
theorem dX10_taken_37 : decode cX10_taken 37 = .ok (.iload_n 2, 1) := by decide +kernel
theorem dX10_taken_38 : decode cX10_taken 38 = .ok (.iaload, 1) := by decide +kernel
theorem dX10_taken_39 : decode cX10_taken 39 = .ok (.invokestatic 279, 3) := by decide +kernel
theorem dX10_taken_42 : decode cX10_taken 42 = .ok (.istore 4, 2) := by decide +kernel
theorem dX10_taken_44 : decode cX10_taken 44 = .ok (.lconst 0, 1) := by decide +kernel
theorem dX10_taken_45 : decode cX10_taken 45 = .ok (.lstore 5, 2) := by decide +kernel
theorem dX10_taken_47 : decode cX10_taken 47 = .ok (.aload_n 0, 1) := by decide +kernel
theorem dX10_taken_48 : decode cX10_taken 48 = .ok (.getfield 86, 3) := by decide +kernel
theorem dX10_taken_51 : decode cX10_taken 51 = .ok (.iload_n 1, 1) := by decide +kernel
theorem dX10_taken_52 : decode cX10_taken 52 = .ok (.iaload, 1) := by decide +kernel
theorem dX10_taken_53 : decode cX10_taken 53 = .ok (.aload_n 0, 1) := by decide +kernel
theorem dX10_taken_54 : decode cX10_taken 54 = .ok (.getfield 86, 3) := by decide +kernel
theorem dX10_taken_57 : decode cX10_taken 57 = .ok (.iload_n 2, 1) := by decide +kernel
theorem dX10_taken_58 : decode cX10_taken 58 = .ok (.iaload, 1) := by decide +kernel
theorem dX10_taken_59 : decode cX10_taken 59 = .ok (.iand, 1) := by decide +kernel
theorem dX10_taken_60 : decode cX10_taken 60 = .ok (.invokestatic 279, 3) := by decide +kernel
theorem dX10_taken_63 : decode cX10_taken 63 = .ok (.istore 7, 2) := by decide +kernel
theorem dX10_taken_65 : decode cX10_taken 65 = .ok (.iload 7, 2) := by decide +kernel
theorem dX10_taken_67 : decode cX10_taken 67 = .ok (.iload 4, 2) := by decide +kernel
theorem dX10_taken_69 : decode cX10_taken 69 = .ok (.if_icmp .gt 33, 3) := by decide +kernel
theorem dX10_taken_72 : decode cX10_taken 72 = .ok (.lload 5, 2) := by decide +kernel
theorem dX10_taken_74 : decode cX10_taken 74 = .ok (.iload_n 3, 1) := by decide +kernel
theorem dX10_taken_75 : decode cX10_taken 75 = .ok (.iload 7, 2) := by decide +kernel
theorem dX10_taken_77 : decode cX10_taken 77 = .ok (.invokestatic 344, 3) := by decide +kernel
theorem dX10_taken_80 : decode cX10_taken 80 = .ok (.bipush 16, 2) := by decide +kernel
theorem dX10_taken_82 : decode cX10_taken 82 = .ok (.iload_n 3, 1) := by decide +kernel
theorem dX10_taken_83 : decode cX10_taken 83 = .ok (.isub, 1) := by decide +kernel
theorem dX10_taken_84 : decode cX10_taken 84 = .ok (.iload 4, 2) := by decide +kernel
theorem dX10_taken_86 : decode cX10_taken 86 = .ok (.iload 7, 2) := by decide +kernel
theorem dX10_taken_88 : decode cX10_taken 88 = .ok (.isub, 1) := by decide +kernel
theorem dX10_taken_89 : decode cX10_taken 89 = .ok (.invokestatic 344, 3) := by decide +kernel
theorem dX10_taken_92 : decode cX10_taken 92 = .ok (.lmul, 1) := by decide +kernel
theorem dX10_taken_93 : decode cX10_taken 93 = .ok (.ladd, 1) := by decide +kernel
theorem dX10_taken_94 : decode cX10_taken 94 = .ok (.lstore 5, 2) := by decide +kernel
theorem dX10_taken_96 : decode cX10_taken 96 = .ok (.iinc 7 1, 3) := by decide +kernel
theorem dX10_taken_99 : decode cX10_taken 99 = .ok (.goto (-34), 3) := by decide +kernel
theorem dX10_taken_102 : decode cX10_taken 102 = .ok (.aload_n 0, 1) := by decide +kernel
theorem dX10_taken_103 : decode cX10_taken 103 = .ok (.lload 5, 2) := by decide +kernel
theorem dX10_taken_105 : decode cX10_taken 105 = .ok (.bipush 16, 2) := by decide +kernel
theorem dX10_taken_107 : decode cX10_taken 107 = .ok (.iload 4, 2) := by decide +kernel
theorem dX10_taken_109 : decode cX10_taken 109 = .ok (.invokestatic 344, 3) := by decide +kernel
theorem dX10_taken_112 : decode cX10_taken 112 = .ok (.aload_n 0, 1) := by decide +kernel
theorem dX10_taken_113 : decode cX10_taken 113 = .ok (.iload_n 1, 1) := by decide +kernel
theorem dX10_taken_114 : decode cX10_taken 114 = .ok (.iload_n 2, 1) := by decide +kernel
theorem dX10_taken_115 : decode cX10_taken 115 = .ok (.invokevirtual 285, 3) := by decide +kernel
theorem dX10_taken_118 : decode cX10_taken 118 = .ok (.ifCond .eq 7, 3) := by decide +kernel
theorem dX10_taken_121 : decode cX10_taken 121 = .ok (.iconst 1, 1) := by decide +kernel
theorem dX10_taken_122 : decode cX10_taken 122 = .ok (.goto 4, 3) := by decide +kernel
theorem dX10_taken_125 : decode cX10_taken 125 = .ok (.iconst 0, 1) := by decide +kernel
theorem dX10_taken_126 : decode cX10_taken 126 = .ok (.invokevirtual 348, 3) := by decide +kernel
theorem dX10_taken_129 : decode cX10_taken 129 = .ok (.ireturn, 1) := by decide +kernel
def c_X10_taken_L65 (F : Nat) (a21 : Nat) (x22 : Int32) (x23 : Int32) (x24 : Int32) (x25 : Int32) (k102 : Int64 → z_Hp → Option (Int32 × z_Hp)) : Nat → Int64 → Int32 → z_Hp → Option (Int32 × z_Hp)
  | 0, _, _, _ => none
  | n + 1, y26, x27, h28 => (if x25 < x27 then (k102 y26 h28) else (bL (c_X10_choose F x24 x27 h28) (fun y32 h31 => (bL (c_X10_choose F (16 - x24) (x25 - x27) h31) (fun y34 h33 => (lt_ (y26 + (y32 * y34)) (fun y35 => (lt_ (x27 + 1) (fun x36 => (c_X10_taken_L65 F a21 x22 x23 x24 x25 k102 n y35 x36 h33))))))))))
def c_X10_taken (F : Nat) (a0 : Nat) (x1 : Int32) (x2 : Int32) (h0 : z_Hp) : Option (Int32 × z_Hp) := (if hT h0 a0 = 10 then (bI (c_X10_isSheet F a0 x1 h0) (fun x4 h3 => (if x4 = 0 then (some ((-1), h3)) else (if hT h3 a0 = 10 then (bI (c_X10_isSheet F a0 x2 h3) (fun x6 h5 => (if x6 = 0 then (some ((-1), h5)) else (if x1 = x2 then (some ((-1), h5)) else (if hT h5 a0 = 10 then (lt_ (hR h5 a0 33) (fun o7 => (nn o7 (fun a8 => (if okA h5 a8 20 x1 = true then (bI (c_X10_bits F (hI h5 a8 (ix x1)) h5) (fun x10 h9 => (if hT h9 a0 = 10 then (lt_ (hR h9 a0 33) (fun o11 => (nn o11 (fun a12 => (if okA h9 a12 20 x2 = true then (bI (c_X10_bits F (hI h9 a12 (ix x2)) h9) (fun x14 h13 => (if hT h13 a0 = 10 then (lt_ (hR h13 a0 33) (fun o15 => (nn o15 (fun a16 => (if okA h13 a16 20 x1 = true then (if hT h13 a0 = 10 then (lt_ (hR h13 a0 33) (fun o17 => (nn o17 (fun a18 => (if okA h13 a18 20 x2 = true then (bI (c_X10_bits F ((hI h13 a16 (ix x1)) &&& (hI h13 a18 (ix x2))) h13) (fun x20 h19 => (c_X10_taken_L65 F a0 x1 x2 x10 x14 (fun y37 h38 => (bL (c_X10_choose F 16 x14 h38) (fun y40 h39 => (if hT h39 a0 = 10 then (bI (c_X10_areTaken F a0 x1 x2 h39) (fun x42 h41 => (lt_ (fun (x44 : Int32) (h45 : z_Hp) => (if hT h45 a0 = 10 then (bI (c_X10_share F a0 y37 y40 x44 h45) (fun x47 h46 => (some (x47, h46)))) else none)) (fun (j126_43 : Int32 → z_Hp → Option (Int32 × z_Hp)) => (if x42 = 0 then (j126_43 0 h41) else (j126_43 1 h41)))))) else none)))) F 0 x20 h19))) else none))))) else none) else none))))) else none))) else none))))) else none))) else none))))) else none))))) else none)))) else none)
set_option maxRecDepth 20000 in
set_option maxHeartbeats 4000000 in
theorem g_X10_taken_L65 (F : Nat) (a21 : Nat) (x22 : Int32) (x23 : Int32) (x24 : Int32) (x25 : Int32) (k102 : Int64 → z_Hp → Option (Int32 × z_Hp)) (qk102 : ∀ (y29 : Int64) (h30 : z_Hp), z_G zi mi_X10_taken 102 [(0, vr (some a21)), (1, vi x22), (2, vi x23), (4, vi x25), (5, vl y29)] [] h30 (k102 y29 h30)) : ∀ (n : Nat) (y26 : Int64) (x27 : Int32) (h28 : z_Hp), z_G zi mi_X10_taken 65 [(0, vr (some a21)), (1, vi x22), (2, vi x23), (3, vi x24), (4, vi x25), (5, vl y26), (7, vi x27)] [] h28 (c_X10_taken_L65 F a21 x22 x23 x24 x25 k102 n y26 x27 h28) := by
  intro n
  induction n with
  | zero => intro y26 x27 h28; rw [c_X10_taken_L65]; exact z_none
  | succ n ih =>
    intro y26 x27 h28
    rw [c_X10_taken_L65]
    refine z_iload (pc := 65) dX10_taken_65 6 rfl (z_iload (pc := 67) dX10_taken_67 4 rfl (?_))
    refine z_icmp_gt (pc := 69) (tgt := 102) dX10_taken_69 (by decide) ?_ ?_
    · exact z_sub [0, 1, 2, 4, 5] rfl (qk102 y26 h28)
    · refine z_lload (pc := 72) dX10_taken_72 5 rfl (z_iload_n (pc := 74) dX10_taken_74 rfl 3 rfl (z_iload (pc := 75) dX10_taken_75 6 rfl (z_callS_L (pc := 77) (avs := [vi x24, vi x27]) (st := [vl y26]) rfl (t_X10_choose F x24 x27 h28) ky_X10_choose ws_X10_choose wz_RX10_344 (rm_X10_taken_X10_choose) (Nat.le_of_ble_eq_true rfl) dX10_taken_77 (fun y32 h31 => (?_)))))
      refine z_bipush (pc := 80) dX10_taken_80 bp_16 (z_iload_n (pc := 82) dX10_taken_82 rfl 3 rfl (z_isub (pc := 83) dX10_taken_83 (z_iload (pc := 84) dX10_taken_84 4 rfl (z_iload (pc := 86) dX10_taken_86 6 rfl (z_isub (pc := 88) dX10_taken_88 (z_callS_L (pc := 89) (avs := [vi (16 - x24), vi (x25 - x27)]) (st := [vl y32, vl y26]) rfl (t_X10_choose F (16 - x24) (x25 - x27) h31) ky_X10_choose ws_X10_choose wz_RX10_344 (rm_X10_taken_X10_choose) (Nat.le_of_ble_eq_true rfl) dX10_taken_89 (fun y34 h33 => (?_))))))))
      refine z_lmul (pc := 92) dX10_taken_92 (z_ladd (pc := 93) dX10_taken_93 (z_lstorel (pc := 94) (L' := fun y35 => [(0, vr (some a21)), (1, vi x22), (2, vi x23), (3, vi x24), (4, vi x25), (5, vl y35), (7, vi x27)]) dX10_taken_94 (Nat.le_of_ble_eq_true rfl) (fun _ => rfl) (fun y35 => (z_iincl (pc := 96) (L' := fun x36 => [(0, vr (some a21)), (1, vi x22), (2, vi x23), (3, vi x24), (4, vi x25), (5, vl y35), (7, vi x36)]) dX10_taken_96 6 rfl ic_1 (Nat.le_of_ble_eq_true rfl) (fun _ => rfl) (fun x36 => (z_goto (pc := 99) (tgt := 65) dX10_taken_99 (by decide) (?_)))))))
      exact ih y35 x36 h33
set_option maxRecDepth 20000 in
set_option maxHeartbeats 4000000 in
theorem t_X10_taken (F : Nat) (a0 : Nat) (x1 : Int32) (x2 : Int32) (h0 : z_Hp) : z_Ct zi mi_X10_taken [vr (some a0), vi x1, vi x2] h0 (c_X10_taken F a0 x1 x2 h0) := by
  refine z_entry (by decide) (Nat.le_of_ble_eq_true rfl) [(0, vr (some a0)), (1, vi x1), (2, vi x2)] rfl ?_
  unfold c_X10_taken
  refine z_aload_n (pc := 0) dX10_taken_0 rfl 0 rfl (z_iload_n (pc := 1) dX10_taken_1 rfl 1 rfl (z_callV_I (pc := 2) (avs := [vi x1]) (st := []) rfl (q := (RX10, TX10, 62)) rfl rfl (t_X10_isSheet F a0 x1 h0) ky_X10_isSheet wm_X10_isSheet we_X10_isSheet wz_RX10_265 (rm_X10_taken_X10_isSheet) (Nat.le_of_ble_eq_true rfl) dX10_taken_2 (fun x4 h3 => (?_))))
  refine z_if_eq (pc := 5) (tgt := 21) dX10_taken_5 (by decide) ?_ ?_
  · refine z_iconst (pc := 21) dX10_taken_21 ic_m1 (?_)
    exact z_iret (pc := 22) dX10_taken_22 rfl rfl
  · refine z_aload_n (pc := 8) dX10_taken_8 rfl 0 rfl (z_iload_n (pc := 9) dX10_taken_9 rfl 2 rfl (z_callV_I (pc := 10) (avs := [vi x2]) (st := []) rfl (q := (RX10, TX10, 62)) rfl rfl (t_X10_isSheet F a0 x2 h3) ky_X10_isSheet wm_X10_isSheet we_X10_isSheet wz_RX10_265 (rm_X10_taken_X10_isSheet) (Nat.le_of_ble_eq_true rfl) dX10_taken_10 (fun x6 h5 => (?_))))
    refine z_if_eq (pc := 13) (tgt := 21) dX10_taken_13 (by decide) ?_ ?_
    · refine z_iconst (pc := 21) dX10_taken_21 ic_m1 (?_)
      exact z_iret (pc := 22) dX10_taken_22 rfl rfl
    · refine z_iload_n (pc := 16) dX10_taken_16 rfl 1 rfl (z_iload_n (pc := 17) dX10_taken_17 rfl 2 rfl (?_))
      refine z_icmp_ne (pc := 18) (tgt := 23) dX10_taken_18 (by decide) ?_ ?_
      · refine z_aload_n (pc := 23) dX10_taken_23 rfl 0 rfl (z_getRl (pc := 24) fl_RX10_86 rfl dX10_taken_24 (fun o7 => (z_iload_n (pc := 27) dX10_taken_27 rfl 1 rfl (?_))))
        refine z_nn (fun a8 ea8 => ?_)
        subst ea8
        refine z_iaload (pc := 28) dX10_taken_28 (z_callS_I (pc := 29) (avs := [vi (hI h5 a8 (ix x1))]) (st := []) rfl (t_X10_bits F (hI h5 a8 (ix x1)) h5) ky_X10_bits ws_X10_bits wz_RX10_279 (rm_X10_taken_X10_bits) (Nat.le_of_ble_eq_true rfl) dX10_taken_29 (fun x10 h9 => (?_)))
        refine z_istore_n (pc := 32) (L' := [(0, vr (some a0)), (1, vi x1), (2, vi x2), (3, vi x10)]) dX10_taken_32 rfl (Nat.le_of_ble_eq_true rfl) rfl (z_aload_n (pc := 33) dX10_taken_33 rfl 0 rfl (z_getRl (pc := 34) fl_RX10_86 rfl dX10_taken_34 (fun o11 => (z_iload_n (pc := 37) dX10_taken_37 rfl 2 rfl (?_)))))
        refine z_nn (fun a12 ea12 => ?_)
        subst ea12
        refine z_iaload (pc := 38) dX10_taken_38 (z_callS_I (pc := 39) (avs := [vi (hI h9 a12 (ix x2))]) (st := []) rfl (t_X10_bits F (hI h9 a12 (ix x2)) h9) ky_X10_bits ws_X10_bits wz_RX10_279 (rm_X10_taken_X10_bits) (Nat.le_of_ble_eq_true rfl) dX10_taken_39 (fun x14 h13 => (?_)))
        refine z_istore (pc := 42) (L' := [(0, vr (some a0)), (1, vi x1), (2, vi x2), (3, vi x10), (4, vi x14)]) dX10_taken_42 (Nat.le_of_ble_eq_true rfl) rfl (z_lconst (pc := 44) dX10_taken_44 lc_0 (z_lstore (pc := 45) (L' := [(0, vr (some a0)), (1, vi x1), (2, vi x2), (3, vi x10), (4, vi x14), (5, vl 0)]) dX10_taken_45 (Nat.le_of_ble_eq_true rfl) rfl (z_aload_n (pc := 47) dX10_taken_47 rfl 0 rfl (z_getRl (pc := 48) fl_RX10_86 rfl dX10_taken_48 (fun o15 => (z_iload_n (pc := 51) dX10_taken_51 rfl 1 rfl (?_)))))))
        refine z_nn (fun a16 ea16 => ?_)
        subst ea16
        refine z_iaload (pc := 52) dX10_taken_52 (z_aload_n (pc := 53) dX10_taken_53 rfl 0 rfl (z_getRl (pc := 54) fl_RX10_86 rfl dX10_taken_54 (fun o17 => (z_iload_n (pc := 57) dX10_taken_57 rfl 2 rfl (?_)))))
        refine z_nn (fun a18 ea18 => ?_)
        subst ea18
        refine z_iaload (pc := 58) dX10_taken_58 (z_iand (pc := 59) dX10_taken_59 (z_callS_I (pc := 60) (avs := [vi ((hI h13 a16 (ix x1)) &&& (hI h13 a18 (ix x2)))]) (st := []) rfl (t_X10_bits F ((hI h13 a16 (ix x1)) &&& (hI h13 a18 (ix x2))) h13) ky_X10_bits ws_X10_bits wz_RX10_279 (rm_X10_taken_X10_bits) (Nat.le_of_ble_eq_true rfl) dX10_taken_60 (fun x20 h19 => (?_))))
        refine z_istore (pc := 63) (L' := [(0, vr (some a0)), (1, vi x1), (2, vi x2), (3, vi x10), (4, vi x14), (5, vl 0), (7, vi x20)]) dX10_taken_63 (Nat.le_of_ble_eq_true rfl) rfl (?_)
        refine g_X10_taken_L65 F a0 x1 x2 x10 x14 _ (fun y37 h38 => ?_) F 0 x20 h19
        refine z_aload_n (pc := 102) dX10_taken_102 rfl 0 rfl (z_lload (pc := 103) dX10_taken_103 4 rfl (z_bipush (pc := 105) dX10_taken_105 bp_16 (z_iload (pc := 107) dX10_taken_107 3 rfl (z_callS_L (pc := 109) (avs := [vi 16, vi x14]) (st := [vl y37, vr (some a0)]) rfl (t_X10_choose F 16 x14 h38) ky_X10_choose ws_X10_choose wz_RX10_344 (rm_X10_taken_X10_choose) (Nat.le_of_ble_eq_true rfl) dX10_taken_109 (fun y40 h39 => (?_))))))
        refine z_aload_n (pc := 112) dX10_taken_112 rfl 0 rfl (z_iload_n (pc := 113) dX10_taken_113 rfl 1 rfl (z_iload_n (pc := 114) dX10_taken_114 rfl 2 rfl (z_callV_I (pc := 115) (avs := [vi x1, vi x2]) (st := [vl y40, vl y37, vr (some a0)]) rfl (q := (RX10, TX10, 62)) rfl rfl (t_X10_areTaken F a0 x1 x2 h39) ky_X10_areTaken wm_X10_areTaken we_X10_areTaken wz_RX10_285 (rm_X10_taken_X10_areTaken) (Nat.le_of_ble_eq_true rfl) dX10_taken_115 (fun x42 h41 => (?_)))))
        refine z_jn (P := fun (j : Int32 → z_Hp → Option (Int32 × z_Hp)) => ∀ (x44 : Int32) (h45 : z_Hp), z_G zi mi_X10_taken 126 [] [vi x44, vl y40, vl y37, vr (some a0)] h45 (j x44 h45)) (fun x44 h45 => ?_) (fun j126_43 qj126_43 => ?_)
        · refine z_callV_I (pc := 126) (avs := [vl y37, vl y40, vi x44]) (st := []) rfl (q := (RX10, TX10, 62)) rfl rfl (t_X10_share F a0 y37 y40 x44 h45) ky_X10_share wm_X10_share we_X10_share wz_RX10_348 (rm_X10_taken_X10_share) (Nat.le_of_ble_eq_true rfl) dX10_taken_126 (fun x47 h46 => (?_))
          exact z_iret (pc := 129) dX10_taken_129 rfl rfl
        refine z_if_eq (pc := 118) (tgt := 125) dX10_taken_118 (by decide) ?_ ?_
        · refine z_iconst (pc := 125) dX10_taken_125 ic_0 (?_)
          exact z_sub [] rfl (qj126_43 0 h41)
        · refine z_iconst (pc := 121) dX10_taken_121 ic_1 (z_goto (pc := 122) (tgt := 126) dX10_taken_122 (by decide) (?_))
          exact z_sub [] rfl (qj126_43 1 h41)
      · refine z_iconst (pc := 21) dX10_taken_21 ic_m1 (?_)
        exact z_iret (pc := 22) dX10_taken_22 rfl rfl
theorem dX10_register_0 : decode cX10_register 0 = .ok (.iload_n 1, 1) := by decide +kernel
theorem dX10_register_1 : decode cX10_register 1 = .ok (.invokestatic 194, 3) := by decide +kernel
theorem dX10_register_4 : decode cX10_register 4 = .ok (.ifCond .eq 17, 3) := by decide +kernel
theorem dX10_register_7 : decode cX10_register 7 = .ok (.iload_n 2, 1) := by decide +kernel
theorem dX10_register_8 : decode cX10_register 8 = .ok (.invokestatic 256, 3) := by decide +kernel
theorem dX10_register_11 : decode cX10_register 11 = .ok (.ifCond .eq 10, 3) := by decide +kernel
theorem dX10_register_14 : decode cX10_register 14 = .ok (.iload_n 3, 1) := by decide +kernel
theorem dX10_register_15 : decode cX10_register 15 = .ok (.invokestatic 259, 3) := by decide +kernel
theorem dX10_register_18 : decode cX10_register 18 = .ok (.ifCond .ne 5, 3) := by decide +kernel
theorem dX10_register_21 : decode cX10_register 21 = .ok (.iconst (-1), 1) := by decide +kernel
theorem dX10_register_22 : decode cX10_register 22 = .ok (.ireturn, 1) := by decide +kernel
theorem dX10_register_23 : decode cX10_register 23 = .ok (.aload_n 0, 1) := by decide +kernel
theorem dX10_register_24 : decode cX10_register 24 = .ok (.getfield 291, 3) := by decide +kernel
theorem dX10_register_27 : decode cX10_register 27 = .ok (.bipush 40, 2) := by decide +kernel
theorem dX10_register_29 : decode cX10_register 29 = .ok (.if_icmp .ne 6, 3) := by decide +kernel
theorem dX10_register_32 : decode cX10_register 32 = .ok (.bipush (-2), 2) := by decide +kernel
theorem dX10_register_34 : decode cX10_register 34 = .ok (.ireturn, 1) := by decide +kernel
theorem dX10_register_35 : decode cX10_register 35 = .ok (.aload_n 0, 1) := by decide +kernel
theorem dX10_register_36 : decode cX10_register 36 = .ok (.getfield 132, 3) := by decide +kernel
theorem dX10_register_39 : decode cX10_register 39 = .ok (.aload_n 0, 1) := by decide +kernel
theorem dX10_register_40 : decode cX10_register 40 = .ok (.getfield 291, 3) := by decide +kernel
theorem dX10_register_43 : decode cX10_register 43 = .ok (.iload_n 1, 1) := by decide +kernel
theorem dX10_register_44 : decode cX10_register 44 = .ok (.iastore, 1) := by decide +kernel
theorem dX10_register_45 : decode cX10_register 45 = .ok (.aload_n 0, 1) := by decide +kernel
theorem dX10_register_46 : decode cX10_register 46 = .ok (.getfield 135, 3) := by decide +kernel
theorem dX10_register_49 : decode cX10_register 49 = .ok (.aload_n 0, 1) := by decide +kernel
theorem dX10_register_50 : decode cX10_register 50 = .ok (.getfield 291, 3) := by decide +kernel
theorem dX10_register_53 : decode cX10_register 53 = .ok (.iload_n 2, 1) := by decide +kernel
theorem dX10_register_54 : decode cX10_register 54 = .ok (.iastore, 1) := by decide +kernel
theorem dX10_register_55 : decode cX10_register 55 = .ok (.aload_n 0, 1) := by decide +kernel
theorem dX10_register_56 : decode cX10_register 56 = .ok (.getfield 138, 3) := by decide +kernel
theorem dX10_register_59 : decode cX10_register 59 = .ok (.aload_n 0, 1) := by decide +kernel
theorem dX10_register_60 : decode cX10_register 60 = .ok (.getfield 291, 3) := by decide +kernel
theorem dX10_register_63 : decode cX10_register 63 = .ok (.iload_n 3, 1) := by decide +kernel
theorem dX10_register_64 : decode cX10_register 64 = .ok (.iastore, 1) := by decide +kernel
theorem dX10_register_65 : decode cX10_register 65 = .ok (.aload_n 0, 1) := by decide +kernel
theorem dX10_register_66 : decode cX10_register 66 = .ok (.dup, 1) := by decide +kernel
theorem dX10_register_67 : decode cX10_register 67 = .ok (.getfield 291, 3) := by decide +kernel
theorem dX10_register_70 : decode cX10_register 70 = .ok (.iconst 1, 1) := by decide +kernel
theorem dX10_register_71 : decode cX10_register 71 = .ok (.iadd, 1) := by decide +kernel
theorem dX10_register_72 : decode cX10_register 72 = .ok (.putfield 291, 3) := by decide +kernel
theorem dX10_register_75 : decode cX10_register 75 = .ok (.aload_n 0, 1) := by decide +kernel
theorem dX10_register_76 : decode cX10_register 76 = .ok (.getfield 291, 3) := by decide +kernel
theorem dX10_register_79 : decode cX10_register 79 = .ok (.ireturn, 1) := by decide +kernel
def c_X10_register (F : Nat) (a0 : Nat) (x1 : Int32) (x2 : Int32) (x3 : Int32) (h0 : z_Hp) : Option (Int32 × z_Hp) := (bI (c_X10_isSong F x1 h0) (fun x5 h4 => (if x5 = 0 then (some ((-1), h4)) else (bI (c_X10_isPrinter F x2 h4) (fun x7 h6 => (if x7 = 0 then (some ((-1), h6)) else (bI (c_X10_isYear F x3 h6) (fun x9 h8 => (if x9 = 0 then (some ((-1), h8)) else (if hT h8 a0 = 10 then (if (hI h8 a0 49) = 40 then (some ((-2), h8)) else (if hT h8 a0 = 10 then (lt_ (hR h8 a0 50) (fun o10 => (if hT h8 a0 = 10 then (nn o10 (fun a11 => (if okA h8 a11 20 (hI h8 a0 49) = true then (lt_ (sI h8 a11 (ix (hI h8 a0 49)) x1) (fun h12 => (if hT h12 a0 = 10 then (lt_ (hR h12 a0 51) (fun o13 => (if hT h12 a0 = 10 then (nn o13 (fun a14 => (if okA h12 a14 20 (hI h12 a0 49) = true then (lt_ (sI h12 a14 (ix (hI h12 a0 49)) x2) (fun h15 => (if hT h15 a0 = 10 then (lt_ (hR h15 a0 52) (fun o16 => (if hT h15 a0 = 10 then (nn o16 (fun a17 => (if okA h15 a17 20 (hI h15 a0 49) = true then (lt_ (sI h15 a17 (ix (hI h15 a0 49)) x3) (fun h18 => (if hT h18 a0 = 10 then (if hT h18 a0 = 10 then (lt_ (sI h18 a0 49 ((hI h18 a0 49) + 1)) (fun h19 => (if hT h19 a0 = 10 then (some (hI h19 a0 49, h19)) else none))) else none) else none))) else none))) else none))) else none))) else none))) else none))) else none))) else none))) else none))) else none)) else none))))))))))
set_option maxRecDepth 20000 in
set_option maxHeartbeats 4000000 in
theorem t_X10_register (F : Nat) (a0 : Nat) (x1 : Int32) (x2 : Int32) (x3 : Int32) (h0 : z_Hp) : z_Ct zi mi_X10_register [vr (some a0), vi x1, vi x2, vi x3] h0 (c_X10_register F a0 x1 x2 x3 h0) := by
  refine z_entry (by decide) (Nat.le_of_ble_eq_true rfl) [(0, vr (some a0)), (1, vi x1), (2, vi x2), (3, vi x3)] rfl ?_
  unfold c_X10_register
  refine z_iload_n (pc := 0) dX10_register_0 rfl 1 rfl (z_callS_I (pc := 1) (avs := [vi x1]) (st := []) rfl (t_X10_isSong F x1 h0) ky_X10_isSong ws_X10_isSong wz_RX10_194 (rm_X10_register_X10_isSong) (Nat.le_of_ble_eq_true rfl) dX10_register_1 (fun x5 h4 => (?_)))
  refine z_if_eq (pc := 4) (tgt := 21) dX10_register_4 (by decide) ?_ ?_
  · refine z_iconst (pc := 21) dX10_register_21 ic_m1 (?_)
    exact z_iret (pc := 22) dX10_register_22 rfl rfl
  · refine z_iload_n (pc := 7) dX10_register_7 rfl 2 rfl (z_callS_I (pc := 8) (avs := [vi x2]) (st := []) rfl (t_X10_isPrinter F x2 h4) ky_X10_isPrinter ws_X10_isPrinter wz_RX10_256 (rm_X10_register_X10_isPrinter) (Nat.le_of_ble_eq_true rfl) dX10_register_8 (fun x7 h6 => (?_)))
    refine z_if_eq (pc := 11) (tgt := 21) dX10_register_11 (by decide) ?_ ?_
    · refine z_iconst (pc := 21) dX10_register_21 ic_m1 (?_)
      exact z_iret (pc := 22) dX10_register_22 rfl rfl
    · refine z_iload_n (pc := 14) dX10_register_14 rfl 3 rfl (z_callS_I (pc := 15) (avs := [vi x3]) (st := []) rfl (t_X10_isYear F x3 h6) ky_X10_isYear ws_X10_isYear wz_RX10_259 (rm_X10_register_X10_isYear) (Nat.le_of_ble_eq_true rfl) dX10_register_15 (fun x9 h8 => (?_)))
      refine z_if_ne (pc := 18) (tgt := 23) dX10_register_18 (by decide) ?_ ?_
      · refine z_aload_n (pc := 23) dX10_register_23 rfl 0 rfl (z_getI (pc := 24) fl_RX10_291 rfl dX10_register_24 (z_bipush (pc := 27) dX10_register_27 bp_40 (?_)))
        refine z_icmp_ne (pc := 29) (tgt := 35) dX10_register_29 (by decide) ?_ ?_
        · refine z_aload_n (pc := 35) dX10_register_35 rfl 0 rfl (z_getRl (pc := 36) fl_RX10_132 rfl dX10_register_36 (fun o10 => (z_aload_n (pc := 39) dX10_register_39 rfl 0 rfl (z_getI (pc := 40) fl_RX10_291 rfl dX10_register_40 (z_iload_n (pc := 43) dX10_register_43 rfl 1 rfl (?_))))))
          refine z_nn (fun a11 ea11 => ?_)
          subst ea11
          refine z_iastorel (pc := 44) dX10_register_44 (fun h12 => (z_aload_n (pc := 45) dX10_register_45 rfl 0 rfl (z_getRl (pc := 46) fl_RX10_135 rfl dX10_register_46 (fun o13 => (z_aload_n (pc := 49) dX10_register_49 rfl 0 rfl (z_getI (pc := 50) fl_RX10_291 rfl dX10_register_50 (z_iload_n (pc := 53) dX10_register_53 rfl 2 rfl (?_))))))))
          refine z_nn (fun a14 ea14 => ?_)
          subst ea14
          refine z_iastorel (pc := 54) dX10_register_54 (fun h15 => (z_aload_n (pc := 55) dX10_register_55 rfl 0 rfl (z_getRl (pc := 56) fl_RX10_138 rfl dX10_register_56 (fun o16 => (z_aload_n (pc := 59) dX10_register_59 rfl 0 rfl (z_getI (pc := 60) fl_RX10_291 rfl dX10_register_60 (z_iload_n (pc := 63) dX10_register_63 rfl 3 rfl (?_))))))))
          refine z_nn (fun a17 ea17 => ?_)
          subst ea17
          refine z_iastorel (pc := 64) dX10_register_64 (fun h18 => (z_aload_n (pc := 65) dX10_register_65 rfl 0 rfl (z_dup (pc := 66) dX10_register_66 rfl (z_getI (pc := 67) fl_RX10_291 rfl dX10_register_67 (z_iconst (pc := 70) dX10_register_70 ic_1 (z_iadd (pc := 71) dX10_register_71 (z_putIl (pc := 72) fl_RX10_291 (fin_X_10_49 _) rfl dX10_register_72 (fun h19 => (z_aload_n (pc := 75) dX10_register_75 rfl 0 rfl (?_))))))))))
          refine z_getI (pc := 76) fl_RX10_291 rfl dX10_register_76 (?_)
          exact z_iret (pc := 79) dX10_register_79 rfl rfl
        · refine z_bipush (pc := 32) dX10_register_32 bp_m2 (?_)
          exact z_iret (pc := 34) dX10_register_34 rfl rfl
      · refine z_iconst (pc := 21) dX10_register_21 ic_m1 (?_)
        exact z_iret (pc := 22) dX10_register_22 rfl rfl
theorem dX10_right_0 : decode cX10_right 0 = .ok (.iload_n 1, 1) := by decide +kernel
theorem dX10_right_1 : decode cX10_right 1 = .ok (.invokestatic 194, 3) := by decide +kernel
theorem dX10_right_4 : decode cX10_right 4 = .ok (.ifCond .eq 10, 3) := by decide +kernel
theorem dX10_right_7 : decode cX10_right 7 = .ok (.iload_n 2, 1) := by decide +kernel
theorem dX10_right_8 : decode cX10_right 8 = .ok (.invokestatic 259, 3) := by decide +kernel
theorem dX10_right_11 : decode cX10_right 11 = .ok (.ifCond .ne 5, 3) := by decide +kernel
theorem dX10_right_14 : decode cX10_right 14 = .ok (.iconst (-1), 1) := by decide +kernel
theorem dX10_right_15 : decode cX10_right 15 = .ok (.ireturn, 1) := by decide +kernel
theorem dX10_right_16 : decode cX10_right 16 = .ok (.aload_n 0, 1) := by decide +kernel
theorem dX10_right_17 : decode cX10_right 17 = .ok (.iconst 1, 1) := by decide +kernel
theorem dX10_right_18 : decode cX10_right 18 = .ok (.invokevirtual 228, 3) := by decide +kernel
theorem dX10_right_21 : decode cX10_right 21 = .ok (.istore_n 3, 1) := by decide +kernel
theorem dX10_right_22 : decode cX10_right 22 = .ok (.bipush (-9), 2) := by decide +kernel
theorem dX10_right_24 : decode cX10_right 24 = .ok (.istore 4, 2) := by decide +kernel
theorem dX10_right_26 : decode cX10_right 26 = .ok (.iconst 0, 1) := by decide +kernel
theorem dX10_right_27 : decode cX10_right 27 = .ok (.istore 5, 2) := by decide +kernel
theorem dX10_right_29 : decode cX10_right 29 = .ok (.sipush 1500, 3) := by decide +kernel
theorem dX10_right_32 : decode cX10_right 32 = .ok (.istore 6, 2) := by decide +kernel
theorem dX10_right_34 : decode cX10_right 34 = .ok (.iload 6, 2) := by decide +kernel
theorem dX10_right_36 : decode cX10_right 36 = .ok (.iload_n 2, 1) := by decide +kernel
theorem dX10_right_37 : decode cX10_right 37 = .ok (.if_icmp .gt 84, 3) := by decide +kernel
theorem dX10_right_40 : decode cX10_right 40 = .ok (.iconst 0, 1) := by decide +kernel
theorem dX10_right_41 : decode cX10_right 41 = .ok (.istore 7, 2) := by decide +kernel
theorem dX10_right_43 : decode cX10_right 43 = .ok (.iload 7, 2) := by decide +kernel
theorem dX10_right_45 : decode cX10_right 45 = .ok (.aload_n 0, 1) := by decide +kernel
theorem dX10_right_46 : decode cX10_right 46 = .ok (.getfield 291, 3) := by decide +kernel
theorem dX10_right_49 : decode cX10_right 49 = .ok (.if_icmp .ge 66, 3) := by decide +kernel
theorem dX10_right_52 : decode cX10_right 52 = .ok (.aload_n 0, 1) := by decide +kernel
theorem dX10_right_53 : decode cX10_right 53 = .ok (.getfield 132, 3) := by decide +kernel
theorem dX10_right_56 : decode cX10_right 56 = .ok (.iload 7, 2) := by decide +kernel
theorem dX10_right_58 : decode cX10_right 58 = .ok (.iaload, 1) := by decide +kernel
theorem dX10_right_59 : decode cX10_right 59 = .ok (.iload_n 1, 1) := by decide +kernel
theorem dX10_right_60 : decode cX10_right 60 = .ok (.if_icmp .ne 49, 3) := by decide +kernel
theorem dX10_right_63 : decode cX10_right 63 = .ok (.aload_n 0, 1) := by decide +kernel
theorem dX10_right_64 : decode cX10_right 64 = .ok (.getfield 138, 3) := by decide +kernel
theorem dX10_right_67 : decode cX10_right 67 = .ok (.iload 7, 2) := by decide +kernel
theorem dX10_right_69 : decode cX10_right 69 = .ok (.iaload, 1) := by decide +kernel
theorem dX10_right_70 : decode cX10_right 70 = .ok (.iload 6, 2) := by decide +kernel
theorem dX10_right_72 : decode cX10_right 72 = .ok (.if_icmp .ne 37, 3) := by decide +kernel
theorem dX10_right_75 : decode cX10_right 75 = .ok (.iload 6, 2) := by decide +kernel
theorem dX10_right_77 : decode cX10_right 77 = .ok (.iload 5, 2) := by decide +kernel
theorem dX10_right_79 : decode cX10_right 79 = .ok (.if_icmp .ge 15, 3) := by decide +kernel
theorem dX10_right_82 : decode cX10_right 82 = .ok (.aload_n 0, 1) := by decide +kernel
theorem dX10_right_83 : decode cX10_right 83 = .ok (.getfield 135, 3) := by decide +kernel
theorem dX10_right_86 : decode cX10_right 86 = .ok (.iload 7, 2) := by decide +kernel
theorem dX10_right_88 : decode cX10_right 88 = .ok (.iaload, 1) := by decide +kernel
theorem dX10_right_89 : decode cX10_right 89 = .ok (.iload 4, 2) := by decide +kernel
theorem dX10_right_91 : decode cX10_right 91 = .ok (.if_icmp .ne 18, 3) := by decide +kernel
theorem dX10_right_94 : decode cX10_right 94 = .ok (.aload_n 0, 1) := by decide +kernel
theorem dX10_right_95 : decode cX10_right 95 = .ok (.getfield 135, 3) := by decide +kernel
theorem dX10_right_98 : decode cX10_right 98 = .ok (.iload 7, 2) := by decide +kernel
theorem dX10_right_100 : decode cX10_right 100 = .ok (.iaload, 1) := by decide +kernel
theorem dX10_right_101 : decode cX10_right 101 = .ok (.istore 4, 2) := by decide +kernel
theorem dX10_right_103 : decode cX10_right 103 = .ok (.iload 6, 2) := by decide +kernel
theorem dX10_right_105 : decode cX10_right 105 = .ok (.iload_n 3, 1) := by decide +kernel
theorem dX10_right_106 : decode cX10_right 106 = .ok (.iadd, 1) := by decide +kernel
theorem dX10_right_107 : decode cX10_right 107 = .ok (.istore 5, 2) := by decide +kernel
theorem dX10_right_109 : decode cX10_right 109 = .ok (.iinc 7 1, 3) := by decide +kernel
theorem dX10_right_112 : decode cX10_right 112 = .ok (.goto (-69), 3) := by decide +kernel
theorem dX10_right_115 : decode cX10_right 115 = .ok (.iinc 6 1, 3) := by decide +kernel
theorem dX10_right_118 : decode cX10_right 118 = .ok (.goto (-84), 3) := by decide +kernel
theorem dX10_right_121 : decode cX10_right 121 = .ok (.iload_n 2, 1) := by decide +kernel
theorem dX10_right_122 : decode cX10_right 122 = .ok (.iload 5, 2) := by decide +kernel
theorem dX10_right_124 : decode cX10_right 124 = .ok (.if_icmp .ge 8, 3) := by decide +kernel
theorem dX10_right_127 : decode cX10_right 127 = .ok (.iload 4, 2) := by decide +kernel
theorem dX10_right_129 : decode cX10_right 129 = .ok (.goto 5, 3) := by decide +kernel
theorem dX10_right_132 : decode cX10_right 132 = .ok (.bipush (-9), 2) := by decide +kernel
theorem dX10_right_134 : decode cX10_right 134 = .ok (.ireturn, 1) := by decide +kernel
def c_X10_right_L43 (F : Nat) (a20 : Nat) (x21 : Int32) (x22 : Int32) (x23 : Int32) (x24 : Int32) (k115 : Int32 → Int32 → z_Hp → Option (Int32 × z_Hp)) : Nat → Int32 → Int32 → Int32 → z_Hp → Option (Int32 × z_Hp)
  | 0, _, _, _, _ => none
  | n + 1, x25, x26, x27, h28 => (if hT h28 a20 = 10 then (if (hI h28 a20 49) ≤ x27 then (k115 x25 x26 h28) else (if hT h28 a20 = 10 then (lt_ (hR h28 a20 50) (fun o32 => (nn o32 (fun a33 => (if okA h28 a33 20 x27 = true then (lt_ (fun (x35 : Int32) (x36 : Int32) (h37 : z_Hp) => (lt_ (x27 + 1) (fun x38 => (c_X10_right_L43 F a20 x21 x22 x23 x24 k115 n x35 x36 x38 h37)))) (fun (j109_34 : Int32 → Int32 → z_Hp → Option (Int32 × z_Hp)) => (if (hI h28 a33 (ix x27)) = x21 then (if hT h28 a20 = 10 then (lt_ (hR h28 a20 52) (fun o39 => (nn o39 (fun a40 => (if okA h28 a40 20 x27 = true then (if (hI h28 a40 (ix x27)) = x24 then (lt_ (fun (h42 : z_Hp) => (if hT h42 a20 = 10 then (lt_ (hR h42 a20 51) (fun o43 => (nn o43 (fun a44 => (if okA h42 a44 20 x27 = true then (lt_ (hI h42 a44 (ix x27)) (fun x45 => (lt_ (x24 + x23) (fun x46 => (j109_34 x45 x46 h42))))) else none))))) else none)) (fun (j94_41 : z_Hp → Option (Int32 × z_Hp)) => (if x26 ≤ x24 then (j94_41 h28) else (if hT h28 a20 = 10 then (lt_ (hR h28 a20 51) (fun o47 => (nn o47 (fun a48 => (if okA h28 a48 20 x27 = true then (if (hI h28 a48 (ix x27)) = x25 then (j94_41 h28) else (j109_34 x25 x26 h28)) else none))))) else none)))) else (j109_34 x25 x26 h28)) else none))))) else none) else (j109_34 x25 x26 h28)))) else none))))) else none)) else none)
def c_X10_right_L34 (F : Nat) (a9 : Nat) (x10 : Int32) (x11 : Int32) (x12 : Int32) (k121 : Int32 → Int32 → z_Hp → Option (Int32 × z_Hp)) : Nat → Int32 → Int32 → Int32 → z_Hp → Option (Int32 × z_Hp)
  | 0, _, _, _, _ => none
  | n + 1, x13, x14, x15, h16 => (if x11 < x15 then (k121 x13 x14 h16) else (c_X10_right_L43 F a9 x10 x11 x12 x15 (fun x49 x50 h51 => (lt_ (x15 + 1) (fun x52 => (c_X10_right_L34 F a9 x10 x11 x12 k121 n x49 x50 x52 h51)))) F x13 x14 0 h16))
def c_X10_right (F : Nat) (a0 : Nat) (x1 : Int32) (x2 : Int32) (h0 : z_Hp) : Option (Int32 × z_Hp) := (bI (c_X10_isSong F x1 h0) (fun x4 h3 => (if x4 = 0 then (some ((-1), h3)) else (bI (c_X10_isYear F x2 h3) (fun x6 h5 => (if x6 = 0 then (some ((-1), h5)) else (if hT h5 a0 = 10 then (bI (c_X10_nowInForce F a0 1 h5) (fun x8 h7 => (c_X10_right_L34 F a0 x1 x2 x8 (fun x53 x54 h55 => (if x54 ≤ x2 then (some ((-9), h55)) else (some (x53, h55)))) F (-9) 0 1500 h7))) else none)))))))
set_option maxRecDepth 20000 in
set_option maxHeartbeats 4000000 in
theorem g_X10_right_L43 (F : Nat) (a20 : Nat) (x21 : Int32) (x22 : Int32) (x23 : Int32) (x24 : Int32) (k115 : Int32 → Int32 → z_Hp → Option (Int32 × z_Hp)) (qk115 : ∀ (x29 : Int32) (x30 : Int32) (h31 : z_Hp), z_G zi mi_X10_right 115 [(0, vr (some a20)), (1, vi x21), (2, vi x22), (3, vi x23), (4, vi x29), (5, vi x30), (6, vi x24)] [] h31 (k115 x29 x30 h31)) : ∀ (n : Nat) (x25 : Int32) (x26 : Int32) (x27 : Int32) (h28 : z_Hp), z_G zi mi_X10_right 43 [(0, vr (some a20)), (1, vi x21), (2, vi x22), (3, vi x23), (4, vi x25), (5, vi x26), (6, vi x24), (7, vi x27)] [] h28 (c_X10_right_L43 F a20 x21 x22 x23 x24 k115 n x25 x26 x27 h28) := by
  intro n
  induction n with
  | zero => intro x25 x26 x27 h28; rw [c_X10_right_L43]; exact z_none
  | succ n ih =>
    intro x25 x26 x27 h28
    rw [c_X10_right_L43]
    refine z_iload (pc := 43) dX10_right_43 7 rfl (z_aload_n (pc := 45) dX10_right_45 rfl 0 rfl (z_getI (pc := 46) fl_RX10_291 rfl dX10_right_46 (?_)))
    refine z_icmp_ge (pc := 49) (tgt := 115) dX10_right_49 (by decide) ?_ ?_
    · exact z_sub [0, 1, 2, 3, 4, 5, 6] rfl (qk115 x25 x26 h28)
    · refine z_aload_n (pc := 52) dX10_right_52 rfl 0 rfl (z_getRl (pc := 53) fl_RX10_132 rfl dX10_right_53 (fun o32 => (z_iload (pc := 56) dX10_right_56 7 rfl (?_))))
      refine z_nn (fun a33 ea33 => ?_)
      subst ea33
      refine z_iaload (pc := 58) dX10_right_58 (z_iload_n (pc := 59) dX10_right_59 rfl 1 rfl (?_))
      refine z_jn (P := fun (j : Int32 → Int32 → z_Hp → Option (Int32 × z_Hp)) => ∀ (x35 : Int32) (x36 : Int32) (h37 : z_Hp), z_G zi mi_X10_right 109 [(0, vr (some a20)), (1, vi x21), (2, vi x22), (3, vi x23), (4, vi x35), (5, vi x36), (6, vi x24), (7, vi x27)] [] h37 (j x35 x36 h37)) (fun x35 x36 h37 => ?_) (fun j109_34 qj109_34 => ?_)
      · refine z_iincl (pc := 109) (L' := fun x38 => [(0, vr (some a20)), (1, vi x21), (2, vi x22), (3, vi x23), (4, vi x35), (5, vi x36), (6, vi x24), (7, vi x38)]) dX10_right_109 7 rfl ic_1 (Nat.le_of_ble_eq_true rfl) (fun _ => rfl) (fun x38 => (z_goto (pc := 112) (tgt := 43) dX10_right_112 (by decide) (?_)))
        exact ih x35 x36 x38 h37
      refine z_icmp_ne (pc := 60) (tgt := 109) dX10_right_60 (by decide) ?_ ?_
      · exact qj109_34 x25 x26 h28
      · refine z_aload_n (pc := 63) dX10_right_63 rfl 0 rfl (z_getRl (pc := 64) fl_RX10_138 rfl dX10_right_64 (fun o39 => (z_iload (pc := 67) dX10_right_67 7 rfl (?_))))
        refine z_nn (fun a40 ea40 => ?_)
        subst ea40
        refine z_iaload (pc := 69) dX10_right_69 (z_iload (pc := 70) dX10_right_70 6 rfl (?_))
        refine z_icmp_ne (pc := 72) (tgt := 109) dX10_right_72 (by decide) ?_ ?_
        · exact qj109_34 x25 x26 h28
        · refine z_iload (pc := 75) dX10_right_75 6 rfl (z_iload (pc := 77) dX10_right_77 5 rfl (?_))
          refine z_jn (P := fun (j : z_Hp → Option (Int32 × z_Hp)) => ∀ (h42 : z_Hp), z_G zi mi_X10_right 94 [(0, vr (some a20)), (1, vi x21), (2, vi x22), (3, vi x23), (6, vi x24), (7, vi x27)] [] h42 (j h42)) (fun h42 => ?_) (fun j94_41 qj94_41 => ?_)
          · refine z_aload_n (pc := 94) dX10_right_94 rfl 0 rfl (z_getRl (pc := 95) fl_RX10_135 rfl dX10_right_95 (fun o43 => (z_iload (pc := 98) dX10_right_98 5 rfl (?_))))
            refine z_nn (fun a44 ea44 => ?_)
            subst ea44
            refine z_iaload (pc := 100) dX10_right_100 (z_istorel (pc := 101) (L' := fun x45 => [(0, vr (some a20)), (1, vi x21), (2, vi x22), (3, vi x23), (4, vi x45), (6, vi x24), (7, vi x27)]) dX10_right_101 (Nat.le_of_ble_eq_true rfl) (fun _ => rfl) (fun x45 => (z_iload (pc := 103) dX10_right_103 5 rfl (z_iload_n (pc := 105) dX10_right_105 rfl 3 rfl (z_iadd (pc := 106) dX10_right_106 (z_istorel (pc := 107) (L' := fun x46 => [(0, vr (some a20)), (1, vi x21), (2, vi x22), (3, vi x23), (4, vi x45), (5, vi x46), (6, vi x24), (7, vi x27)]) dX10_right_107 (Nat.le_of_ble_eq_true rfl) (fun _ => rfl) (fun x46 => (?_))))))))
            exact qj109_34 x45 x46 h42
          refine z_icmp_ge (pc := 79) (tgt := 94) dX10_right_79 (by decide) ?_ ?_
          · exact z_sub [0, 1, 2, 3, 6, 7] rfl (qj94_41 h28)
          · refine z_aload_n (pc := 82) dX10_right_82 rfl 0 rfl (z_getRl (pc := 83) fl_RX10_135 rfl dX10_right_83 (fun o47 => (z_iload (pc := 86) dX10_right_86 7 rfl (?_))))
            refine z_nn (fun a48 ea48 => ?_)
            subst ea48
            refine z_iaload (pc := 88) dX10_right_88 (z_iload (pc := 89) dX10_right_89 4 rfl (?_))
            refine z_icmp_ne (pc := 91) (tgt := 109) dX10_right_91 (by decide) ?_ ?_
            · exact qj109_34 x25 x26 h28
            · exact z_sub [0, 1, 2, 3, 6, 7] rfl (qj94_41 h28)
set_option maxRecDepth 20000 in
set_option maxHeartbeats 4000000 in
theorem g_X10_right_L34 (F : Nat) (a9 : Nat) (x10 : Int32) (x11 : Int32) (x12 : Int32) (k121 : Int32 → Int32 → z_Hp → Option (Int32 × z_Hp)) (qk121 : ∀ (x17 : Int32) (x18 : Int32) (h19 : z_Hp), z_G zi mi_X10_right 121 [(2, vi x11), (4, vi x17), (5, vi x18)] [] h19 (k121 x17 x18 h19)) : ∀ (n : Nat) (x13 : Int32) (x14 : Int32) (x15 : Int32) (h16 : z_Hp), z_G zi mi_X10_right 34 [(0, vr (some a9)), (1, vi x10), (2, vi x11), (3, vi x12), (4, vi x13), (5, vi x14), (6, vi x15)] [] h16 (c_X10_right_L34 F a9 x10 x11 x12 k121 n x13 x14 x15 h16) := by
  intro n
  induction n with
  | zero => intro x13 x14 x15 h16; rw [c_X10_right_L34]; exact z_none
  | succ n ih =>
    intro x13 x14 x15 h16
    rw [c_X10_right_L34]
    refine z_iload (pc := 34) dX10_right_34 6 rfl (z_iload_n (pc := 36) dX10_right_36 rfl 2 rfl (?_))
    refine z_icmp_gt (pc := 37) (tgt := 121) dX10_right_37 (by decide) ?_ ?_
    · exact z_sub [2, 4, 5] rfl (qk121 x13 x14 h16)
    · refine z_iconst (pc := 40) dX10_right_40 ic_0 (z_istore (pc := 41) (L' := [(0, vr (some a9)), (1, vi x10), (2, vi x11), (3, vi x12), (4, vi x13), (5, vi x14), (6, vi x15), (7, vi 0)]) dX10_right_41 (Nat.le_of_ble_eq_true rfl) rfl (?_))
      refine g_X10_right_L43 F a9 x10 x11 x12 x15 _ (fun x49 x50 h51 => ?_) F x13 x14 0 h16
      refine z_iincl (pc := 115) (L' := fun x52 => [(0, vr (some a9)), (1, vi x10), (2, vi x11), (3, vi x12), (4, vi x49), (5, vi x50), (6, vi x52)]) dX10_right_115 6 rfl ic_1 (Nat.le_of_ble_eq_true rfl) (fun _ => rfl) (fun x52 => (z_goto (pc := 118) (tgt := 34) dX10_right_118 (by decide) (?_)))
      exact ih x49 x50 x52 h51
set_option maxRecDepth 20000 in
set_option maxHeartbeats 4000000 in
theorem t_X10_right (F : Nat) (a0 : Nat) (x1 : Int32) (x2 : Int32) (h0 : z_Hp) : z_Ct zi mi_X10_right [vr (some a0), vi x1, vi x2] h0 (c_X10_right F a0 x1 x2 h0) := by
  refine z_entry (by decide) (Nat.le_of_ble_eq_true rfl) [(0, vr (some a0)), (1, vi x1), (2, vi x2)] rfl ?_
  unfold c_X10_right
  refine z_iload_n (pc := 0) dX10_right_0 rfl 1 rfl (z_callS_I (pc := 1) (avs := [vi x1]) (st := []) rfl (t_X10_isSong F x1 h0) ky_X10_isSong ws_X10_isSong wz_RX10_194 (rm_X10_right_X10_isSong) (Nat.le_of_ble_eq_true rfl) dX10_right_1 (fun x4 h3 => (?_)))
  refine z_if_eq (pc := 4) (tgt := 14) dX10_right_4 (by decide) ?_ ?_
  · refine z_iconst (pc := 14) dX10_right_14 ic_m1 (?_)
    exact z_iret (pc := 15) dX10_right_15 rfl rfl
  · refine z_iload_n (pc := 7) dX10_right_7 rfl 2 rfl (z_callS_I (pc := 8) (avs := [vi x2]) (st := []) rfl (t_X10_isYear F x2 h3) ky_X10_isYear ws_X10_isYear wz_RX10_259 (rm_X10_right_X10_isYear) (Nat.le_of_ble_eq_true rfl) dX10_right_8 (fun x6 h5 => (?_)))
    refine z_if_ne (pc := 11) (tgt := 16) dX10_right_11 (by decide) ?_ ?_
    · refine z_aload_n (pc := 16) dX10_right_16 rfl 0 rfl (z_iconst (pc := 17) dX10_right_17 ic_1 (z_callV_I (pc := 18) (avs := [vi 1]) (st := []) rfl (q := (RX10, TX10, 62)) rfl rfl (t_X10_nowInForce F a0 1 h5) ky_X10_nowInForce wm_X10_nowInForce we_X10_nowInForce wz_RX10_228 (rm_X10_right_X10_nowInForce) (Nat.le_of_ble_eq_true rfl) dX10_right_18 (fun x8 h7 => (?_))))
      refine z_istore_n (pc := 21) (L' := [(0, vr (some a0)), (1, vi x1), (2, vi x2), (3, vi x8)]) dX10_right_21 rfl (Nat.le_of_ble_eq_true rfl) rfl (z_bipush (pc := 22) dX10_right_22 bp_m9 (z_istore (pc := 24) (L' := [(0, vr (some a0)), (1, vi x1), (2, vi x2), (3, vi x8), (4, vi (-9))]) dX10_right_24 (Nat.le_of_ble_eq_true rfl) rfl (z_iconst (pc := 26) dX10_right_26 ic_0 (z_istore (pc := 27) (L' := [(0, vr (some a0)), (1, vi x1), (2, vi x2), (3, vi x8), (4, vi (-9)), (5, vi 0)]) dX10_right_27 (Nat.le_of_ble_eq_true rfl) rfl (z_sipush (pc := 29) dX10_right_29 sp_1500 (z_istore (pc := 32) (L' := [(0, vr (some a0)), (1, vi x1), (2, vi x2), (3, vi x8), (4, vi (-9)), (5, vi 0), (6, vi 1500)]) dX10_right_32 (Nat.le_of_ble_eq_true rfl) rfl (?_)))))))
      refine g_X10_right_L34 F a0 x1 x2 x8 _ (fun x53 x54 h55 => ?_) F (-9) 0 1500 h7
      refine z_iload_n (pc := 121) dX10_right_121 rfl 0 rfl (z_iload (pc := 122) dX10_right_122 2 rfl (?_))
      refine z_icmp_ge (pc := 124) (tgt := 132) dX10_right_124 (by decide) ?_ ?_
      · refine z_bipush (pc := 132) dX10_right_132 bp_m9 (?_)
        exact z_iret (pc := 134) dX10_right_134 rfl rfl
      · refine z_iload (pc := 127) dX10_right_127 1 rfl (z_goto (pc := 129) (tgt := 134) dX10_right_129 (by decide) (?_))
        exact z_iret (pc := 134) dX10_right_134 rfl rfl
    · refine z_iconst (pc := 14) dX10_right_14 ic_m1 (?_)
      exact z_iret (pc := 15) dX10_right_15 rfl rfl
theorem dX10_join_0 : decode cX10_join 0 = .ok (.aload_n 0, 1) := by decide +kernel
theorem dX10_join_1 : decode cX10_join 1 = .ok (.iload_n 1, 1) := by decide +kernel
theorem dX10_join_2 : decode cX10_join 2 = .ok (.invokevirtual 265, 3) := by decide +kernel
theorem dX10_join_5 : decode cX10_join 5 = .ok (.ifCond .eq 16, 3) := by decide +kernel
theorem dX10_join_8 : decode cX10_join 8 = .ok (.aload_n 0, 1) := by decide +kernel
theorem dX10_join_9 : decode cX10_join 9 = .ok (.iload_n 2, 1) := by decide +kernel
theorem dX10_join_10 : decode cX10_join 10 = .ok (.invokevirtual 265, 3) := by decide +kernel
theorem dX10_join_13 : decode cX10_join 13 = .ok (.ifCond .eq 8, 3) := by decide +kernel
theorem dX10_join_16 : decode cX10_join 16 = .ok (.iload_n 1, 1) := by decide +kernel
theorem dX10_join_17 : decode cX10_join 17 = .ok (.iload_n 2, 1) := by decide +kernel
theorem dX10_join_18 : decode cX10_join 18 = .ok (.if_icmp .ne 5, 3) := by decide +kernel
theorem dX10_join_21 : decode cX10_join 21 = .ok (.iconst (-1), 1) := by decide +kernel
theorem dX10_join_22 : decode cX10_join 22 = .ok (.ireturn, 1) := by decide +kernel
theorem dX10_join_23 : decode cX10_join 23 = .ok (.aload_n 0, 1) := by decide +kernel
theorem dX10_join_24 : decode cX10_join 24 = .ok (.getfield 68, 3) := by decide +kernel
theorem dX10_join_27 : decode cX10_join 27 = .ok (.iload_n 1, 1) := by decide +kernel
theorem dX10_join_28 : decode cX10_join 28 = .ok (.iaload, 1) := by decide +kernel
theorem dX10_join_29 : decode cX10_join 29 = .ok (.iconst 2, 1) := by decide +kernel
theorem dX10_join_30 : decode cX10_join 30 = .ok (.if_icmp .ne 13, 3) := by decide +kernel
theorem dX10_join_33 : decode cX10_join 33 = .ok (.aload_n 0, 1) := by decide +kernel
theorem dX10_join_34 : decode cX10_join 34 = .ok (.getfield 68, 3) := by decide +kernel
theorem dX10_join_37 : decode cX10_join 37 = .ok (.iload_n 2, 1) := by decide +kernel
theorem dX10_join_38 : decode cX10_join 38 = .ok (.iaload, 1) := by decide +kernel
theorem dX10_join_39 : decode cX10_join 39 = .ok (.iconst 2, 1) := by decide +kernel
theorem dX10_join_40 : decode cX10_join 40 = .ok (.if_icmp .eq 9, 3) := by decide +kernel
theorem dX10_join_43 : decode cX10_join 43 = .ok (.aload_n 0, 1) := by decide +kernel
theorem dX10_join_44 : decode cX10_join 44 = .ok (.iconst 3, 1) := by decide +kernel
theorem dX10_join_45 : decode cX10_join 45 = .ok (.invokevirtual 174, 3) := by decide +kernel
theorem dX10_join_48 : decode cX10_join 48 = .ok (.ireturn, 1) := by decide +kernel
theorem dX10_join_49 : decode cX10_join 49 = .ok (.aload_n 0, 1) := by decide +kernel
theorem dX10_join_50 : decode cX10_join 50 = .ok (.getfield 98, 3) := by decide +kernel
theorem dX10_join_53 : decode cX10_join 53 = .ok (.iload_n 1, 1) := by decide +kernel
theorem dX10_join_54 : decode cX10_join 54 = .ok (.iaload, 1) := by decide +kernel
theorem dX10_join_55 : decode cX10_join 55 = .ok (.aload_n 0, 1) := by decide +kernel
theorem dX10_join_56 : decode cX10_join 56 = .ok (.getfield 98, 3) := by decide +kernel
theorem dX10_join_59 : decode cX10_join 59 = .ok (.iload_n 2, 1) := by decide +kernel
theorem dX10_join_60 : decode cX10_join 60 = .ok (.iaload, 1) := by decide +kernel
theorem dX10_join_61 : decode cX10_join 61 = .ok (.if_icmp .ne 18, 3) := by decide +kernel
theorem dX10_join_64 : decode cX10_join 64 = .ok (.aload_n 0, 1) := by decide +kernel
theorem dX10_join_65 : decode cX10_join 65 = .ok (.getfield 74, 3) := by decide +kernel
theorem dX10_join_68 : decode cX10_join 68 = .ok (.iload_n 1, 1) := by decide +kernel
theorem dX10_join_69 : decode cX10_join 69 = .ok (.iaload, 1) := by decide +kernel
theorem dX10_join_70 : decode cX10_join 70 = .ok (.aload_n 0, 1) := by decide +kernel
theorem dX10_join_71 : decode cX10_join 71 = .ok (.getfield 74, 3) := by decide +kernel
theorem dX10_join_74 : decode cX10_join 74 = .ok (.iload_n 2, 1) := by decide +kernel
theorem dX10_join_75 : decode cX10_join 75 = .ok (.iaload, 1) := by decide +kernel
theorem dX10_join_76 : decode cX10_join 76 = .ok (.if_icmp .eq 5, 3) := by decide +kernel
theorem dX10_join_79 : decode cX10_join 79 = .ok (.iconst 0, 1) := by decide +kernel
theorem dX10_join_80 : decode cX10_join 80 = .ok (.ireturn, 1) := by decide +kernel
theorem dX10_join_81 : decode cX10_join 81 = .ok (.lconst 0, 1) := by decide +kernel
theorem dX10_join_82 : decode cX10_join 82 = .ok (.lstore_n 3, 1) := by decide +kernel
theorem dX10_join_83 : decode cX10_join 83 = .ok (.iconst 0, 1) := by decide +kernel
theorem dX10_join_84 : decode cX10_join 84 = .ok (.istore 5, 2) := by decide +kernel
theorem dX10_join_86 : decode cX10_join 86 = .ok (.iload 5, 2) := by decide +kernel
theorem dX10_join_88 : decode cX10_join 88 = .ok (.aload_n 0, 1) := by decide +kernel
theorem dX10_join_89 : decode cX10_join 89 = .ok (.getfield 98, 3) := by decide +kernel
theorem dX10_join_92 : decode cX10_join 92 = .ok (.iload_n 1, 1) := by decide +kernel
theorem dX10_join_93 : decode cX10_join 93 = .ok (.iaload, 1) := by decide +kernel
theorem dX10_join_94 : decode cX10_join 94 = .ok (.if_icmp .ge 91, 3) := by decide +kernel
theorem dX10_join_97 : decode cX10_join 97 = .ok (.aload_n 0, 1) := by decide +kernel
theorem dX10_join_98 : decode cX10_join 98 = .ok (.getfield 101, 3) := by decide +kernel
theorem dX10_join_101 : decode cX10_join 101 = .ok (.bipush 40, 2) := by decide +kernel
theorem dX10_join_103 : decode cX10_join 103 = .ok (.iload_n 1, 1) := by decide +kernel
theorem dX10_join_104 : decode cX10_join 104 = .ok (.imul, 1) := by decide +kernel
theorem dX10_join_105 : decode cX10_join 105 = .ok (.iload 5, 2) := by decide +kernel
theorem dX10_join_107 : decode cX10_join 107 = .ok (.iadd, 1) := by decide +kernel
theorem dX10_join_108 : decode cX10_join 108 = .ok (.iaload, 1) := by decide +kernel
theorem dX10_join_109 : decode cX10_join 109 = .ok (.i2l, 1) := by decide +kernel
theorem dX10_join_110 : decode cX10_join 110 = .ok (.aload_n 0, 1) := by decide +kernel
theorem dX10_join_111 : decode cX10_join 111 = .ok (.getfield 101, 3) := by decide +kernel
theorem dX10_join_114 : decode cX10_join 114 = .ok (.bipush 40, 2) := by decide +kernel
theorem dX10_join_116 : decode cX10_join 116 = .ok (.iload_n 2, 1) := by decide +kernel
theorem dX10_join_117 : decode cX10_join 117 = .ok (.imul, 1) := by decide +kernel
theorem dX10_join_118 : decode cX10_join 118 = .ok (.iload 5, 2) := by decide +kernel
theorem dX10_join_120 : decode cX10_join 120 = .ok (.iadd, 1) := by decide +kernel
theorem dX10_join_121 : decode cX10_join 121 = .ok (.iaload, 1) := by decide +kernel
theorem dX10_join_122 : decode cX10_join 122 = .ok (.i2l, 1) := by decide +kernel
theorem dX10_join_123 : decode cX10_join 123 = .ok (.ladd, 1) := by decide +kernel
theorem dX10_join_124 : decode cX10_join 124 = .ok (.aload_n 0, 1) := by decide +kernel
theorem dX10_join_125 : decode cX10_join 125 = .ok (.getfield 101, 3) := by decide +kernel
theorem dX10_join_128 : decode cX10_join 128 = .ok (.bipush 40, 2) := by decide +kernel
theorem dX10_join_130 : decode cX10_join 130 = .ok (.iload_n 1, 1) := by decide +kernel
theorem dX10_join_131 : decode cX10_join 131 = .ok (.imul, 1) := by decide +kernel
theorem dX10_join_132 : decode cX10_join 132 = .ok (.iaload, 1) := by decide +kernel
theorem dX10_join_133 : decode cX10_join 133 = .ok (.i2l, 1) := by decide +kernel
theorem dX10_join_134 : decode cX10_join 134 = .ok (.lsub, 1) := by decide +kernel
theorem dX10_join_135 : decode cX10_join 135 = .ok (.aload_n 0, 1) := by decide +kernel
theorem dX10_join_136 : decode cX10_join 136 = .ok (.getfield 101, 3) := by decide +kernel
theorem dX10_join_139 : decode cX10_join 139 = .ok (.bipush 40, 2) := by decide +kernel
theorem dX10_join_141 : decode cX10_join 141 = .ok (.iload_n 2, 1) := by decide +kernel
theorem dX10_join_142 : decode cX10_join 142 = .ok (.imul, 1) := by decide +kernel
theorem dX10_join_143 : decode cX10_join 143 = .ok (.iaload, 1) := by decide +kernel
theorem dX10_join_144 : decode cX10_join 144 = .ok (.i2l, 1) := by decide +kernel
theorem dX10_join_145 : decode cX10_join 145 = .ok (.lsub, 1) := by decide +kernel
theorem dX10_join_146 : decode cX10_join 146 = .ok (.lstore 6, 2) := by decide +kernel
theorem dX10_join_148 : decode cX10_join 148 = .ok (.lload 6, 2) := by decide +kernel
theorem dX10_join_150 : decode cX10_join 150 = .ok (.lconst 0, 1) := by decide +kernel
theorem dX10_join_151 : decode cX10_join 151 = .ok (.lcmp, 1) := by decide +kernel
theorem dX10_join_152 : decode cX10_join 152 = .ok (.ifCond .ge 9, 3) := by decide +kernel
theorem dX10_join_155 : decode cX10_join 155 = .ok (.lload 6, 2) := by decide +kernel
theorem dX10_join_157 : decode cX10_join 157 = .ok (.lneg, 1) := by decide +kernel
theorem dX10_join_158 : decode cX10_join 158 = .ok (.goto 5, 3) := by decide +kernel
theorem dX10_join_161 : decode cX10_join 161 = .ok (.lload 6, 2) := by decide +kernel
theorem dX10_join_163 : decode cX10_join 163 = .ok (.lstore 6, 2) := by decide +kernel
theorem dX10_join_165 : decode cX10_join 165 = .ok (.lload 6, 2) := by decide +kernel
theorem dX10_join_167 : decode cX10_join 167 = .ok (.lload_n 3, 1) := by decide +kernel
theorem dX10_join_168 : decode cX10_join 168 = .ok (.lcmp, 1) := by decide +kernel
theorem dX10_join_169 : decode cX10_join 169 = .ok (.ifCond .le 8, 3) := by decide +kernel
theorem dX10_join_172 : decode cX10_join 172 = .ok (.lload 6, 2) := by decide +kernel
theorem dX10_join_174 : decode cX10_join 174 = .ok (.goto 4, 3) := by decide +kernel
theorem dX10_join_177 : decode cX10_join 177 = .ok (.lload_n 3, 1) := by decide +kernel
theorem dX10_join_178 : decode cX10_join 178 = .ok (.lstore_n 3, 1) := by decide +kernel
theorem dX10_join_179 : decode cX10_join 179 = .ok (.iinc 5 1, 3) := by decide +kernel
theorem dX10_join_182 : decode cX10_join 182 = .ok (.goto (-96), 3) := by decide +kernel
theorem dX10_join_185 : decode cX10_join 185 = .ok (.lload_n 3, 1) := by decide +kernel
theorem dX10_join_186 : decode cX10_join 186 = .ok (.lconst 0, 1) := by decide +kernel
theorem dX10_join_187 : decode cX10_join 187 = .ok (.lcmp, 1) := by decide +kernel
theorem dX10_join_188 : decode cX10_join 188 = .ok (.ifCond .ne 22, 3) := by decide +kernel
theorem dX10_join_191 : decode cX10_join 191 = .ok (.aload_n 0, 1) := by decide +kernel
theorem dX10_join_192 : decode cX10_join 192 = .ok (.getfield 83, 3) := by decide +kernel
theorem dX10_join_195 : decode cX10_join 195 = .ok (.iload_n 1, 1) := by decide +kernel
theorem dX10_join_196 : decode cX10_join 196 = .ok (.iaload, 1) := by decide +kernel
theorem dX10_join_197 : decode cX10_join 197 = .ok (.aload_n 0, 1) := by decide +kernel
theorem dX10_join_198 : decode cX10_join 198 = .ok (.getfield 83, 3) := by decide +kernel
theorem dX10_join_201 : decode cX10_join 201 = .ok (.iload_n 2, 1) := by decide +kernel
theorem dX10_join_202 : decode cX10_join 202 = .ok (.iaload, 1) := by decide +kernel
theorem dX10_join_203 : decode cX10_join 203 = .ok (.if_icmp .ne 7, 3) := by decide +kernel
theorem dX10_join_206 : decode cX10_join 206 = .ok (.iconst 2, 1) := by decide +kernel
theorem dX10_join_207 : decode cX10_join 207 = .ok (.goto 19, 3) := by decide +kernel
theorem dX10_join_210 : decode cX10_join 210 = .ok (.lload_n 3, 1) := by decide +kernel
theorem dX10_join_211 : decode cX10_join 211 = .ok (.aload_n 0, 1) := by decide +kernel
theorem dX10_join_212 : decode cX10_join 212 = .ok (.iconst 4, 1) := by decide +kernel
theorem dX10_join_213 : decode cX10_join 213 = .ok (.invokevirtual 228, 3) := by decide +kernel
theorem dX10_join_216 : decode cX10_join 216 = .ok (.i2l, 1) := by decide +kernel
theorem dX10_join_217 : decode cX10_join 217 = .ok (.lcmp, 1) := by decide +kernel
theorem dX10_join_218 : decode cX10_join 218 = .ok (.ifCond .gt 7, 3) := by decide +kernel
theorem dX10_join_221 : decode cX10_join 221 = .ok (.iconst 1, 1) := by decide +kernel
theorem dX10_join_222 : decode cX10_join 222 = .ok (.goto 4, 3) := by decide +kernel
theorem dX10_join_225 : decode cX10_join 225 = .ok (.iconst 0, 1) := by decide +kernel
theorem dX10_join_226 : decode cX10_join 226 = .ok (.ireturn, 1) := by decide +kernel
def c_X10_join_L86 (F : Nat) (a23 : Nat) (x24 : Int32) (x25 : Int32) (k185 : Int64 → z_Hp → Option (Int32 × z_Hp)) : Nat → Int64 → Int32 → z_Hp → Option (Int32 × z_Hp)
  | 0, _, _, _ => none
  | n + 1, y26, x27, h28 => (if hT h28 a23 = 10 then (lt_ (hR h28 a23 37) (fun o31 => (nn o31 (fun a32 => (if okA h28 a32 20 x24 = true then (if (hI h28 a32 (ix x24)) ≤ x27 then (k185 y26 h28) else (if hT h28 a23 = 10 then (lt_ (hR h28 a23 38) (fun o33 => (nn o33 (fun a34 => (if okA h28 a34 20 ((40 * x24) + x27) = true then (if hT h28 a23 = 10 then (lt_ (hR h28 a23 38) (fun o35 => (nn o35 (fun a36 => (if okA h28 a36 20 ((40 * x25) + x27) = true then (if hT h28 a23 = 10 then (lt_ (hR h28 a23 38) (fun o37 => (nn o37 (fun a38 => (if okA h28 a38 20 (40 * x24) = true then (if hT h28 a23 = 10 then (lt_ (hR h28 a23 38) (fun o39 => (nn o39 (fun a40 => (if okA h28 a40 20 (40 * x25) = true then (lt_ (((((hI h28 a34 (ix ((40 * x24) + x27)) : Int32).toInt64) + ((hI h28 a36 (ix ((40 * x25) + x27)) : Int32).toInt64)) - ((hI h28 a38 (ix (40 * x24)) : Int32).toInt64)) - ((hI h28 a40 (ix (40 * x25)) : Int32).toInt64)) (fun y41 => (lt_ (fun (y43 : Int64) (h44 : z_Hp) => (lt_ (fun (y46 : Int64) (h47 : z_Hp) => (lt_ (x27 + 1) (fun x48 => (c_X10_join_L86 F a23 x24 x25 k185 n y46 x48 h47)))) (fun (j178_45 : Int64 → z_Hp → Option (Int32 × z_Hp)) => (if (lg_cmp y43 y26) ≤ 0 then (j178_45 y26 h44) else (j178_45 y43 h44))))) (fun (j163_42 : Int64 → z_Hp → Option (Int32 × z_Hp)) => (if 0 ≤ (lg_cmp y41 0) then (j163_42 y41 h28) else (j163_42 (-y41) h28)))))) else none))))) else none) else none))))) else none) else none))))) else none) else none))))) else none)) else none))))) else none)
def c_X10_join (F : Nat) (a0 : Nat) (x1 : Int32) (x2 : Int32) (h0 : z_Hp) : Option (Int32 × z_Hp) := (if hT h0 a0 = 10 then (bI (c_X10_isSheet F a0 x1 h0) (fun x4 h3 => (if x4 = 0 then (some ((-1), h3)) else (if hT h3 a0 = 10 then (bI (c_X10_isSheet F a0 x2 h3) (fun x6 h5 => (if x6 = 0 then (some ((-1), h5)) else (if x1 = x2 then (some ((-1), h5)) else (if hT h5 a0 = 10 then (lt_ (hR h5 a0 27) (fun o7 => (nn o7 (fun a8 => (if okA h5 a8 20 x1 = true then (lt_ (fun (h10 : z_Hp) => (if hT h10 a0 = 10 then (bI (c_X10_meets F a0 3 h10) (fun x12 h11 => (some (x12, h11)))) else none)) (fun (j43_9 : z_Hp → Option (Int32 × z_Hp)) => (if (hI h5 a8 (ix x1)) = 2 then (if hT h5 a0 = 10 then (lt_ (hR h5 a0 27) (fun o13 => (nn o13 (fun a14 => (if okA h5 a14 20 x2 = true then (if (hI h5 a14 (ix x2)) = 2 then (if hT h5 a0 = 10 then (lt_ (hR h5 a0 37) (fun o15 => (nn o15 (fun a16 => (if okA h5 a16 20 x1 = true then (if hT h5 a0 = 10 then (lt_ (hR h5 a0 37) (fun o17 => (nn o17 (fun a18 => (if okA h5 a18 20 x2 = true then (if (hI h5 a16 (ix x1)) = (hI h5 a18 (ix x2)) then (if hT h5 a0 = 10 then (lt_ (hR h5 a0 29) (fun o19 => (nn o19 (fun a20 => (if okA h5 a20 20 x1 = true then (if hT h5 a0 = 10 then (lt_ (hR h5 a0 29) (fun o21 => (nn o21 (fun a22 => (if okA h5 a22 20 x2 = true then (if (hI h5 a20 (ix x1)) = (hI h5 a22 (ix x2)) then (c_X10_join_L86 F a0 x1 x2 (fun y49 h50 => (lt_ (fun (h52 : z_Hp) => (if hT h52 a0 = 10 then (bI (c_X10_nowInForce F a0 4 h52) (fun x54 h53 => (if 0 < (lg_cmp y49 ((x54 : Int32).toInt64)) then (some (0, h53)) else (some (1, h53))))) else none)) (fun (j210_51 : z_Hp → Option (Int32 × z_Hp)) => (if (lg_cmp y49 0) = 0 then (if hT h50 a0 = 10 then (lt_ (hR h50 a0 32) (fun o55 => (nn o55 (fun a56 => (if okA h50 a56 20 x1 = true then (if hT h50 a0 = 10 then (lt_ (hR h50 a0 32) (fun o57 => (nn o57 (fun a58 => (if okA h50 a58 20 x2 = true then (if (hI h50 a56 (ix x1)) = (hI h50 a58 (ix x2)) then (some (2, h50)) else (j210_51 h50)) else none))))) else none) else none))))) else none) else (j210_51 h50))))) F 0 0 h5) else (some (0, h5))) else none))))) else none) else none))))) else none) else (some (0, h5))) else none))))) else none) else none))))) else none) else (j43_9 h5)) else none))))) else none) else (j43_9 h5)))) else none))))) else none))))) else none)))) else none)
set_option maxRecDepth 20000 in
set_option maxHeartbeats 4000000 in
theorem g_X10_join_L86 (F : Nat) (a23 : Nat) (x24 : Int32) (x25 : Int32) (k185 : Int64 → z_Hp → Option (Int32 × z_Hp)) (qk185 : ∀ (y29 : Int64) (h30 : z_Hp), z_G zi mi_X10_join 185 [(0, vr (some a23)), (1, vi x24), (2, vi x25), (3, vl y29)] [] h30 (k185 y29 h30)) : ∀ (n : Nat) (y26 : Int64) (x27 : Int32) (h28 : z_Hp), z_G zi mi_X10_join 86 [(0, vr (some a23)), (1, vi x24), (2, vi x25), (3, vl y26), (5, vi x27)] [] h28 (c_X10_join_L86 F a23 x24 x25 k185 n y26 x27 h28) := by
  intro n
  induction n with
  | zero => intro y26 x27 h28; rw [c_X10_join_L86]; exact z_none
  | succ n ih =>
    intro y26 x27 h28
    rw [c_X10_join_L86]
    refine z_iload (pc := 86) dX10_join_86 4 rfl (z_aload_n (pc := 88) dX10_join_88 rfl 0 rfl (z_getRl (pc := 89) fl_RX10_98 rfl dX10_join_89 (fun o31 => (z_iload_n (pc := 92) dX10_join_92 rfl 1 rfl (?_)))))
    refine z_nn (fun a32 ea32 => ?_)
    subst ea32
    refine z_iaload (pc := 93) dX10_join_93 (?_)
    refine z_icmp_ge (pc := 94) (tgt := 185) dX10_join_94 (by decide) ?_ ?_
    · exact z_sub [0, 1, 2, 3] rfl (qk185 y26 h28)
    · refine z_aload_n (pc := 97) dX10_join_97 rfl 0 rfl (z_getRl (pc := 98) fl_RX10_101 rfl dX10_join_98 (fun o33 => (z_bipush (pc := 101) dX10_join_101 bp_40 (z_iload_n (pc := 103) dX10_join_103 rfl 1 rfl (z_imul (pc := 104) dX10_join_104 (z_iload (pc := 105) dX10_join_105 4 rfl (z_iadd (pc := 107) dX10_join_107 (?_))))))))
      refine z_nn (fun a34 ea34 => ?_)
      subst ea34
      refine z_iaload (pc := 108) dX10_join_108 (z_i2l (pc := 109) dX10_join_109 (z_aload_n (pc := 110) dX10_join_110 rfl 0 rfl (z_getRl (pc := 111) fl_RX10_101 rfl dX10_join_111 (fun o35 => (z_bipush (pc := 114) dX10_join_114 bp_40 (z_iload_n (pc := 116) dX10_join_116 rfl 2 rfl (z_imul (pc := 117) dX10_join_117 (z_iload (pc := 118) dX10_join_118 4 rfl (?_)))))))))
      refine z_iadd (pc := 120) dX10_join_120 (?_)
      refine z_nn (fun a36 ea36 => ?_)
      subst ea36
      refine z_iaload (pc := 121) dX10_join_121 (z_i2l (pc := 122) dX10_join_122 (z_ladd (pc := 123) dX10_join_123 (z_aload_n (pc := 124) dX10_join_124 rfl 0 rfl (z_getRl (pc := 125) fl_RX10_101 rfl dX10_join_125 (fun o37 => (z_bipush (pc := 128) dX10_join_128 bp_40 (z_iload_n (pc := 130) dX10_join_130 rfl 1 rfl (z_imul (pc := 131) dX10_join_131 (?_)))))))))
      refine z_nn (fun a38 ea38 => ?_)
      subst ea38
      refine z_iaload (pc := 132) dX10_join_132 (z_i2l (pc := 133) dX10_join_133 (z_lsub (pc := 134) dX10_join_134 (z_aload_n (pc := 135) dX10_join_135 rfl 0 rfl (z_getRl (pc := 136) fl_RX10_101 rfl dX10_join_136 (fun o39 => (z_bipush (pc := 139) dX10_join_139 bp_40 (z_iload_n (pc := 141) dX10_join_141 rfl 2 rfl (z_imul (pc := 142) dX10_join_142 (?_)))))))))
      refine z_nn (fun a40 ea40 => ?_)
      subst ea40
      refine z_iaload (pc := 143) dX10_join_143 (z_i2l (pc := 144) dX10_join_144 (z_lsub (pc := 145) dX10_join_145 (z_lstorel (pc := 146) (L' := fun y41 => [(0, vr (some a23)), (1, vi x24), (2, vi x25), (3, vl y26), (5, vi x27), (6, vl y41)]) dX10_join_146 (Nat.le_of_ble_eq_true rfl) (fun _ => rfl) (fun y41 => (z_lload (pc := 148) dX10_join_148 5 rfl (z_lconst (pc := 150) dX10_join_150 lc_0 (z_lcmp (pc := 151) dX10_join_151 (?_))))))))
      refine z_jn (P := fun (j : Int64 → z_Hp → Option (Int32 × z_Hp)) => ∀ (y43 : Int64) (h44 : z_Hp), z_G zi mi_X10_join 163 [(0, vr (some a23)), (1, vi x24), (2, vi x25), (3, vl y26), (5, vi x27)] [vl y43] h44 (j y43 h44)) (fun y43 h44 => ?_) (fun j163_42 qj163_42 => ?_)
      · refine z_lstore (pc := 163) (L' := [(0, vr (some a23)), (1, vi x24), (2, vi x25), (3, vl y26), (5, vi x27), (6, vl y43)]) dX10_join_163 (Nat.le_of_ble_eq_true rfl) rfl (z_lload (pc := 165) dX10_join_165 5 rfl (z_lload_n (pc := 167) dX10_join_167 rfl 3 rfl (z_lcmp (pc := 168) dX10_join_168 (?_))))
        refine z_jn (P := fun (j : Int64 → z_Hp → Option (Int32 × z_Hp)) => ∀ (y46 : Int64) (h47 : z_Hp), z_G zi mi_X10_join 178 [(0, vr (some a23)), (1, vi x24), (2, vi x25), (5, vi x27)] [vl y46] h47 (j y46 h47)) (fun y46 h47 => ?_) (fun j178_45 qj178_45 => ?_)
        · refine z_lstore_n (pc := 178) (L' := [(0, vr (some a23)), (1, vi x24), (2, vi x25), (3, vl y46), (5, vi x27)]) dX10_join_178 rfl (Nat.le_of_ble_eq_true rfl) rfl (z_iincl (pc := 179) (L' := fun x48 => [(0, vr (some a23)), (1, vi x24), (2, vi x25), (3, vl y46), (5, vi x48)]) dX10_join_179 4 rfl ic_1 (Nat.le_of_ble_eq_true rfl) (fun _ => rfl) (fun x48 => (z_goto (pc := 182) (tgt := 86) dX10_join_182 (by decide) (?_))))
          exact ih y46 x48 h47
        refine z_if_le (pc := 169) (tgt := 177) dX10_join_169 (by decide) ?_ ?_
        · refine z_lload_n (pc := 177) dX10_join_177 rfl 3 rfl (?_)
          exact z_sub [0, 1, 2, 4] rfl (qj178_45 y26 h44)
        · refine z_lload (pc := 172) dX10_join_172 5 rfl (z_goto (pc := 174) (tgt := 178) dX10_join_174 (by decide) (?_))
          exact z_sub [0, 1, 2, 4] rfl (qj178_45 y43 h44)
      refine z_if_ge (pc := 152) (tgt := 161) dX10_join_152 (by decide) ?_ ?_
      · refine z_lload (pc := 161) dX10_join_161 5 rfl (?_)
        exact z_sub [0, 1, 2, 3, 4] rfl (qj163_42 y41 h28)
      · refine z_lload (pc := 155) dX10_join_155 5 rfl (z_lneg (pc := 157) dX10_join_157 (z_goto (pc := 158) (tgt := 163) dX10_join_158 (by decide) (?_)))
        exact z_sub [0, 1, 2, 3, 4] rfl (qj163_42 (-y41) h28)
set_option maxRecDepth 20000 in
set_option maxHeartbeats 4000000 in
theorem t_X10_join (F : Nat) (a0 : Nat) (x1 : Int32) (x2 : Int32) (h0 : z_Hp) : z_Ct zi mi_X10_join [vr (some a0), vi x1, vi x2] h0 (c_X10_join F a0 x1 x2 h0) := by
  refine z_entry (by decide) (Nat.le_of_ble_eq_true rfl) [(0, vr (some a0)), (1, vi x1), (2, vi x2)] rfl ?_
  unfold c_X10_join
  refine z_aload_n (pc := 0) dX10_join_0 rfl 0 rfl (z_iload_n (pc := 1) dX10_join_1 rfl 1 rfl (z_callV_I (pc := 2) (avs := [vi x1]) (st := []) rfl (q := (RX10, TX10, 62)) rfl rfl (t_X10_isSheet F a0 x1 h0) ky_X10_isSheet wm_X10_isSheet we_X10_isSheet wz_RX10_265 (rm_X10_join_X10_isSheet) (Nat.le_of_ble_eq_true rfl) dX10_join_2 (fun x4 h3 => (?_))))
  refine z_if_eq (pc := 5) (tgt := 21) dX10_join_5 (by decide) ?_ ?_
  · refine z_iconst (pc := 21) dX10_join_21 ic_m1 (?_)
    exact z_iret (pc := 22) dX10_join_22 rfl rfl
  · refine z_aload_n (pc := 8) dX10_join_8 rfl 0 rfl (z_iload_n (pc := 9) dX10_join_9 rfl 2 rfl (z_callV_I (pc := 10) (avs := [vi x2]) (st := []) rfl (q := (RX10, TX10, 62)) rfl rfl (t_X10_isSheet F a0 x2 h3) ky_X10_isSheet wm_X10_isSheet we_X10_isSheet wz_RX10_265 (rm_X10_join_X10_isSheet) (Nat.le_of_ble_eq_true rfl) dX10_join_10 (fun x6 h5 => (?_))))
    refine z_if_eq (pc := 13) (tgt := 21) dX10_join_13 (by decide) ?_ ?_
    · refine z_iconst (pc := 21) dX10_join_21 ic_m1 (?_)
      exact z_iret (pc := 22) dX10_join_22 rfl rfl
    · refine z_iload_n (pc := 16) dX10_join_16 rfl 1 rfl (z_iload_n (pc := 17) dX10_join_17 rfl 2 rfl (?_))
      refine z_icmp_ne (pc := 18) (tgt := 23) dX10_join_18 (by decide) ?_ ?_
      · refine z_aload_n (pc := 23) dX10_join_23 rfl 0 rfl (z_getRl (pc := 24) fl_RX10_68 rfl dX10_join_24 (fun o7 => (z_iload_n (pc := 27) dX10_join_27 rfl 1 rfl (?_))))
        refine z_nn (fun a8 ea8 => ?_)
        subst ea8
        refine z_iaload (pc := 28) dX10_join_28 (z_iconst (pc := 29) dX10_join_29 ic_2 (?_))
        refine z_jn (P := fun (j : z_Hp → Option (Int32 × z_Hp)) => ∀ (h10 : z_Hp), z_G zi mi_X10_join 43 [(0, vr (some a0))] [] h10 (j h10)) (fun h10 => ?_) (fun j43_9 qj43_9 => ?_)
        · refine z_aload_n (pc := 43) dX10_join_43 rfl 0 rfl (z_iconst (pc := 44) dX10_join_44 ic_3 (z_callV_I (pc := 45) (avs := [vi 3]) (st := []) rfl (q := (RX10, TX10, 62)) rfl rfl (t_X10_meets F a0 3 h10) ky_X10_meets wm_X10_meets we_X10_meets wz_RX10_174 (rm_X10_join_X10_meets) (Nat.le_of_ble_eq_true rfl) dX10_join_45 (fun x12 h11 => (?_))))
          exact z_iret (pc := 48) dX10_join_48 rfl rfl
        refine z_icmp_ne (pc := 30) (tgt := 43) dX10_join_30 (by decide) ?_ ?_
        · exact z_sub [0] rfl (qj43_9 h5)
        · refine z_aload_n (pc := 33) dX10_join_33 rfl 0 rfl (z_getRl (pc := 34) fl_RX10_68 rfl dX10_join_34 (fun o13 => (z_iload_n (pc := 37) dX10_join_37 rfl 2 rfl (?_))))
          refine z_nn (fun a14 ea14 => ?_)
          subst ea14
          refine z_iaload (pc := 38) dX10_join_38 (z_iconst (pc := 39) dX10_join_39 ic_2 (?_))
          refine z_icmp_eq (pc := 40) (tgt := 49) dX10_join_40 (by decide) ?_ ?_
          · refine z_aload_n (pc := 49) dX10_join_49 rfl 0 rfl (z_getRl (pc := 50) fl_RX10_98 rfl dX10_join_50 (fun o15 => (z_iload_n (pc := 53) dX10_join_53 rfl 1 rfl (?_))))
            refine z_nn (fun a16 ea16 => ?_)
            subst ea16
            refine z_iaload (pc := 54) dX10_join_54 (z_aload_n (pc := 55) dX10_join_55 rfl 0 rfl (z_getRl (pc := 56) fl_RX10_98 rfl dX10_join_56 (fun o17 => (z_iload_n (pc := 59) dX10_join_59 rfl 2 rfl (?_)))))
            refine z_nn (fun a18 ea18 => ?_)
            subst ea18
            refine z_iaload (pc := 60) dX10_join_60 (?_)
            refine z_icmp_ne (pc := 61) (tgt := 79) dX10_join_61 (by decide) ?_ ?_
            · refine z_iconst (pc := 79) dX10_join_79 ic_0 (?_)
              exact z_iret (pc := 80) dX10_join_80 rfl rfl
            · refine z_aload_n (pc := 64) dX10_join_64 rfl 0 rfl (z_getRl (pc := 65) fl_RX10_74 rfl dX10_join_65 (fun o19 => (z_iload_n (pc := 68) dX10_join_68 rfl 1 rfl (?_))))
              refine z_nn (fun a20 ea20 => ?_)
              subst ea20
              refine z_iaload (pc := 69) dX10_join_69 (z_aload_n (pc := 70) dX10_join_70 rfl 0 rfl (z_getRl (pc := 71) fl_RX10_74 rfl dX10_join_71 (fun o21 => (z_iload_n (pc := 74) dX10_join_74 rfl 2 rfl (?_)))))
              refine z_nn (fun a22 ea22 => ?_)
              subst ea22
              refine z_iaload (pc := 75) dX10_join_75 (?_)
              refine z_icmp_eq (pc := 76) (tgt := 81) dX10_join_76 (by decide) ?_ ?_
              · refine z_lconst (pc := 81) dX10_join_81 lc_0 (z_lstore_n (pc := 82) (L' := [(0, vr (some a0)), (1, vi x1), (2, vi x2), (3, vl 0)]) dX10_join_82 rfl (Nat.le_of_ble_eq_true rfl) rfl (z_iconst (pc := 83) dX10_join_83 ic_0 (z_istore (pc := 84) (L' := [(0, vr (some a0)), (1, vi x1), (2, vi x2), (3, vl 0), (5, vi 0)]) dX10_join_84 (Nat.le_of_ble_eq_true rfl) rfl (?_))))
                refine g_X10_join_L86 F a0 x1 x2 _ (fun y49 h50 => ?_) F 0 0 h5
                refine z_lload_n (pc := 185) dX10_join_185 rfl 3 rfl (z_lconst (pc := 186) dX10_join_186 lc_0 (z_lcmp (pc := 187) dX10_join_187 (?_)))
                refine z_jn (P := fun (j : z_Hp → Option (Int32 × z_Hp)) => ∀ (h52 : z_Hp), z_G zi mi_X10_join 210 [(0, vr (some a0)), (3, vl y49)] [] h52 (j h52)) (fun h52 => ?_) (fun j210_51 qj210_51 => ?_)
                · refine z_lload_n (pc := 210) dX10_join_210 rfl 1 rfl (z_aload_n (pc := 211) dX10_join_211 rfl 0 rfl (z_iconst (pc := 212) dX10_join_212 ic_4 (z_callV_I (pc := 213) (avs := [vi 4]) (st := [vl y49]) rfl (q := (RX10, TX10, 62)) rfl rfl (t_X10_nowInForce F a0 4 h52) ky_X10_nowInForce wm_X10_nowInForce we_X10_nowInForce wz_RX10_228 (rm_X10_join_X10_nowInForce) (Nat.le_of_ble_eq_true rfl) dX10_join_213 (fun x54 h53 => (?_)))))
                  refine z_i2l (pc := 216) dX10_join_216 (z_lcmp (pc := 217) dX10_join_217 (?_))
                  refine z_if_gt (pc := 218) (tgt := 225) dX10_join_218 (by decide) ?_ ?_
                  · refine z_iconst (pc := 225) dX10_join_225 ic_0 (?_)
                    exact z_iret (pc := 226) dX10_join_226 rfl rfl
                  · refine z_iconst (pc := 221) dX10_join_221 ic_1 (z_goto (pc := 222) (tgt := 226) dX10_join_222 (by decide) (?_))
                    exact z_iret (pc := 226) dX10_join_226 rfl rfl
                refine z_if_ne (pc := 188) (tgt := 210) dX10_join_188 (by decide) ?_ ?_
                · exact z_sub [0, 3] rfl (qj210_51 h50)
                · refine z_aload_n (pc := 191) dX10_join_191 rfl 0 rfl (z_getRl (pc := 192) fl_RX10_83 rfl dX10_join_192 (fun o55 => (z_iload_n (pc := 195) dX10_join_195 rfl 1 rfl (?_))))
                  refine z_nn (fun a56 ea56 => ?_)
                  subst ea56
                  refine z_iaload (pc := 196) dX10_join_196 (z_aload_n (pc := 197) dX10_join_197 rfl 0 rfl (z_getRl (pc := 198) fl_RX10_83 rfl dX10_join_198 (fun o57 => (z_iload_n (pc := 201) dX10_join_201 rfl 2 rfl (?_)))))
                  refine z_nn (fun a58 ea58 => ?_)
                  subst ea58
                  refine z_iaload (pc := 202) dX10_join_202 (?_)
                  refine z_icmp_ne (pc := 203) (tgt := 210) dX10_join_203 (by decide) ?_ ?_
                  · exact z_sub [0, 3] rfl (qj210_51 h50)
                  · refine z_iconst (pc := 206) dX10_join_206 ic_2 (z_goto (pc := 207) (tgt := 226) dX10_join_207 (by decide) (?_))
                    exact z_iret (pc := 226) dX10_join_226 rfl rfl
              · refine z_iconst (pc := 79) dX10_join_79 ic_0 (?_)
                exact z_iret (pc := 80) dX10_join_80 rfl rfl
          · exact z_sub [0] rfl (qj43_9 h5)
      · refine z_iconst (pc := 21) dX10_join_21 ic_m1 (?_)
        exact z_iret (pc := 22) dX10_join_22 rfl rfl
theorem dX10_isSeller_0 : decode cX10_isSeller 0 = .ok (.iload_n 0, 1) := by decide +kernel
theorem dX10_isSeller_1 : decode cX10_isSeller 1 = .ok (.iconst 0, 1) := by decide +kernel
theorem dX10_isSeller_2 : decode cX10_isSeller 2 = .ok (.iconst 3, 1) := by decide +kernel
theorem dX10_isSeller_3 : decode cX10_isSeller 3 = .ok (.invokestatic 166, 3) := by decide +kernel
theorem dX10_isSeller_6 : decode cX10_isSeller 6 = .ok (.ireturn, 1) := by decide +kernel
def c_X10_isSeller (F : Nat) (x1 : Int32) (h0 : z_Hp) : Option (Int32 × z_Hp) := (bI (c_X10_in F x1 0 3 h0) (fun x3 h2 => (if x3 = 0 ∨ x3 = 1 then some (x3, h2) else none)))
set_option maxRecDepth 20000 in
set_option maxHeartbeats 4000000 in
theorem t_X10_isSeller (F : Nat) (x1 : Int32) (h0 : z_Hp) : z_Ct zi mi_X10_isSeller [vi x1] h0 (c_X10_isSeller F x1 h0) := by
  refine z_entry (by decide) (Nat.le_of_ble_eq_true rfl) [(0, vi x1)] rfl ?_
  unfold c_X10_isSeller
  refine z_iload_n (pc := 0) dX10_isSeller_0 rfl 0 rfl (z_iconst (pc := 1) dX10_isSeller_1 ic_0 (z_iconst (pc := 2) dX10_isSeller_2 ic_3 (z_callS_I (pc := 3) (avs := [vi x1, vi 0, vi 3]) (st := []) rfl (t_X10_in F x1 0 3 h0) ky_X10_in ws_X10_in wz_RX10_166 (rm_X10_isSeller_X10_in) (Nat.le_of_ble_eq_true rfl) dX10_isSeller_3 (fun x3 h2 => (?_)))))
  exact z_zret (pc := 6) dX10_isSeller_6 rfl
theorem dX10_isPlace_0 : decode cX10_isPlace 0 = .ok (.iload_n 0, 1) := by decide +kernel
theorem dX10_isPlace_1 : decode cX10_isPlace 1 = .ok (.iconst 0, 1) := by decide +kernel
theorem dX10_isPlace_2 : decode cX10_isPlace 2 = .ok (.bipush 9, 2) := by decide +kernel
theorem dX10_isPlace_4 : decode cX10_isPlace 4 = .ok (.invokestatic 166, 3) := by decide +kernel
theorem dX10_isPlace_7 : decode cX10_isPlace 7 = .ok (.ireturn, 1) := by decide +kernel
def c_X10_isPlace (F : Nat) (x1 : Int32) (h0 : z_Hp) : Option (Int32 × z_Hp) := (bI (c_X10_in F x1 0 9 h0) (fun x3 h2 => (if x3 = 0 ∨ x3 = 1 then some (x3, h2) else none)))
set_option maxRecDepth 20000 in
set_option maxHeartbeats 4000000 in
theorem t_X10_isPlace (F : Nat) (x1 : Int32) (h0 : z_Hp) : z_Ct zi mi_X10_isPlace [vi x1] h0 (c_X10_isPlace F x1 h0) := by
  refine z_entry (by decide) (Nat.le_of_ble_eq_true rfl) [(0, vi x1)] rfl ?_
  unfold c_X10_isPlace
  refine z_iload_n (pc := 0) dX10_isPlace_0 rfl 0 rfl (z_iconst (pc := 1) dX10_isPlace_1 ic_0 (z_bipush (pc := 2) dX10_isPlace_2 bp_9 (z_callS_I (pc := 4) (avs := [vi x1, vi 0, vi 9]) (st := []) rfl (t_X10_in F x1 0 9 h0) ky_X10_in ws_X10_in wz_RX10_166 (rm_X10_isPlace_X10_in) (Nat.le_of_ble_eq_true rfl) dX10_isPlace_4 (fun x3 h2 => (?_)))))
  exact z_zret (pc := 7) dX10_isPlace_7 rfl
theorem dX10_isEarly_0 : decode cX10_isEarly 0 = .ok (.iload_n 0, 1) := by decide +kernel
theorem dX10_isEarly_1 : decode cX10_isEarly 1 = .ok (.iconst 0, 1) := by decide +kernel
theorem dX10_isEarly_2 : decode cX10_isEarly 2 = .ok (.bipush 99, 2) := by decide +kernel
theorem dX10_isEarly_4 : decode cX10_isEarly 4 = .ok (.invokestatic 166, 3) := by decide +kernel
theorem dX10_isEarly_7 : decode cX10_isEarly 7 = .ok (.ireturn, 1) := by decide +kernel
def c_X10_isEarly (F : Nat) (x1 : Int32) (h0 : z_Hp) : Option (Int32 × z_Hp) := (bI (c_X10_in F x1 0 99 h0) (fun x3 h2 => (if x3 = 0 ∨ x3 = 1 then some (x3, h2) else none)))
set_option maxRecDepth 20000 in
set_option maxHeartbeats 4000000 in
theorem t_X10_isEarly (F : Nat) (x1 : Int32) (h0 : z_Hp) : z_Ct zi mi_X10_isEarly [vi x1] h0 (c_X10_isEarly F x1 h0) := by
  refine z_entry (by decide) (Nat.le_of_ble_eq_true rfl) [(0, vi x1)] rfl ?_
  unfold c_X10_isEarly
  refine z_iload_n (pc := 0) dX10_isEarly_0 rfl 0 rfl (z_iconst (pc := 1) dX10_isEarly_1 ic_0 (z_bipush (pc := 2) dX10_isEarly_2 bp_99 (z_callS_I (pc := 4) (avs := [vi x1, vi 0, vi 99]) (st := []) rfl (t_X10_in F x1 0 99 h0) ky_X10_in ws_X10_in wz_RX10_166 (rm_X10_isEarly_X10_in) (Nat.le_of_ble_eq_true rfl) dX10_isEarly_4 (fun x3 h2 => (?_)))))
  exact z_zret (pc := 7) dX10_isEarly_7 rfl
theorem dX10_walk_0 : decode cX10_walk 0 = .ok (.iload_n 1, 1) := by decide +kernel
theorem dX10_walk_1 : decode cX10_walk 1 = .ok (.invokestatic 352, 3) := by decide +kernel
theorem dX10_walk_4 : decode cX10_walk 4 = .ok (.ifCond .eq 10, 3) := by decide +kernel
theorem dX10_walk_7 : decode cX10_walk 7 = .ok (.iload_n 2, 1) := by decide +kernel
theorem dX10_walk_8 : decode cX10_walk 8 = .ok (.invokestatic 170, 3) := by decide +kernel
theorem dX10_walk_11 : decode cX10_walk 11 = .ok (.ifCond .ne 5, 3) := by decide +kernel
theorem dX10_walk_14 : decode cX10_walk 14 = .ok (.iconst (-1), 1) := by decide +kernel
theorem dX10_walk_15 : decode cX10_walk 15 = .ok (.ireturn, 1) := by decide +kernel
theorem dX10_walk_16 : decode cX10_walk 16 = .ok (.aload_n 0, 1) := by decide +kernel
theorem dX10_walk_17 : decode cX10_walk 17 = .ok (.getfield 17, 3) := by decide +kernel
theorem dX10_walk_20 : decode cX10_walk 20 = .ok (.iload_n 2, 1) := by decide +kernel
theorem dX10_walk_21 : decode cX10_walk 21 = .ok (.iaload, 1) := by decide +kernel
theorem dX10_walk_22 : decode cX10_walk 22 = .ok (.ifCond .ge 9, 3) := by decide +kernel
theorem dX10_walk_25 : decode cX10_walk 25 = .ok (.aload_n 0, 1) := by decide +kernel
theorem dX10_walk_26 : decode cX10_walk 26 = .ok (.iconst 1, 1) := by decide +kernel
theorem dX10_walk_27 : decode cX10_walk 27 = .ok (.invokevirtual 174, 3) := by decide +kernel
theorem dX10_walk_30 : decode cX10_walk 30 = .ok (.ireturn, 1) := by decide +kernel
theorem dX10_walk_31 : decode cX10_walk 31 = .ok (.aload_n 0, 1) := by decide +kernel
theorem dX10_walk_32 : decode cX10_walk 32 = .ok (.getfield 17, 3) := by decide +kernel
theorem dX10_walk_35 : decode cX10_walk 35 = .ok (.iload_n 2, 1) := by decide +kernel
theorem dX10_walk_36 : decode cX10_walk 36 = .ok (.iaload, 1) := by decide +kernel
theorem dX10_walk_37 : decode cX10_walk 37 = .ok (.ifCond .ne 9, 3) := by decide +kernel
theorem dX10_walk_40 : decode cX10_walk 40 = .ok (.aload_n 0, 1) := by decide +kernel
theorem dX10_walk_41 : decode cX10_walk 41 = .ok (.iconst 5, 1) := by decide +kernel
theorem dX10_walk_42 : decode cX10_walk 42 = .ok (.invokevirtual 174, 3) := by decide +kernel
theorem dX10_walk_45 : decode cX10_walk 45 = .ok (.ireturn, 1) := by decide +kernel
theorem dX10_walk_46 : decode cX10_walk 46 = .ok (.iconst 0, 1) := by decide +kernel
theorem dX10_walk_47 : decode cX10_walk 47 = .ok (.istore_n 3, 1) := by decide +kernel
theorem dX10_walk_48 : decode cX10_walk 48 = .ok (.iload_n 3, 1) := by decide +kernel
theorem dX10_walk_49 : decode cX10_walk 49 = .ok (.aload_n 0, 1) := by decide +kernel
theorem dX10_walk_50 : decode cX10_walk 50 = .ok (.getfield 17, 3) := by decide +kernel
theorem dX10_walk_53 : decode cX10_walk 53 = .ok (.iload_n 2, 1) := by decide +kernel
theorem dX10_walk_54 : decode cX10_walk 54 = .ok (.iaload, 1) := by decide +kernel
theorem dX10_walk_55 : decode cX10_walk 55 = .ok (.if_icmp .ge 32, 3) := by decide +kernel
theorem dX10_walk_58 : decode cX10_walk 58 = .ok (.aload_n 0, 1) := by decide +kernel
theorem dX10_walk_59 : decode cX10_walk 59 = .ok (.getfield 20, 3) := by decide +kernel
theorem dX10_walk_62 : decode cX10_walk 62 = .ok (.bipush 40, 2) := by decide +kernel
theorem dX10_walk_64 : decode cX10_walk 64 = .ok (.iload_n 2, 1) := by decide +kernel
theorem dX10_walk_65 : decode cX10_walk 65 = .ok (.imul, 1) := by decide +kernel
theorem dX10_walk_66 : decode cX10_walk 66 = .ok (.iload_n 3, 1) := by decide +kernel
theorem dX10_walk_67 : decode cX10_walk 67 = .ok (.iadd, 1) := by decide +kernel
theorem dX10_walk_68 : decode cX10_walk 68 = .ok (.iaload, 1) := by decide +kernel
theorem dX10_walk_69 : decode cX10_walk 69 = .ok (.invokestatic 355, 3) := by decide +kernel
theorem dX10_walk_72 : decode cX10_walk 72 = .ok (.ifCond .ne 9, 3) := by decide +kernel
theorem dX10_walk_75 : decode cX10_walk 75 = .ok (.aload_n 0, 1) := by decide +kernel
theorem dX10_walk_76 : decode cX10_walk 76 = .ok (.iconst 3, 1) := by decide +kernel
theorem dX10_walk_77 : decode cX10_walk 77 = .ok (.invokevirtual 174, 3) := by decide +kernel
theorem dX10_walk_80 : decode cX10_walk 80 = .ok (.ireturn, 1) := by decide +kernel
theorem dX10_walk_81 : decode cX10_walk 81 = .ok (.iinc 3 1, 3) := by decide +kernel
theorem dX10_walk_84 : decode cX10_walk 84 = .ok (.goto (-36), 3) := by decide +kernel
theorem dX10_walk_87 : decode cX10_walk 87 = .ok (.aload_n 0, 1) := by decide +kernel
theorem dX10_walk_88 : decode cX10_walk 88 = .ok (.getfield 141, 3) := by decide +kernel
theorem dX10_walk_91 : decode cX10_walk 91 = .ok (.iload_n 1, 1) := by decide +kernel
theorem dX10_walk_92 : decode cX10_walk 92 = .ok (.aload_n 0, 1) := by decide +kernel
theorem dX10_walk_93 : decode cX10_walk 93 = .ok (.getfield 17, 3) := by decide +kernel
theorem dX10_walk_96 : decode cX10_walk 96 = .ok (.iload_n 2, 1) := by decide +kernel
theorem dX10_walk_97 : decode cX10_walk 97 = .ok (.iaload, 1) := by decide +kernel
theorem dX10_walk_98 : decode cX10_walk 98 = .ok (.iastore, 1) := by decide +kernel
theorem dX10_walk_99 : decode cX10_walk 99 = .ok (.iconst 0, 1) := by decide +kernel
theorem dX10_walk_100 : decode cX10_walk 100 = .ok (.istore_n 3, 1) := by decide +kernel
theorem dX10_walk_101 : decode cX10_walk 101 = .ok (.iload_n 3, 1) := by decide +kernel
theorem dX10_walk_102 : decode cX10_walk 102 = .ok (.aload_n 0, 1) := by decide +kernel
theorem dX10_walk_103 : decode cX10_walk 103 = .ok (.getfield 17, 3) := by decide +kernel
theorem dX10_walk_106 : decode cX10_walk 106 = .ok (.iload_n 2, 1) := by decide +kernel
theorem dX10_walk_107 : decode cX10_walk 107 = .ok (.iaload, 1) := by decide +kernel
theorem dX10_walk_108 : decode cX10_walk 108 = .ok (.if_icmp .ge 31, 3) := by decide +kernel
theorem dX10_walk_111 : decode cX10_walk 111 = .ok (.aload_n 0, 1) := by decide +kernel
theorem dX10_walk_112 : decode cX10_walk 112 = .ok (.getfield 144, 3) := by decide +kernel
theorem dX10_walk_115 : decode cX10_walk 115 = .ok (.bipush 40, 2) := by decide +kernel
theorem dX10_walk_117 : decode cX10_walk 117 = .ok (.iload_n 1, 1) := by decide +kernel
theorem dX10_walk_118 : decode cX10_walk 118 = .ok (.imul, 1) := by decide +kernel
theorem dX10_walk_119 : decode cX10_walk 119 = .ok (.iload_n 3, 1) := by decide +kernel
theorem dX10_walk_120 : decode cX10_walk 120 = .ok (.iadd, 1) := by decide +kernel
theorem dX10_walk_121 : decode cX10_walk 121 = .ok (.aload_n 0, 1) := by decide +kernel
theorem dX10_walk_122 : decode cX10_walk 122 = .ok (.getfield 20, 3) := by decide +kernel
theorem dX10_walk_125 : decode cX10_walk 125 = .ok (.bipush 40, 2) := by decide +kernel
theorem dX10_walk_127 : decode cX10_walk 127 = .ok (.iload_n 2, 1) := by decide +kernel
theorem dX10_walk_128 : decode cX10_walk 128 = .ok (.imul, 1) := by decide +kernel
theorem dX10_walk_129 : decode cX10_walk 129 = .ok (.iload_n 3, 1) := by decide +kernel
theorem dX10_walk_130 : decode cX10_walk 130 = .ok (.iadd, 1) := by decide +kernel
theorem dX10_walk_131 : decode cX10_walk 131 = .ok (.iaload, 1) := by decide +kernel
theorem dX10_walk_132 : decode cX10_walk 132 = .ok (.iastore, 1) := by decide +kernel
theorem dX10_walk_133 : decode cX10_walk 133 = .ok (.iinc 3 1, 3) := by decide +kernel
theorem dX10_walk_136 : decode cX10_walk 136 = .ok (.goto (-35), 3) := by decide +kernel
theorem dX10_walk_139 : decode cX10_walk 139 = .ok (.aload_n 0, 1) := by decide +kernel
theorem dX10_walk_140 : decode cX10_walk 140 = .ok (.getfield 17, 3) := by decide +kernel
theorem dX10_walk_143 : decode cX10_walk 143 = .ok (.iload_n 2, 1) := by decide +kernel
theorem dX10_walk_144 : decode cX10_walk 144 = .ok (.iaload, 1) := by decide +kernel
theorem dX10_walk_145 : decode cX10_walk 145 = .ok (.ireturn, 1) := by decide +kernel
def c_X10_walk_L48 (F : Nat) (a11 : Nat) (x12 : Int32) (x13 : Int32) (k87 : z_Hp → Option (Int32 × z_Hp)) (k75 : z_Hp → Option (Int32 × z_Hp)) : Nat → Int32 → z_Hp → Option (Int32 × z_Hp)
  | 0, _, _ => none
  | n + 1, x14, h15 => (if hT h15 a11 = 10 then (lt_ (hR h15 a11 7) (fun o18 => (nn o18 (fun a19 => (if okA h15 a19 20 x13 = true then (if (hI h15 a19 (ix x13)) ≤ x14 then (k87 h15) else (if hT h15 a11 = 10 then (lt_ (hR h15 a11 8) (fun o20 => (nn o20 (fun a21 => (if okA h15 a21 20 ((40 * x13) + x14) = true then (bI (c_X10_isPlace F (hI h15 a21 (ix ((40 * x13) + x14))) h15) (fun x23 h22 => (if x23 = 0 then (k75 h22) else (lt_ (x14 + 1) (fun x24 => (c_X10_walk_L48 F a11 x12 x13 k87 k75 n x24 h22)))))) else none))))) else none)) else none))))) else none)
def c_X10_walk_L101 (F : Nat) (a31 : Nat) (x32 : Int32) (x33 : Int32) : Nat → Int32 → z_Hp → Option (Int32 × z_Hp)
  | 0, _, _ => none
  | n + 1, x34, h35 => (if hT h35 a31 = 10 then (lt_ (hR h35 a31 7) (fun o36 => (nn o36 (fun a37 => (if okA h35 a37 20 x33 = true then (if (hI h35 a37 (ix x33)) ≤ x34 then (if hT h35 a31 = 10 then (lt_ (hR h35 a31 7) (fun o38 => (nn o38 (fun a39 => (if okA h35 a39 20 x33 = true then (some (hI h35 a39 (ix x33), h35)) else none))))) else none) else (if hT h35 a31 = 10 then (lt_ (hR h35 a31 54) (fun o40 => (if hT h35 a31 = 10 then (lt_ (hR h35 a31 8) (fun o41 => (nn o41 (fun a42 => (if okA h35 a42 20 ((40 * x33) + x34) = true then (nn o40 (fun a43 => (if okA h35 a43 20 ((40 * x32) + x34) = true then (lt_ (sI h35 a43 (ix ((40 * x32) + x34)) (hI h35 a42 (ix ((40 * x33) + x34)))) (fun h44 => (lt_ (x34 + 1) (fun x45 => (c_X10_walk_L101 F a31 x32 x33 n x45 h44))))) else none))) else none))))) else none))) else none)) else none))))) else none)
def c_X10_walk (F : Nat) (a0 : Nat) (x1 : Int32) (x2 : Int32) (h0 : z_Hp) : Option (Int32 × z_Hp) := (bI (c_X10_isSeller F x1 h0) (fun x4 h3 => (if x4 = 0 then (some ((-1), h3)) else (bI (c_X10_isRow F x2 h3) (fun x6 h5 => (if x6 = 0 then (some ((-1), h5)) else (if hT h5 a0 = 10 then (lt_ (hR h5 a0 7) (fun o7 => (nn o7 (fun a8 => (if okA h5 a8 20 x2 = true then (if 0 ≤ (hI h5 a8 (ix x2)) then (if hT h5 a0 = 10 then (lt_ (hR h5 a0 7) (fun o9 => (nn o9 (fun a10 => (if okA h5 a10 20 x2 = true then (if (hI h5 a10 (ix x2)) = 0 then (if hT h5 a0 = 10 then (bI (c_X10_meets F a0 5 h5) (fun x50 h49 => (some (x50, h49)))) else none) else (c_X10_walk_L48 F a0 x1 x2 (fun h25 => (if hT h25 a0 = 10 then (lt_ (hR h25 a0 53) (fun o26 => (if hT h25 a0 = 10 then (lt_ (hR h25 a0 7) (fun o27 => (nn o27 (fun a28 => (if okA h25 a28 20 x2 = true then (nn o26 (fun a29 => (if okA h25 a29 20 x1 = true then (lt_ (sI h25 a29 (ix x1) (hI h25 a28 (ix x2))) (fun h30 => (c_X10_walk_L101 F a0 x1 x2 F 0 h30))) else none))) else none))))) else none))) else none)) (fun h46 => (if hT h46 a0 = 10 then (bI (c_X10_meets F a0 3 h46) (fun x48 h47 => (some (x48, h47)))) else none)) F 0 h5)) else none))))) else none) else (if hT h5 a0 = 10 then (bI (c_X10_meets F a0 1 h5) (fun x52 h51 => (some (x52, h51)))) else none)) else none))))) else none)))))))
set_option maxRecDepth 20000 in
set_option maxHeartbeats 4000000 in
theorem g_X10_walk_L48 (F : Nat) (a11 : Nat) (x12 : Int32) (x13 : Int32) (k87 : z_Hp → Option (Int32 × z_Hp)) (k75 : z_Hp → Option (Int32 × z_Hp)) (qk87 : ∀ (h16 : z_Hp), z_G zi mi_X10_walk 87 [(0, vr (some a11)), (1, vi x12), (2, vi x13)] [] h16 (k87 h16)) (qk75 : ∀ (h17 : z_Hp), z_G zi mi_X10_walk 75 [(0, vr (some a11))] [] h17 (k75 h17)) : ∀ (n : Nat) (x14 : Int32) (h15 : z_Hp), z_G zi mi_X10_walk 48 [(0, vr (some a11)), (1, vi x12), (2, vi x13), (3, vi x14)] [] h15 (c_X10_walk_L48 F a11 x12 x13 k87 k75 n x14 h15) := by
  intro n
  induction n with
  | zero => intro x14 h15; rw [c_X10_walk_L48]; exact z_none
  | succ n ih =>
    intro x14 h15
    rw [c_X10_walk_L48]
    refine z_iload_n (pc := 48) dX10_walk_48 rfl 3 rfl (z_aload_n (pc := 49) dX10_walk_49 rfl 0 rfl (z_getRl (pc := 50) fl_RX10_17 rfl dX10_walk_50 (fun o18 => (z_iload_n (pc := 53) dX10_walk_53 rfl 2 rfl (?_)))))
    refine z_nn (fun a19 ea19 => ?_)
    subst ea19
    refine z_iaload (pc := 54) dX10_walk_54 (?_)
    refine z_icmp_ge (pc := 55) (tgt := 87) dX10_walk_55 (by decide) ?_ ?_
    · exact z_sub [0, 1, 2] rfl (qk87 h15)
    · refine z_aload_n (pc := 58) dX10_walk_58 rfl 0 rfl (z_getRl (pc := 59) fl_RX10_20 rfl dX10_walk_59 (fun o20 => (z_bipush (pc := 62) dX10_walk_62 bp_40 (z_iload_n (pc := 64) dX10_walk_64 rfl 2 rfl (z_imul (pc := 65) dX10_walk_65 (z_iload_n (pc := 66) dX10_walk_66 rfl 3 rfl (z_iadd (pc := 67) dX10_walk_67 (?_))))))))
      refine z_nn (fun a21 ea21 => ?_)
      subst ea21
      refine z_iaload (pc := 68) dX10_walk_68 (z_callS_I (pc := 69) (avs := [vi (hI h15 a21 (ix ((40 * x13) + x14)))]) (st := []) rfl (t_X10_isPlace F (hI h15 a21 (ix ((40 * x13) + x14))) h15) ky_X10_isPlace ws_X10_isPlace wz_RX10_355 (rm_X10_walk_X10_isPlace) (Nat.le_of_ble_eq_true rfl) dX10_walk_69 (fun x23 h22 => (?_)))
      refine z_if_ne (pc := 72) (tgt := 81) dX10_walk_72 (by decide) ?_ ?_
      · refine z_iincl (pc := 81) (L' := fun x24 => [(0, vr (some a11)), (1, vi x12), (2, vi x13), (3, vi x24)]) dX10_walk_81 3 rfl ic_1 (Nat.le_of_ble_eq_true rfl) (fun _ => rfl) (fun x24 => (z_goto (pc := 84) (tgt := 48) dX10_walk_84 (by decide) (?_)))
        exact ih x24 h22
      · exact z_sub [0] rfl (qk75 h22)
set_option maxRecDepth 20000 in
set_option maxHeartbeats 4000000 in
theorem g_X10_walk_L101 (F : Nat) (a31 : Nat) (x32 : Int32) (x33 : Int32) : ∀ (n : Nat) (x34 : Int32) (h35 : z_Hp), z_G zi mi_X10_walk 101 [(0, vr (some a31)), (1, vi x32), (2, vi x33), (3, vi x34)] [] h35 (c_X10_walk_L101 F a31 x32 x33 n x34 h35) := by
  intro n
  induction n with
  | zero => intro x34 h35; rw [c_X10_walk_L101]; exact z_none
  | succ n ih =>
    intro x34 h35
    rw [c_X10_walk_L101]
    refine z_iload_n (pc := 101) dX10_walk_101 rfl 3 rfl (z_aload_n (pc := 102) dX10_walk_102 rfl 0 rfl (z_getRl (pc := 103) fl_RX10_17 rfl dX10_walk_103 (fun o36 => (z_iload_n (pc := 106) dX10_walk_106 rfl 2 rfl (?_)))))
    refine z_nn (fun a37 ea37 => ?_)
    subst ea37
    refine z_iaload (pc := 107) dX10_walk_107 (?_)
    refine z_icmp_ge (pc := 108) (tgt := 139) dX10_walk_108 (by decide) ?_ ?_
    · refine z_aload_n (pc := 139) dX10_walk_139 rfl 0 rfl (z_getRl (pc := 140) fl_RX10_17 rfl dX10_walk_140 (fun o38 => (z_iload_n (pc := 143) dX10_walk_143 rfl 2 rfl (?_))))
      refine z_nn (fun a39 ea39 => ?_)
      subst ea39
      refine z_iaload (pc := 144) dX10_walk_144 (?_)
      exact z_iret (pc := 145) dX10_walk_145 rfl rfl
    · refine z_aload_n (pc := 111) dX10_walk_111 rfl 0 rfl (z_getRl (pc := 112) fl_RX10_144 rfl dX10_walk_112 (fun o40 => (z_bipush (pc := 115) dX10_walk_115 bp_40 (z_iload_n (pc := 117) dX10_walk_117 rfl 1 rfl (z_imul (pc := 118) dX10_walk_118 (z_iload_n (pc := 119) dX10_walk_119 rfl 3 rfl (z_iadd (pc := 120) dX10_walk_120 (z_aload_n (pc := 121) dX10_walk_121 rfl 0 rfl (?_)))))))))
      refine z_getRl (pc := 122) fl_RX10_20 rfl dX10_walk_122 (fun o41 => (z_bipush (pc := 125) dX10_walk_125 bp_40 (z_iload_n (pc := 127) dX10_walk_127 rfl 2 rfl (z_imul (pc := 128) dX10_walk_128 (z_iload_n (pc := 129) dX10_walk_129 rfl 3 rfl (z_iadd (pc := 130) dX10_walk_130 (?_)))))))
      refine z_nn (fun a42 ea42 => ?_)
      subst ea42
      refine z_iaload (pc := 131) dX10_walk_131 (?_)
      refine z_nn (fun a43 ea43 => ?_)
      subst ea43
      refine z_iastorel (pc := 132) dX10_walk_132 (fun h44 => (z_iincl (pc := 133) (L' := fun x45 => [(0, vr (some a31)), (1, vi x32), (2, vi x33), (3, vi x45)]) dX10_walk_133 3 rfl ic_1 (Nat.le_of_ble_eq_true rfl) (fun _ => rfl) (fun x45 => (z_goto (pc := 136) (tgt := 101) dX10_walk_136 (by decide) (?_)))))
      exact ih x45 h44
set_option maxRecDepth 20000 in
set_option maxHeartbeats 4000000 in
theorem t_X10_walk (F : Nat) (a0 : Nat) (x1 : Int32) (x2 : Int32) (h0 : z_Hp) : z_Ct zi mi_X10_walk [vr (some a0), vi x1, vi x2] h0 (c_X10_walk F a0 x1 x2 h0) := by
  refine z_entry (by decide) (Nat.le_of_ble_eq_true rfl) [(0, vr (some a0)), (1, vi x1), (2, vi x2)] rfl ?_
  unfold c_X10_walk
  refine z_iload_n (pc := 0) dX10_walk_0 rfl 1 rfl (z_callS_I (pc := 1) (avs := [vi x1]) (st := []) rfl (t_X10_isSeller F x1 h0) ky_X10_isSeller ws_X10_isSeller wz_RX10_352 (rm_X10_walk_X10_isSeller) (Nat.le_of_ble_eq_true rfl) dX10_walk_1 (fun x4 h3 => (?_)))
  refine z_if_eq (pc := 4) (tgt := 14) dX10_walk_4 (by decide) ?_ ?_
  · refine z_iconst (pc := 14) dX10_walk_14 ic_m1 (?_)
    exact z_iret (pc := 15) dX10_walk_15 rfl rfl
  · refine z_iload_n (pc := 7) dX10_walk_7 rfl 2 rfl (z_callS_I (pc := 8) (avs := [vi x2]) (st := []) rfl (t_X10_isRow F x2 h3) ky_X10_isRow ws_X10_isRow wz_RX10_170 (rm_X10_walk_X10_isRow) (Nat.le_of_ble_eq_true rfl) dX10_walk_8 (fun x6 h5 => (?_)))
    refine z_if_ne (pc := 11) (tgt := 16) dX10_walk_11 (by decide) ?_ ?_
    · refine z_aload_n (pc := 16) dX10_walk_16 rfl 0 rfl (z_getRl (pc := 17) fl_RX10_17 rfl dX10_walk_17 (fun o7 => (z_iload_n (pc := 20) dX10_walk_20 rfl 2 rfl (?_))))
      refine z_nn (fun a8 ea8 => ?_)
      subst ea8
      refine z_iaload (pc := 21) dX10_walk_21 (?_)
      refine z_if_ge (pc := 22) (tgt := 31) dX10_walk_22 (by decide) ?_ ?_
      · refine z_aload_n (pc := 31) dX10_walk_31 rfl 0 rfl (z_getRl (pc := 32) fl_RX10_17 rfl dX10_walk_32 (fun o9 => (z_iload_n (pc := 35) dX10_walk_35 rfl 2 rfl (?_))))
        refine z_nn (fun a10 ea10 => ?_)
        subst ea10
        refine z_iaload (pc := 36) dX10_walk_36 (?_)
        refine z_if_ne (pc := 37) (tgt := 46) dX10_walk_37 (by decide) ?_ ?_
        · refine z_iconst (pc := 46) dX10_walk_46 ic_0 (z_istore_n (pc := 47) (L' := [(0, vr (some a0)), (1, vi x1), (2, vi x2), (3, vi 0)]) dX10_walk_47 rfl (Nat.le_of_ble_eq_true rfl) rfl (?_))
          refine g_X10_walk_L48 F a0 x1 x2 _ _ (fun h25 => ?_) (fun h46 => ?_) F 0 h5
          · refine z_aload_n (pc := 87) dX10_walk_87 rfl 0 rfl (z_getRl (pc := 88) fl_RX10_141 rfl dX10_walk_88 (fun o26 => (z_iload_n (pc := 91) dX10_walk_91 rfl 1 rfl (z_aload_n (pc := 92) dX10_walk_92 rfl 0 rfl (z_getRl (pc := 93) fl_RX10_17 rfl dX10_walk_93 (fun o27 => (z_iload_n (pc := 96) dX10_walk_96 rfl 2 rfl (?_))))))))
            refine z_nn (fun a28 ea28 => ?_)
            subst ea28
            refine z_iaload (pc := 97) dX10_walk_97 (?_)
            refine z_nn (fun a29 ea29 => ?_)
            subst ea29
            refine z_iastorel (pc := 98) dX10_walk_98 (fun h30 => (z_iconst (pc := 99) dX10_walk_99 ic_0 (z_istore_n (pc := 100) (L' := [(0, vr (some a0)), (1, vi x1), (2, vi x2), (3, vi 0)]) dX10_walk_100 rfl (Nat.le_of_ble_eq_true rfl) rfl (?_))))
            refine g_X10_walk_L101 F a0 x1 x2 F 0 h30
          · refine z_aload_n (pc := 75) dX10_walk_75 rfl 0 rfl (z_iconst (pc := 76) dX10_walk_76 ic_3 (z_callV_I (pc := 77) (avs := [vi 3]) (st := []) rfl (q := (RX10, TX10, 62)) rfl rfl (t_X10_meets F a0 3 h46) ky_X10_meets wm_X10_meets we_X10_meets wz_RX10_174 (rm_X10_walk_X10_meets) (Nat.le_of_ble_eq_true rfl) dX10_walk_77 (fun x48 h47 => (?_))))
            exact z_iret (pc := 80) dX10_walk_80 rfl rfl
        · refine z_aload_n (pc := 40) dX10_walk_40 rfl 0 rfl (z_iconst (pc := 41) dX10_walk_41 ic_5 (z_callV_I (pc := 42) (avs := [vi 5]) (st := []) rfl (q := (RX10, TX10, 62)) rfl rfl (t_X10_meets F a0 5 h5) ky_X10_meets wm_X10_meets we_X10_meets wz_RX10_174 (rm_X10_walk_X10_meets) (Nat.le_of_ble_eq_true rfl) dX10_walk_42 (fun x50 h49 => (?_))))
          exact z_iret (pc := 45) dX10_walk_45 rfl rfl
      · refine z_aload_n (pc := 25) dX10_walk_25 rfl 0 rfl (z_iconst (pc := 26) dX10_walk_26 ic_1 (z_callV_I (pc := 27) (avs := [vi 1]) (st := []) rfl (q := (RX10, TX10, 62)) rfl rfl (t_X10_meets F a0 1 h5) ky_X10_meets wm_X10_meets we_X10_meets wz_RX10_174 (rm_X10_walk_X10_meets) (Nat.le_of_ble_eq_true rfl) dX10_walk_27 (fun x52 h51 => (?_))))
        exact z_iret (pc := 30) dX10_walk_30 rfl rfl
    · refine z_iconst (pc := 14) dX10_walk_14 ic_m1 (?_)
      exact z_iret (pc := 15) dX10_walk_15 rfl rfl
theorem dX10_sung_0 : decode cX10_sung 0 = .ok (.iload_n 1, 1) := by decide +kernel
theorem dX10_sung_1 : decode cX10_sung 1 = .ok (.invokestatic 194, 3) := by decide +kernel
theorem dX10_sung_4 : decode cX10_sung 4 = .ok (.ifCond .eq 17, 3) := by decide +kernel
theorem dX10_sung_7 : decode cX10_sung 7 = .ok (.iload_n 2, 1) := by decide +kernel
theorem dX10_sung_8 : decode cX10_sung 8 = .ok (.invokestatic 355, 3) := by decide +kernel
theorem dX10_sung_11 : decode cX10_sung 11 = .ok (.ifCond .eq 10, 3) := by decide +kernel
theorem dX10_sung_14 : decode cX10_sung 14 = .ok (.iload_n 3, 1) := by decide +kernel
theorem dX10_sung_15 : decode cX10_sung 15 = .ok (.invokestatic 358, 3) := by decide +kernel
theorem dX10_sung_18 : decode cX10_sung 18 = .ok (.ifCond .ne 5, 3) := by decide +kernel
theorem dX10_sung_21 : decode cX10_sung 21 = .ok (.iconst (-1), 1) := by decide +kernel
theorem dX10_sung_22 : decode cX10_sung 22 = .ok (.ireturn, 1) := by decide +kernel
theorem dX10_sung_23 : decode cX10_sung 23 = .ok (.aload_n 0, 1) := by decide +kernel
theorem dX10_sung_24 : decode cX10_sung 24 = .ok (.getfield 361, 3) := by decide +kernel
theorem dX10_sung_27 : decode cX10_sung 27 = .ok (.bipush 30, 2) := by decide +kernel
theorem dX10_sung_29 : decode cX10_sung 29 = .ok (.if_icmp .ne 6, 3) := by decide +kernel
theorem dX10_sung_32 : decode cX10_sung 32 = .ok (.bipush (-2), 2) := by decide +kernel
theorem dX10_sung_34 : decode cX10_sung 34 = .ok (.ireturn, 1) := by decide +kernel
theorem dX10_sung_35 : decode cX10_sung 35 = .ok (.aload_n 0, 1) := by decide +kernel
theorem dX10_sung_36 : decode cX10_sung 36 = .ok (.getfield 147, 3) := by decide +kernel
theorem dX10_sung_39 : decode cX10_sung 39 = .ok (.aload_n 0, 1) := by decide +kernel
theorem dX10_sung_40 : decode cX10_sung 40 = .ok (.getfield 361, 3) := by decide +kernel
theorem dX10_sung_43 : decode cX10_sung 43 = .ok (.iload_n 1, 1) := by decide +kernel
theorem dX10_sung_44 : decode cX10_sung 44 = .ok (.iastore, 1) := by decide +kernel
theorem dX10_sung_45 : decode cX10_sung 45 = .ok (.aload_n 0, 1) := by decide +kernel
theorem dX10_sung_46 : decode cX10_sung 46 = .ok (.getfield 150, 3) := by decide +kernel
theorem dX10_sung_49 : decode cX10_sung 49 = .ok (.aload_n 0, 1) := by decide +kernel
theorem dX10_sung_50 : decode cX10_sung 50 = .ok (.getfield 361, 3) := by decide +kernel
theorem dX10_sung_53 : decode cX10_sung 53 = .ok (.iload_n 2, 1) := by decide +kernel
theorem dX10_sung_54 : decode cX10_sung 54 = .ok (.iastore, 1) := by decide +kernel
theorem dX10_sung_55 : decode cX10_sung 55 = .ok (.aload_n 0, 1) := by decide +kernel
theorem dX10_sung_56 : decode cX10_sung 56 = .ok (.getfield 153, 3) := by decide +kernel
theorem dX10_sung_59 : decode cX10_sung 59 = .ok (.aload_n 0, 1) := by decide +kernel
theorem dX10_sung_60 : decode cX10_sung 60 = .ok (.getfield 361, 3) := by decide +kernel
theorem dX10_sung_63 : decode cX10_sung 63 = .ok (.iload_n 3, 1) := by decide +kernel
theorem dX10_sung_64 : decode cX10_sung 64 = .ok (.iastore, 1) := by decide +kernel
theorem dX10_sung_65 : decode cX10_sung 65 = .ok (.aload_n 0, 1) := by decide +kernel
theorem dX10_sung_66 : decode cX10_sung 66 = .ok (.dup, 1) := by decide +kernel
theorem dX10_sung_67 : decode cX10_sung 67 = .ok (.getfield 361, 3) := by decide +kernel
theorem dX10_sung_70 : decode cX10_sung 70 = .ok (.iconst 1, 1) := by decide +kernel
theorem dX10_sung_71 : decode cX10_sung 71 = .ok (.iadd, 1) := by decide +kernel
theorem dX10_sung_72 : decode cX10_sung 72 = .ok (.putfield 361, 3) := by decide +kernel
theorem dX10_sung_75 : decode cX10_sung 75 = .ok (.aload_n 0, 1) := by decide +kernel
theorem dX10_sung_76 : decode cX10_sung 76 = .ok (.getfield 361, 3) := by decide +kernel
theorem dX10_sung_79 : decode cX10_sung 79 = .ok (.ireturn, 1) := by decide +kernel
def c_X10_sung (F : Nat) (a0 : Nat) (x1 : Int32) (x2 : Int32) (x3 : Int32) (h0 : z_Hp) : Option (Int32 × z_Hp) := (bI (c_X10_isSong F x1 h0) (fun x5 h4 => (if x5 = 0 then (some ((-1), h4)) else (bI (c_X10_isPlace F x2 h4) (fun x7 h6 => (if x7 = 0 then (some ((-1), h6)) else (bI (c_X10_isEarly F x3 h6) (fun x9 h8 => (if x9 = 0 then (some ((-1), h8)) else (if hT h8 a0 = 10 then (if (hI h8 a0 55) = 30 then (some ((-2), h8)) else (if hT h8 a0 = 10 then (lt_ (hR h8 a0 56) (fun o10 => (if hT h8 a0 = 10 then (nn o10 (fun a11 => (if okA h8 a11 20 (hI h8 a0 55) = true then (lt_ (sI h8 a11 (ix (hI h8 a0 55)) x1) (fun h12 => (if hT h12 a0 = 10 then (lt_ (hR h12 a0 57) (fun o13 => (if hT h12 a0 = 10 then (nn o13 (fun a14 => (if okA h12 a14 20 (hI h12 a0 55) = true then (lt_ (sI h12 a14 (ix (hI h12 a0 55)) x2) (fun h15 => (if hT h15 a0 = 10 then (lt_ (hR h15 a0 58) (fun o16 => (if hT h15 a0 = 10 then (nn o16 (fun a17 => (if okA h15 a17 20 (hI h15 a0 55) = true then (lt_ (sI h15 a17 (ix (hI h15 a0 55)) x3) (fun h18 => (if hT h18 a0 = 10 then (if hT h18 a0 = 10 then (lt_ (sI h18 a0 55 ((hI h18 a0 55) + 1)) (fun h19 => (if hT h19 a0 = 10 then (some (hI h19 a0 55, h19)) else none))) else none) else none))) else none))) else none))) else none))) else none))) else none))) else none))) else none))) else none))) else none)) else none))))))))))
set_option maxRecDepth 20000 in
set_option maxHeartbeats 4000000 in
theorem t_X10_sung (F : Nat) (a0 : Nat) (x1 : Int32) (x2 : Int32) (x3 : Int32) (h0 : z_Hp) : z_Ct zi mi_X10_sung [vr (some a0), vi x1, vi x2, vi x3] h0 (c_X10_sung F a0 x1 x2 x3 h0) := by
  refine z_entry (by decide) (Nat.le_of_ble_eq_true rfl) [(0, vr (some a0)), (1, vi x1), (2, vi x2), (3, vi x3)] rfl ?_
  unfold c_X10_sung
  refine z_iload_n (pc := 0) dX10_sung_0 rfl 1 rfl (z_callS_I (pc := 1) (avs := [vi x1]) (st := []) rfl (t_X10_isSong F x1 h0) ky_X10_isSong ws_X10_isSong wz_RX10_194 (rm_X10_sung_X10_isSong) (Nat.le_of_ble_eq_true rfl) dX10_sung_1 (fun x5 h4 => (?_)))
  refine z_if_eq (pc := 4) (tgt := 21) dX10_sung_4 (by decide) ?_ ?_
  · refine z_iconst (pc := 21) dX10_sung_21 ic_m1 (?_)
    exact z_iret (pc := 22) dX10_sung_22 rfl rfl
  · refine z_iload_n (pc := 7) dX10_sung_7 rfl 2 rfl (z_callS_I (pc := 8) (avs := [vi x2]) (st := []) rfl (t_X10_isPlace F x2 h4) ky_X10_isPlace ws_X10_isPlace wz_RX10_355 (rm_X10_sung_X10_isPlace) (Nat.le_of_ble_eq_true rfl) dX10_sung_8 (fun x7 h6 => (?_)))
    refine z_if_eq (pc := 11) (tgt := 21) dX10_sung_11 (by decide) ?_ ?_
    · refine z_iconst (pc := 21) dX10_sung_21 ic_m1 (?_)
      exact z_iret (pc := 22) dX10_sung_22 rfl rfl
    · refine z_iload_n (pc := 14) dX10_sung_14 rfl 3 rfl (z_callS_I (pc := 15) (avs := [vi x3]) (st := []) rfl (t_X10_isEarly F x3 h6) ky_X10_isEarly ws_X10_isEarly wz_RX10_358 (rm_X10_sung_X10_isEarly) (Nat.le_of_ble_eq_true rfl) dX10_sung_15 (fun x9 h8 => (?_)))
      refine z_if_ne (pc := 18) (tgt := 23) dX10_sung_18 (by decide) ?_ ?_
      · refine z_aload_n (pc := 23) dX10_sung_23 rfl 0 rfl (z_getI (pc := 24) fl_RX10_361 rfl dX10_sung_24 (z_bipush (pc := 27) dX10_sung_27 bp_30 (?_)))
        refine z_icmp_ne (pc := 29) (tgt := 35) dX10_sung_29 (by decide) ?_ ?_
        · refine z_aload_n (pc := 35) dX10_sung_35 rfl 0 rfl (z_getRl (pc := 36) fl_RX10_147 rfl dX10_sung_36 (fun o10 => (z_aload_n (pc := 39) dX10_sung_39 rfl 0 rfl (z_getI (pc := 40) fl_RX10_361 rfl dX10_sung_40 (z_iload_n (pc := 43) dX10_sung_43 rfl 1 rfl (?_))))))
          refine z_nn (fun a11 ea11 => ?_)
          subst ea11
          refine z_iastorel (pc := 44) dX10_sung_44 (fun h12 => (z_aload_n (pc := 45) dX10_sung_45 rfl 0 rfl (z_getRl (pc := 46) fl_RX10_150 rfl dX10_sung_46 (fun o13 => (z_aload_n (pc := 49) dX10_sung_49 rfl 0 rfl (z_getI (pc := 50) fl_RX10_361 rfl dX10_sung_50 (z_iload_n (pc := 53) dX10_sung_53 rfl 2 rfl (?_))))))))
          refine z_nn (fun a14 ea14 => ?_)
          subst ea14
          refine z_iastorel (pc := 54) dX10_sung_54 (fun h15 => (z_aload_n (pc := 55) dX10_sung_55 rfl 0 rfl (z_getRl (pc := 56) fl_RX10_153 rfl dX10_sung_56 (fun o16 => (z_aload_n (pc := 59) dX10_sung_59 rfl 0 rfl (z_getI (pc := 60) fl_RX10_361 rfl dX10_sung_60 (z_iload_n (pc := 63) dX10_sung_63 rfl 3 rfl (?_))))))))
          refine z_nn (fun a17 ea17 => ?_)
          subst ea17
          refine z_iastorel (pc := 64) dX10_sung_64 (fun h18 => (z_aload_n (pc := 65) dX10_sung_65 rfl 0 rfl (z_dup (pc := 66) dX10_sung_66 rfl (z_getI (pc := 67) fl_RX10_361 rfl dX10_sung_67 (z_iconst (pc := 70) dX10_sung_70 ic_1 (z_iadd (pc := 71) dX10_sung_71 (z_putIl (pc := 72) fl_RX10_361 (fin_X_10_55 _) rfl dX10_sung_72 (fun h19 => (z_aload_n (pc := 75) dX10_sung_75 rfl 0 rfl (?_))))))))))
          refine z_getI (pc := 76) fl_RX10_361 rfl dX10_sung_76 (?_)
          exact z_iret (pc := 79) dX10_sung_79 rfl rfl
        · refine z_bipush (pc := 32) dX10_sung_32 bp_m2 (?_)
          exact z_iret (pc := 34) dX10_sung_34 rfl rfl
      · refine z_iconst (pc := 21) dX10_sung_21 ic_m1 (?_)
        exact z_iret (pc := 22) dX10_sung_22 rfl rfl
theorem dX10_can_0 : decode cX10_can 0 = .ok (.iload_n 1, 1) := by decide +kernel
theorem dX10_can_1 : decode cX10_can 1 = .ok (.invokestatic 352, 3) := by decide +kernel
theorem dX10_can_4 : decode cX10_can 4 = .ok (.ifCond .eq 17, 3) := by decide +kernel
theorem dX10_can_7 : decode cX10_can 7 = .ok (.iload_n 2, 1) := by decide +kernel
theorem dX10_can_8 : decode cX10_can 8 = .ok (.invokestatic 194, 3) := by decide +kernel
theorem dX10_can_11 : decode cX10_can 11 = .ok (.ifCond .eq 10, 3) := by decide +kernel
theorem dX10_can_14 : decode cX10_can 14 = .ok (.iload_n 3, 1) := by decide +kernel
theorem dX10_can_15 : decode cX10_can 15 = .ok (.invokestatic 358, 3) := by decide +kernel
theorem dX10_can_18 : decode cX10_can 18 = .ok (.ifCond .ne 5, 3) := by decide +kernel
theorem dX10_can_21 : decode cX10_can 21 = .ok (.iconst (-1), 1) := by decide +kernel
theorem dX10_can_22 : decode cX10_can 22 = .ok (.ireturn, 1) := by decide +kernel
theorem dX10_can_23 : decode cX10_can 23 = .ok (.aload_n 0, 1) := by decide +kernel
theorem dX10_can_24 : decode cX10_can 24 = .ok (.getfield 141, 3) := by decide +kernel
theorem dX10_can_27 : decode cX10_can 27 = .ok (.iload_n 1, 1) := by decide +kernel
theorem dX10_can_28 : decode cX10_can 28 = .ok (.iaload, 1) := by decide +kernel
theorem dX10_can_29 : decode cX10_can 29 = .ok (.ifCond .ge 8, 3) := by decide +kernel
theorem dX10_can_32 : decode cX10_can 32 = .ok (.bipush (-4), 2) := by decide +kernel
theorem dX10_can_34 : decode cX10_can 34 = .ok (.goto 23, 3) := by decide +kernel
theorem dX10_can_37 : decode cX10_can 37 = .ok (.aload_n 0, 1) := by decide +kernel
theorem dX10_can_38 : decode cX10_can 38 = .ok (.iload_n 2, 1) := by decide +kernel
theorem dX10_can_39 : decode cX10_can 39 = .ok (.iload_n 3, 1) := by decide +kernel
theorem dX10_can_40 : decode cX10_can 40 = .ok (.bipush (-9), 2) := by decide +kernel
theorem dX10_can_42 : decode cX10_can 42 = .ok (.invokevirtual 373, 3) := by decide +kernel
theorem dX10_can_45 : decode cX10_can 45 = .ok (.iload_n 1, 1) := by decide +kernel
theorem dX10_can_46 : decode cX10_can 46 = .ok (.invokestatic 312, 3) := by decide +kernel
theorem dX10_can_49 : decode cX10_can 49 = .ok (.ifCond .eq 7, 3) := by decide +kernel
theorem dX10_can_52 : decode cX10_can 52 = .ok (.iconst 1, 1) := by decide +kernel
theorem dX10_can_53 : decode cX10_can 53 = .ok (.goto 4, 3) := by decide +kernel
theorem dX10_can_56 : decode cX10_can 56 = .ok (.iconst 0, 1) := by decide +kernel
theorem dX10_can_57 : decode cX10_can 57 = .ok (.ireturn, 1) := by decide +kernel
def c_X10_can (F : Nat) (a0 : Nat) (x1 : Int32) (x2 : Int32) (x3 : Int32) (h0 : z_Hp) : Option (Int32 × z_Hp) := (bI (c_X10_isSeller F x1 h0) (fun x5 h4 => (if x5 = 0 then (some ((-1), h4)) else (bI (c_X10_isSong F x2 h4) (fun x7 h6 => (if x7 = 0 then (some ((-1), h6)) else (bI (c_X10_isEarly F x3 h6) (fun x9 h8 => (if x9 = 0 then (some ((-1), h8)) else (if hT h8 a0 = 10 then (lt_ (hR h8 a0 53) (fun o10 => (nn o10 (fun a11 => (if okA h8 a11 20 x1 = true then (if 0 ≤ (hI h8 a11 (ix x1)) then (if hT h8 a0 = 10 then (bI (c_X10_whoCan F a0 x2 x3 (-9) h8) (fun x13 h12 => (bI (c_X10_has F x13 x1 h12) (fun x15 h14 => (if x15 = 0 then (some (0, h14)) else (some (1, h14))))))) else none) else (some ((-4), h8))) else none))))) else none))))))))))
set_option maxRecDepth 20000 in
set_option maxHeartbeats 4000000 in
theorem t_X10_can (F : Nat) (a0 : Nat) (x1 : Int32) (x2 : Int32) (x3 : Int32) (h0 : z_Hp) : z_Ct zi mi_X10_can [vr (some a0), vi x1, vi x2, vi x3] h0 (c_X10_can F a0 x1 x2 x3 h0) := by
  refine z_entry (by decide) (Nat.le_of_ble_eq_true rfl) [(0, vr (some a0)), (1, vi x1), (2, vi x2), (3, vi x3)] rfl ?_
  unfold c_X10_can
  refine z_iload_n (pc := 0) dX10_can_0 rfl 1 rfl (z_callS_I (pc := 1) (avs := [vi x1]) (st := []) rfl (t_X10_isSeller F x1 h0) ky_X10_isSeller ws_X10_isSeller wz_RX10_352 (rm_X10_can_X10_isSeller) (Nat.le_of_ble_eq_true rfl) dX10_can_1 (fun x5 h4 => (?_)))
  refine z_if_eq (pc := 4) (tgt := 21) dX10_can_4 (by decide) ?_ ?_
  · refine z_iconst (pc := 21) dX10_can_21 ic_m1 (?_)
    exact z_iret (pc := 22) dX10_can_22 rfl rfl
  · refine z_iload_n (pc := 7) dX10_can_7 rfl 2 rfl (z_callS_I (pc := 8) (avs := [vi x2]) (st := []) rfl (t_X10_isSong F x2 h4) ky_X10_isSong ws_X10_isSong wz_RX10_194 (rm_X10_can_X10_isSong) (Nat.le_of_ble_eq_true rfl) dX10_can_8 (fun x7 h6 => (?_)))
    refine z_if_eq (pc := 11) (tgt := 21) dX10_can_11 (by decide) ?_ ?_
    · refine z_iconst (pc := 21) dX10_can_21 ic_m1 (?_)
      exact z_iret (pc := 22) dX10_can_22 rfl rfl
    · refine z_iload_n (pc := 14) dX10_can_14 rfl 3 rfl (z_callS_I (pc := 15) (avs := [vi x3]) (st := []) rfl (t_X10_isEarly F x3 h6) ky_X10_isEarly ws_X10_isEarly wz_RX10_358 (rm_X10_can_X10_isEarly) (Nat.le_of_ble_eq_true rfl) dX10_can_15 (fun x9 h8 => (?_)))
      refine z_if_ne (pc := 18) (tgt := 23) dX10_can_18 (by decide) ?_ ?_
      · refine z_aload_n (pc := 23) dX10_can_23 rfl 0 rfl (z_getRl (pc := 24) fl_RX10_141 rfl dX10_can_24 (fun o10 => (z_iload_n (pc := 27) dX10_can_27 rfl 1 rfl (?_))))
        refine z_nn (fun a11 ea11 => ?_)
        subst ea11
        refine z_iaload (pc := 28) dX10_can_28 (?_)
        refine z_if_ge (pc := 29) (tgt := 37) dX10_can_29 (by decide) ?_ ?_
        · refine z_aload_n (pc := 37) dX10_can_37 rfl 0 rfl (z_iload_n (pc := 38) dX10_can_38 rfl 2 rfl (z_iload_n (pc := 39) dX10_can_39 rfl 3 rfl (z_bipush (pc := 40) dX10_can_40 bp_m9 (z_callV_I (pc := 42) (avs := [vi x2, vi x3, vi (-9)]) (st := []) rfl (q := (RX10, TX10, 62)) rfl rfl (t_X10_whoCan F a0 x2 x3 (-9) h8) ky_X10_whoCan wm_X10_whoCan we_X10_whoCan wz_RX10_373 (rm_X10_can_X10_whoCan) (Nat.le_of_ble_eq_true rfl) dX10_can_42 (fun x13 h12 => (?_))))))
          refine z_iload_n (pc := 45) dX10_can_45 rfl 1 rfl (z_callS_I (pc := 46) (avs := [vi x13, vi x1]) (st := []) rfl (t_X10_has F x13 x1 h12) ky_X10_has ws_X10_has wz_RX10_312 (rm_X10_can_X10_has) (Nat.le_of_ble_eq_true rfl) dX10_can_46 (fun x15 h14 => (?_)))
          refine z_if_eq (pc := 49) (tgt := 56) dX10_can_49 (by decide) ?_ ?_
          · refine z_iconst (pc := 56) dX10_can_56 ic_0 (?_)
            exact z_iret (pc := 57) dX10_can_57 rfl rfl
          · refine z_iconst (pc := 52) dX10_can_52 ic_1 (z_goto (pc := 53) (tgt := 57) dX10_can_53 (by decide) (?_))
            exact z_iret (pc := 57) dX10_can_57 rfl rfl
        · refine z_bipush (pc := 32) dX10_can_32 bp_m4 (z_goto (pc := 34) (tgt := 57) dX10_can_34 (by decide) (?_))
          exact z_iret (pc := 57) dX10_can_57 rfl rfl
      · refine z_iconst (pc := 21) dX10_can_21 ic_m1 (?_)
        exact z_iret (pc := 22) dX10_can_22 rfl rfl
theorem dX10_far_0 : decode cX10_far 0 = .ok (.iload_n 1, 1) := by decide +kernel
theorem dX10_far_1 : decode cX10_far 1 = .ok (.invokestatic 194, 3) := by decide +kernel
theorem dX10_far_4 : decode cX10_far 4 = .ok (.ifCond .eq 10, 3) := by decide +kernel
theorem dX10_far_7 : decode cX10_far 7 = .ok (.iload_n 2, 1) := by decide +kernel
theorem dX10_far_8 : decode cX10_far 8 = .ok (.invokestatic 355, 3) := by decide +kernel
theorem dX10_far_11 : decode cX10_far 11 = .ok (.ifCond .ne 5, 3) := by decide +kernel
theorem dX10_far_14 : decode cX10_far 14 = .ok (.iconst (-1), 1) := by decide +kernel
theorem dX10_far_15 : decode cX10_far 15 = .ok (.ireturn, 1) := by decide +kernel
theorem dX10_far_16 : decode cX10_far 16 = .ok (.aload_n 0, 1) := by decide +kernel
theorem dX10_far_17 : decode cX10_far 17 = .ok (.iload_n 1, 1) := by decide +kernel
theorem dX10_far_18 : decode cX10_far 18 = .ok (.bipush 99, 2) := by decide +kernel
theorem dX10_far_20 : decode cX10_far 20 = .ok (.iload_n 2, 1) := by decide +kernel
theorem dX10_far_21 : decode cX10_far 21 = .ok (.invokevirtual 373, 3) := by decide +kernel
theorem dX10_far_24 : decode cX10_far 24 = .ok (.istore_n 3, 1) := by decide +kernel
theorem dX10_far_25 : decode cX10_far 25 = .ok (.iload_n 3, 1) := by decide +kernel
theorem dX10_far_26 : decode cX10_far 26 = .ok (.ifCond .ne 8, 3) := by decide +kernel
theorem dX10_far_29 : decode cX10_far 29 = .ok (.bipush (-9), 2) := by decide +kernel
theorem dX10_far_31 : decode cX10_far 31 = .ok (.goto 7, 3) := by decide +kernel
theorem dX10_far_34 : decode cX10_far 34 = .ok (.aload_n 0, 1) := by decide +kernel
theorem dX10_far_35 : decode cX10_far 35 = .ok (.getfield 364, 3) := by decide +kernel
theorem dX10_far_38 : decode cX10_far 38 = .ok (.ireturn, 1) := by decide +kernel
def c_X10_far (F : Nat) (a0 : Nat) (x1 : Int32) (x2 : Int32) (h0 : z_Hp) : Option (Int32 × z_Hp) := (bI (c_X10_isSong F x1 h0) (fun x4 h3 => (if x4 = 0 then (some ((-1), h3)) else (bI (c_X10_isPlace F x2 h3) (fun x6 h5 => (if x6 = 0 then (some ((-1), h5)) else (if hT h5 a0 = 10 then (bI (c_X10_whoCan F a0 x1 99 x2 h5) (fun x8 h7 => (if x8 = 0 then (some ((-9), h7)) else (if hT h7 a0 = 10 then (some (hI h7 a0 60, h7)) else none)))) else none)))))))
set_option maxRecDepth 20000 in
set_option maxHeartbeats 4000000 in
theorem t_X10_far (F : Nat) (a0 : Nat) (x1 : Int32) (x2 : Int32) (h0 : z_Hp) : z_Ct zi mi_X10_far [vr (some a0), vi x1, vi x2] h0 (c_X10_far F a0 x1 x2 h0) := by
  refine z_entry (by decide) (Nat.le_of_ble_eq_true rfl) [(0, vr (some a0)), (1, vi x1), (2, vi x2)] rfl ?_
  unfold c_X10_far
  refine z_iload_n (pc := 0) dX10_far_0 rfl 1 rfl (z_callS_I (pc := 1) (avs := [vi x1]) (st := []) rfl (t_X10_isSong F x1 h0) ky_X10_isSong ws_X10_isSong wz_RX10_194 (rm_X10_far_X10_isSong) (Nat.le_of_ble_eq_true rfl) dX10_far_1 (fun x4 h3 => (?_)))
  refine z_if_eq (pc := 4) (tgt := 14) dX10_far_4 (by decide) ?_ ?_
  · refine z_iconst (pc := 14) dX10_far_14 ic_m1 (?_)
    exact z_iret (pc := 15) dX10_far_15 rfl rfl
  · refine z_iload_n (pc := 7) dX10_far_7 rfl 2 rfl (z_callS_I (pc := 8) (avs := [vi x2]) (st := []) rfl (t_X10_isPlace F x2 h3) ky_X10_isPlace ws_X10_isPlace wz_RX10_355 (rm_X10_far_X10_isPlace) (Nat.le_of_ble_eq_true rfl) dX10_far_8 (fun x6 h5 => (?_)))
    refine z_if_ne (pc := 11) (tgt := 16) dX10_far_11 (by decide) ?_ ?_
    · refine z_aload_n (pc := 16) dX10_far_16 rfl 0 rfl (z_iload_n (pc := 17) dX10_far_17 rfl 1 rfl (z_bipush (pc := 18) dX10_far_18 bp_99 (z_iload_n (pc := 20) dX10_far_20 rfl 2 rfl (z_callV_I (pc := 21) (avs := [vi x1, vi 99, vi x2]) (st := []) rfl (q := (RX10, TX10, 62)) rfl rfl (t_X10_whoCan F a0 x1 99 x2 h5) ky_X10_whoCan wm_X10_whoCan we_X10_whoCan wz_RX10_373 (rm_X10_far_X10_whoCan) (Nat.le_of_ble_eq_true rfl) dX10_far_21 (fun x8 h7 => (?_))))))
      refine z_istore_n (pc := 24) (L' := [(0, vr (some a0)), (1, vi x1), (2, vi x2), (3, vi x8)]) dX10_far_24 rfl (Nat.le_of_ble_eq_true rfl) rfl (z_iload_n (pc := 25) dX10_far_25 rfl 3 rfl (?_))
      refine z_if_ne (pc := 26) (tgt := 34) dX10_far_26 (by decide) ?_ ?_
      · refine z_aload_n (pc := 34) dX10_far_34 rfl 0 rfl (z_getI (pc := 35) fl_RX10_364 rfl dX10_far_35 (?_))
        exact z_iret (pc := 38) dX10_far_38 rfl rfl
      · refine z_bipush (pc := 29) dX10_far_29 bp_m9 (z_goto (pc := 31) (tgt := 38) dX10_far_31 (by decide) (?_))
        exact z_iret (pc := 38) dX10_far_38 rfl rfl
    · refine z_iconst (pc := 14) dX10_far_14 ic_m1 (?_)
      exact z_iret (pc := 15) dX10_far_15 rfl rfl
theorem dX10_lost_0 : decode cX10_lost 0 = .ok (.iconst 0, 1) := by decide +kernel
theorem dX10_lost_1 : decode cX10_lost 1 = .ok (.istore_n 1, 1) := by decide +kernel
theorem dX10_lost_2 : decode cX10_lost 2 = .ok (.iconst 0, 1) := by decide +kernel
theorem dX10_lost_3 : decode cX10_lost 3 = .ok (.istore_n 2, 1) := by decide +kernel
theorem dX10_lost_4 : decode cX10_lost 4 = .ok (.iconst 0, 1) := by decide +kernel
theorem dX10_lost_5 : decode cX10_lost 5 = .ok (.istore_n 3, 1) := by decide +kernel
theorem dX10_lost_6 : decode cX10_lost 6 = .ok (.iconst 0, 1) := by decide +kernel
theorem dX10_lost_7 : decode cX10_lost 7 = .ok (.istore 4, 2) := by decide +kernel
theorem dX10_lost_9 : decode cX10_lost 9 = .ok (.iload 4, 2) := by decide +kernel
theorem dX10_lost_11 : decode cX10_lost 11 = .ok (.aload_n 0, 1) := by decide +kernel
theorem dX10_lost_12 : decode cX10_lost 12 = .ok (.getfield 262, 3) := by decide +kernel
theorem dX10_lost_15 : decode cX10_lost 15 = .ok (.if_icmp .ge 109, 3) := by decide +kernel
theorem dX10_lost_18 : decode cX10_lost 18 = .ok (.aload_n 0, 1) := by decide +kernel
theorem dX10_lost_19 : decode cX10_lost 19 = .ok (.iload 4, 2) := by decide +kernel
theorem dX10_lost_21 : decode cX10_lost 21 = .ok (.invokevirtual 272, 3) := by decide +kernel
theorem dX10_lost_24 : decode cX10_lost 24 = .ok (.istore 5, 2) := by decide +kernel
theorem dX10_lost_26 : decode cX10_lost 26 = .ok (.iconst 0, 1) := by decide +kernel
theorem dX10_lost_27 : decode cX10_lost 27 = .ok (.istore 6, 2) := by decide +kernel
theorem dX10_lost_29 : decode cX10_lost 29 = .ok (.iload 6, 2) := by decide +kernel
theorem dX10_lost_31 : decode cX10_lost 31 = .ok (.iload 4, 2) := by decide +kernel
theorem dX10_lost_33 : decode cX10_lost 33 = .ok (.if_icmp .ge 41, 3) := by decide +kernel
theorem dX10_lost_36 : decode cX10_lost 36 = .ok (.iload 5, 2) := by decide +kernel
theorem dX10_lost_38 : decode cX10_lost 38 = .ok (.ifCond .eq 27, 3) := by decide +kernel
theorem dX10_lost_41 : decode cX10_lost 41 = .ok (.aload_n 0, 1) := by decide +kernel
theorem dX10_lost_42 : decode cX10_lost 42 = .ok (.iload 6, 2) := by decide +kernel
theorem dX10_lost_44 : decode cX10_lost 44 = .ok (.invokevirtual 272, 3) := by decide +kernel
theorem dX10_lost_47 : decode cX10_lost 47 = .ok (.ifCond .eq 14, 3) := by decide +kernel
theorem dX10_lost_50 : decode cX10_lost 50 = .ok (.aload_n 0, 1) := by decide +kernel
theorem dX10_lost_51 : decode cX10_lost 51 = .ok (.iload 4, 2) := by decide +kernel
theorem dX10_lost_53 : decode cX10_lost 53 = .ok (.iload 6, 2) := by decide +kernel
theorem dX10_lost_55 : decode cX10_lost 55 = .ok (.invokevirtual 275, 3) := by decide +kernel
theorem dX10_lost_58 : decode cX10_lost 58 = .ok (.ifCond .ne 7, 3) := by decide +kernel
theorem dX10_lost_61 : decode cX10_lost 61 = .ok (.iconst 1, 1) := by decide +kernel
theorem dX10_lost_62 : decode cX10_lost 62 = .ok (.goto 4, 3) := by decide +kernel
theorem dX10_lost_65 : decode cX10_lost 65 = .ok (.iconst 0, 1) := by decide +kernel
theorem dX10_lost_66 : decode cX10_lost 66 = .ok (.istore 5, 2) := by decide +kernel
theorem dX10_lost_68 : decode cX10_lost 68 = .ok (.iinc 6 1, 3) := by decide +kernel
theorem dX10_lost_71 : decode cX10_lost 71 = .ok (.goto (-42), 3) := by decide +kernel
theorem dX10_lost_74 : decode cX10_lost 74 = .ok (.iload 5, 2) := by decide +kernel
theorem dX10_lost_76 : decode cX10_lost 76 = .ok (.ifCond .eq 42, 3) := by decide +kernel
theorem dX10_lost_79 : decode cX10_lost 79 = .ok (.iinc 1 1, 3) := by decide +kernel
theorem dX10_lost_82 : decode cX10_lost 82 = .ok (.iload_n 2, 1) := by decide +kernel
theorem dX10_lost_83 : decode cX10_lost 83 = .ok (.aload_n 0, 1) := by decide +kernel
theorem dX10_lost_84 : decode cX10_lost 84 = .ok (.iload 4, 2) := by decide +kernel
theorem dX10_lost_86 : decode cX10_lost 86 = .ok (.invokevirtual 282, 3) := by decide +kernel
theorem dX10_lost_89 : decode cX10_lost 89 = .ok (.iconst 1, 1) := by decide +kernel
theorem dX10_lost_90 : decode cX10_lost 90 = .ok (.if_icmp .ne 7, 3) := by decide +kernel
theorem dX10_lost_93 : decode cX10_lost 93 = .ok (.iconst 1, 1) := by decide +kernel
theorem dX10_lost_94 : decode cX10_lost 94 = .ok (.goto 4, 3) := by decide +kernel
theorem dX10_lost_97 : decode cX10_lost 97 = .ok (.iconst 0, 1) := by decide +kernel
theorem dX10_lost_98 : decode cX10_lost 98 = .ok (.iadd, 1) := by decide +kernel
theorem dX10_lost_99 : decode cX10_lost 99 = .ok (.istore_n 2, 1) := by decide +kernel
theorem dX10_lost_100 : decode cX10_lost 100 = .ok (.iload_n 3, 1) := by decide +kernel
theorem dX10_lost_101 : decode cX10_lost 101 = .ok (.aload_n 0, 1) := by decide +kernel
theorem dX10_lost_102 : decode cX10_lost 102 = .ok (.iload 4, 2) := by decide +kernel
theorem dX10_lost_104 : decode cX10_lost 104 = .ok (.invokevirtual 282, 3) := by decide +kernel
theorem dX10_lost_107 : decode cX10_lost 107 = .ok (.iconst 2, 1) := by decide +kernel
theorem dX10_lost_108 : decode cX10_lost 108 = .ok (.if_icmp .ne 7, 3) := by decide +kernel
theorem dX10_lost_111 : decode cX10_lost 111 = .ok (.iconst 1, 1) := by decide +kernel
theorem dX10_lost_112 : decode cX10_lost 112 = .ok (.goto 4, 3) := by decide +kernel
theorem dX10_lost_115 : decode cX10_lost 115 = .ok (.iconst 0, 1) := by decide +kernel
theorem dX10_lost_116 : decode cX10_lost 116 = .ok (.iadd, 1) := by decide +kernel
theorem dX10_lost_117 : decode cX10_lost 117 = .ok (.istore_n 3, 1) := by decide +kernel
theorem dX10_lost_118 : decode cX10_lost 118 = .ok (.iinc 4 1, 3) := by decide +kernel
theorem dX10_lost_121 : decode cX10_lost 121 = .ok (.goto (-112), 3) := by decide +kernel
theorem dX10_lost_124 : decode cX10_lost 124 = .ok (.iload_n 1, 1) := by decide +kernel
theorem dX10_lost_125 : decode cX10_lost 125 = .ok (.ifCond .ne 9, 3) := by decide +kernel
theorem dX10_lost_128 : decode cX10_lost 128 = .ok (.aload_n 0, 1) := by decide +kernel
theorem dX10_lost_129 : decode cX10_lost 129 = .ok (.iconst 4, 1) := by decide +kernel
theorem dX10_lost_130 : decode cX10_lost 130 = .ok (.invokevirtual 174, 3) := by decide +kernel
theorem dX10_lost_133 : decode cX10_lost 133 = .ok (.ireturn, 1) := by decide +kernel
theorem dX10_lost_134 : decode cX10_lost 134 = .ok (.iload_n 3, 1) := by decide +kernel
theorem dX10_lost_135 : decode cX10_lost 135 = .ok (.ifCond .le 19, 3) := by decide +kernel
theorem dX10_lost_138 : decode cX10_lost 138 = .ok (.aload_n 0, 1) := by decide +kernel
theorem dX10_lost_139 : decode cX10_lost 139 = .ok (.iload_n 2, 1) := by decide +kernel
theorem dX10_lost_140 : decode cX10_lost 140 = .ok (.iload_n 2, 1) := by decide +kernel
theorem dX10_lost_141 : decode cX10_lost 141 = .ok (.imul, 1) := by decide +kernel
theorem dX10_lost_142 : decode cX10_lost 142 = .ok (.i2l, 1) := by decide +kernel
theorem dX10_lost_143 : decode cX10_lost 143 = .ok (.iconst 2, 1) := by decide +kernel
theorem dX10_lost_144 : decode cX10_lost 144 = .ok (.iload_n 3, 1) := by decide +kernel
theorem dX10_lost_145 : decode cX10_lost 145 = .ok (.imul, 1) := by decide +kernel
theorem dX10_lost_146 : decode cX10_lost 146 = .ok (.i2l, 1) := by decide +kernel
theorem dX10_lost_147 : decode cX10_lost 147 = .ok (.iload_n 1, 1) := by decide +kernel
theorem dX10_lost_148 : decode cX10_lost 148 = .ok (.invokevirtual 348, 3) := by decide +kernel
theorem dX10_lost_151 : decode cX10_lost 151 = .ok (.goto 17, 3) := by decide +kernel
theorem dX10_lost_154 : decode cX10_lost 154 = .ok (.aload_n 0, 1) := by decide +kernel
theorem dX10_lost_155 : decode cX10_lost 155 = .ok (.iload_n 2, 1) := by decide +kernel
theorem dX10_lost_156 : decode cX10_lost 156 = .ok (.iload_n 2, 1) := by decide +kernel
theorem dX10_lost_157 : decode cX10_lost 157 = .ok (.iconst 1, 1) := by decide +kernel
theorem dX10_lost_158 : decode cX10_lost 158 = .ok (.isub, 1) := by decide +kernel
theorem dX10_lost_159 : decode cX10_lost 159 = .ok (.imul, 1) := by decide +kernel
theorem dX10_lost_160 : decode cX10_lost 160 = .ok (.i2l, 1) := by decide +kernel
theorem dX10_lost_161 : decode cX10_lost 161 = .ok (.ldc2_w 376, 3) := by decide +kernel
theorem dX10_lost_164 : decode cX10_lost 164 = .ok (.iload_n 1, 1) := by decide +kernel
theorem dX10_lost_165 : decode cX10_lost 165 = .ok (.invokevirtual 348, 3) := by decide +kernel
theorem dX10_lost_168 : decode cX10_lost 168 = .ok (.ireturn, 1) := by decide +kernel
def c_X10_lost_L29 (F : Nat) (a13 : Nat) (x14 : Int32) (x15 : Int32) (x16 : Int32) (x17 : Int32) (k74 : Int32 → z_Hp → Option (Int32 × z_Hp)) : Nat → Int32 → Int32 → z_Hp → Option (Int32 × z_Hp)
  | 0, _, _, _ => none
  | n + 1, x18, x19, h20 => (if x17 ≤ x19 then (k74 x18 h20) else (lt_ (fun (x24 : Int32) (h25 : z_Hp) => (lt_ (x19 + 1) (fun x26 => (c_X10_lost_L29 F a13 x14 x15 x16 x17 k74 n x24 x26 h25)))) (fun (j66_23 : Int32 → z_Hp → Option (Int32 × z_Hp)) => (lt_ (fun (h28 : z_Hp) => (j66_23 0 h28)) (fun (j65_27 : z_Hp → Option (Int32 × z_Hp)) => (if x18 = 0 then (j65_27 h20) else (if hT h20 a13 = 10 then (bI (c_X10_isCopy F a13 x19 h20) (fun x30 h29 => (lt_ (fun (h32 : z_Hp) => (j66_23 1 h32)) (fun (j61_31 : z_Hp → Option (Int32 × z_Hp)) => (if x30 = 0 then (j61_31 h29) else (if hT h29 a13 = 10 then (bI (c_X10_isLike F a13 x17 x19 h29) (fun x34 h33 => (if x34 = 0 then (j61_31 h33) else (j65_27 h33)))) else none)))))) else none)))))))
def c_X10_lost_L9 (F : Nat) (a1 : Nat) (k124 : Int32 → Int32 → Int32 → z_Hp → Option (Int32 × z_Hp)) : Nat → Int32 → Int32 → Int32 → Int32 → z_Hp → Option (Int32 × z_Hp)
  | 0, _, _, _, _, _ => none
  | n + 1, x2, x3, x4, x5, h6 => (if hT h6 a1 = 10 then (if (hI h6 a1 26) ≤ x5 then (k124 x2 x3 x4 h6) else (if hT h6 a1 = 10 then (bI (c_X10_isCopy F a1 x5 h6) (fun x12 h11 => (c_X10_lost_L29 F a1 x2 x3 x4 x5 (fun x35 h36 => (lt_ (fun (x38 : Int32) (x39 : Int32) (x40 : Int32) (h41 : z_Hp) => (lt_ (x5 + 1) (fun x42 => (c_X10_lost_L9 F a1 k124 n x38 x39 x40 x42 h41)))) (fun (j118_37 : Int32 → Int32 → Int32 → z_Hp → Option (Int32 × z_Hp)) => (if x35 = 0 then (j118_37 x2 x3 x4 h36) else (lt_ (x2 + 1) (fun x43 => (if hT h36 a1 = 10 then (bI (c_X10_copiesLike F a1 x5 h36) (fun x45 h44 => (lt_ (fun (x47 : Int32) (h48 : z_Hp) => (lt_ (x3 + x47) (fun x49 => (if hT h48 a1 = 10 then (bI (c_X10_copiesLike F a1 x5 h48) (fun x51 h50 => (lt_ (fun (x53 : Int32) (h54 : z_Hp) => (lt_ (x4 + x53) (fun x55 => (j118_37 x43 x49 x55 h54)))) (fun (j116_52 : Int32 → z_Hp → Option (Int32 × z_Hp)) => (if x51 = 2 then (j116_52 1 h50) else (j116_52 0 h50)))))) else none)))) (fun (j98_46 : Int32 → z_Hp → Option (Int32 × z_Hp)) => (if x45 = 1 then (j98_46 1 h44) else (j98_46 0 h44)))))) else none))))))) F x12 0 h11))) else none)) else none)
def c_X10_lost (F : Nat) (a0 : Nat) (h0 : z_Hp) : Option (Int32 × z_Hp) := (c_X10_lost_L9 F a0 (fun x56 x57 x58 h59 => (if x56 = 0 then (if hT h59 a0 = 10 then (bI (c_X10_meets F a0 4 h59) (fun x65 h64 => (some (x65, h64)))) else none) else (if x58 ≤ 0 then (if hT h59 a0 = 10 then (bI (c_X10_share F a0 ((x57 * (x57 - 1) : Int32).toInt64) 2 x56 h59) (fun x61 h60 => (some (x61, h60)))) else none) else (if hT h59 a0 = 10 then (bI (c_X10_share F a0 ((x57 * x57 : Int32).toInt64) ((2 * x58 : Int32).toInt64) x56 h59) (fun x63 h62 => (some (x63, h62)))) else none)))) F 0 0 0 0 h0)
set_option maxRecDepth 20000 in
set_option maxHeartbeats 4000000 in
theorem g_X10_lost_L29 (F : Nat) (a13 : Nat) (x14 : Int32) (x15 : Int32) (x16 : Int32) (x17 : Int32) (k74 : Int32 → z_Hp → Option (Int32 × z_Hp)) (qk74 : ∀ (x21 : Int32) (h22 : z_Hp), z_G zi mi_X10_lost 74 [(0, vr (some a13)), (1, vi x14), (2, vi x15), (3, vi x16), (4, vi x17), (5, vi x21)] [] h22 (k74 x21 h22)) : ∀ (n : Nat) (x18 : Int32) (x19 : Int32) (h20 : z_Hp), z_G zi mi_X10_lost 29 [(0, vr (some a13)), (1, vi x14), (2, vi x15), (3, vi x16), (4, vi x17), (5, vi x18), (6, vi x19)] [] h20 (c_X10_lost_L29 F a13 x14 x15 x16 x17 k74 n x18 x19 h20) := by
  intro n
  induction n with
  | zero => intro x18 x19 h20; rw [c_X10_lost_L29]; exact z_none
  | succ n ih =>
    intro x18 x19 h20
    rw [c_X10_lost_L29]
    refine z_iload (pc := 29) dX10_lost_29 6 rfl (z_iload (pc := 31) dX10_lost_31 4 rfl (?_))
    refine z_icmp_ge (pc := 33) (tgt := 74) dX10_lost_33 (by decide) ?_ ?_
    · exact z_sub [0, 1, 2, 3, 4, 5] rfl (qk74 x18 h20)
    · refine z_iload (pc := 36) dX10_lost_36 5 rfl (?_)
      refine z_jn (P := fun (j : Int32 → z_Hp → Option (Int32 × z_Hp)) => ∀ (x24 : Int32) (h25 : z_Hp), z_G zi mi_X10_lost 66 [(0, vr (some a13)), (1, vi x14), (2, vi x15), (3, vi x16), (4, vi x17), (6, vi x19)] [vi x24] h25 (j x24 h25)) (fun x24 h25 => ?_) (fun j66_23 qj66_23 => ?_)
      · refine z_istore (pc := 66) (L' := [(0, vr (some a13)), (1, vi x14), (2, vi x15), (3, vi x16), (4, vi x17), (5, vi x24), (6, vi x19)]) dX10_lost_66 (Nat.le_of_ble_eq_true rfl) rfl (z_iincl (pc := 68) (L' := fun x26 => [(0, vr (some a13)), (1, vi x14), (2, vi x15), (3, vi x16), (4, vi x17), (5, vi x24), (6, vi x26)]) dX10_lost_68 6 rfl ic_1 (Nat.le_of_ble_eq_true rfl) (fun _ => rfl) (fun x26 => (z_goto (pc := 71) (tgt := 29) dX10_lost_71 (by decide) (?_))))
        exact ih x24 x26 h25
      refine z_jn (P := fun (j : z_Hp → Option (Int32 × z_Hp)) => ∀ (h28 : z_Hp), z_G zi mi_X10_lost 65 [(0, vr (some a13)), (1, vi x14), (2, vi x15), (3, vi x16), (4, vi x17), (6, vi x19)] [] h28 (j h28)) (fun h28 => ?_) (fun j65_27 qj65_27 => ?_)
      · refine z_iconst (pc := 65) dX10_lost_65 ic_0 (?_)
        exact qj66_23 0 h28
      refine z_if_eq (pc := 38) (tgt := 65) dX10_lost_38 (by decide) ?_ ?_
      · exact z_sub [0, 1, 2, 3, 4, 6] rfl (qj65_27 h20)
      · refine z_aload_n (pc := 41) dX10_lost_41 rfl 0 rfl (z_iload (pc := 42) dX10_lost_42 6 rfl (z_callV_I (pc := 44) (avs := [vi x19]) (st := []) rfl (q := (RX10, TX10, 62)) rfl rfl (t_X10_isCopy F a13 x19 h20) ky_X10_isCopy wm_X10_isCopy we_X10_isCopy wz_RX10_272 (rm_X10_lost_X10_isCopy) (Nat.le_of_ble_eq_true rfl) dX10_lost_44 (fun x30 h29 => (?_))))
        refine z_jn (P := fun (j : z_Hp → Option (Int32 × z_Hp)) => ∀ (h32 : z_Hp), z_G zi mi_X10_lost 61 [(0, vr (some a13)), (1, vi x14), (2, vi x15), (3, vi x16), (4, vi x17), (6, vi x19)] [] h32 (j h32)) (fun h32 => ?_) (fun j61_31 qj61_31 => ?_)
        · refine z_iconst (pc := 61) dX10_lost_61 ic_1 (z_goto (pc := 62) (tgt := 66) dX10_lost_62 (by decide) (?_))
          exact qj66_23 1 h32
        refine z_if_eq (pc := 47) (tgt := 61) dX10_lost_47 (by decide) ?_ ?_
        · exact z_sub [0, 1, 2, 3, 4, 6] rfl (qj61_31 h29)
        · refine z_aload_n (pc := 50) dX10_lost_50 rfl 0 rfl (z_iload (pc := 51) dX10_lost_51 4 rfl (z_iload (pc := 53) dX10_lost_53 6 rfl (z_callV_I (pc := 55) (avs := [vi x17, vi x19]) (st := []) rfl (q := (RX10, TX10, 62)) rfl rfl (t_X10_isLike F a13 x17 x19 h29) ky_X10_isLike wm_X10_isLike we_X10_isLike wz_RX10_275 (rm_X10_lost_X10_isLike) (Nat.le_of_ble_eq_true rfl) dX10_lost_55 (fun x34 h33 => (?_)))))
          refine z_if_ne (pc := 58) (tgt := 65) dX10_lost_58 (by decide) ?_ ?_
          · exact z_sub [0, 1, 2, 3, 4, 6] rfl (qj65_27 h33)
          · exact z_sub [0, 1, 2, 3, 4, 6] rfl (qj61_31 h33)
set_option maxRecDepth 20000 in
set_option maxHeartbeats 4000000 in
theorem g_X10_lost_L9 (F : Nat) (a1 : Nat) (k124 : Int32 → Int32 → Int32 → z_Hp → Option (Int32 × z_Hp)) (qk124 : ∀ (x7 : Int32) (x8 : Int32) (x9 : Int32) (h10 : z_Hp), z_G zi mi_X10_lost 124 [(0, vr (some a1)), (1, vi x7), (2, vi x8), (3, vi x9)] [] h10 (k124 x7 x8 x9 h10)) : ∀ (n : Nat) (x2 : Int32) (x3 : Int32) (x4 : Int32) (x5 : Int32) (h6 : z_Hp), z_G zi mi_X10_lost 9 [(0, vr (some a1)), (1, vi x2), (2, vi x3), (3, vi x4), (4, vi x5)] [] h6 (c_X10_lost_L9 F a1 k124 n x2 x3 x4 x5 h6) := by
  intro n
  induction n with
  | zero => intro x2 x3 x4 x5 h6; rw [c_X10_lost_L9]; exact z_none
  | succ n ih =>
    intro x2 x3 x4 x5 h6
    rw [c_X10_lost_L9]
    refine z_iload (pc := 9) dX10_lost_9 4 rfl (z_aload_n (pc := 11) dX10_lost_11 rfl 0 rfl (z_getI (pc := 12) fl_RX10_262 rfl dX10_lost_12 (?_)))
    refine z_icmp_ge (pc := 15) (tgt := 124) dX10_lost_15 (by decide) ?_ ?_
    · exact z_sub [0, 1, 2, 3] rfl (qk124 x2 x3 x4 h6)
    · refine z_aload_n (pc := 18) dX10_lost_18 rfl 0 rfl (z_iload (pc := 19) dX10_lost_19 4 rfl (z_callV_I (pc := 21) (avs := [vi x5]) (st := []) rfl (q := (RX10, TX10, 62)) rfl rfl (t_X10_isCopy F a1 x5 h6) ky_X10_isCopy wm_X10_isCopy we_X10_isCopy wz_RX10_272 (rm_X10_lost_X10_isCopy) (Nat.le_of_ble_eq_true rfl) dX10_lost_21 (fun x12 h11 => (?_))))
      refine z_istore (pc := 24) (L' := [(0, vr (some a1)), (1, vi x2), (2, vi x3), (3, vi x4), (4, vi x5), (5, vi x12)]) dX10_lost_24 (Nat.le_of_ble_eq_true rfl) rfl (z_iconst (pc := 26) dX10_lost_26 ic_0 (z_istore (pc := 27) (L' := [(0, vr (some a1)), (1, vi x2), (2, vi x3), (3, vi x4), (4, vi x5), (5, vi x12), (6, vi 0)]) dX10_lost_27 (Nat.le_of_ble_eq_true rfl) rfl (?_)))
      refine g_X10_lost_L29 F a1 x2 x3 x4 x5 _ (fun x35 h36 => ?_) F x12 0 h11
      refine z_iload (pc := 74) dX10_lost_74 5 rfl (?_)
      refine z_jn (P := fun (j : Int32 → Int32 → Int32 → z_Hp → Option (Int32 × z_Hp)) => ∀ (x38 : Int32) (x39 : Int32) (x40 : Int32) (h41 : z_Hp), z_G zi mi_X10_lost 118 [(0, vr (some a1)), (1, vi x38), (2, vi x39), (3, vi x40), (4, vi x5)] [] h41 (j x38 x39 x40 h41)) (fun x38 x39 x40 h41 => ?_) (fun j118_37 qj118_37 => ?_)
      · refine z_iincl (pc := 118) (L' := fun x42 => [(0, vr (some a1)), (1, vi x38), (2, vi x39), (3, vi x40), (4, vi x42)]) dX10_lost_118 4 rfl ic_1 (Nat.le_of_ble_eq_true rfl) (fun _ => rfl) (fun x42 => (z_goto (pc := 121) (tgt := 9) dX10_lost_121 (by decide) (?_)))
        exact ih x38 x39 x40 x42 h41
      refine z_if_eq (pc := 76) (tgt := 118) dX10_lost_76 (by decide) ?_ ?_
      · exact z_sub [0, 1, 2, 3, 4] rfl (qj118_37 x2 x3 x4 h36)
      · refine z_iincl (pc := 79) (L' := fun x43 => [(0, vr (some a1)), (1, vi x43), (2, vi x3), (3, vi x4), (4, vi x5), (5, vi x35)]) dX10_lost_79 1 rfl ic_1 (Nat.le_of_ble_eq_true rfl) (fun _ => rfl) (fun x43 => (z_iload_n (pc := 82) dX10_lost_82 rfl 2 rfl (z_aload_n (pc := 83) dX10_lost_83 rfl 0 rfl (z_iload (pc := 84) dX10_lost_84 4 rfl (z_callV_I (pc := 86) (avs := [vi x5]) (st := [vi x3]) rfl (q := (RX10, TX10, 62)) rfl rfl (t_X10_copiesLike F a1 x5 h36) ky_X10_copiesLike wm_X10_copiesLike we_X10_copiesLike wz_RX10_282 (rm_X10_lost_X10_copiesLike) (Nat.le_of_ble_eq_true rfl) dX10_lost_86 (fun x45 h44 => (?_)))))))
        refine z_iconst (pc := 89) dX10_lost_89 ic_1 (?_)
        refine z_jn (P := fun (j : Int32 → z_Hp → Option (Int32 × z_Hp)) => ∀ (x47 : Int32) (h48 : z_Hp), z_G zi mi_X10_lost 98 [(0, vr (some a1)), (1, vi x43), (3, vi x4), (4, vi x5)] [vi x47, vi x3] h48 (j x47 h48)) (fun x47 h48 => ?_) (fun j98_46 qj98_46 => ?_)
        · refine z_iadd (pc := 98) dX10_lost_98 (z_istorel_n (pc := 99) (L' := fun x49 => [(0, vr (some a1)), (1, vi x43), (2, vi x49), (3, vi x4), (4, vi x5)]) dX10_lost_99 rfl (Nat.le_of_ble_eq_true rfl) (fun _ => rfl) (fun x49 => (z_iload_n (pc := 100) dX10_lost_100 rfl 3 rfl (z_aload_n (pc := 101) dX10_lost_101 rfl 0 rfl (z_iload (pc := 102) dX10_lost_102 4 rfl (z_callV_I (pc := 104) (avs := [vi x5]) (st := [vi x4]) rfl (q := (RX10, TX10, 62)) rfl rfl (t_X10_copiesLike F a1 x5 h48) ky_X10_copiesLike wm_X10_copiesLike we_X10_copiesLike wz_RX10_282 (rm_X10_lost_X10_copiesLike) (Nat.le_of_ble_eq_true rfl) dX10_lost_104 (fun x51 h50 => (?_))))))))
          refine z_iconst (pc := 107) dX10_lost_107 ic_2 (?_)
          refine z_jn (P := fun (j : Int32 → z_Hp → Option (Int32 × z_Hp)) => ∀ (x53 : Int32) (h54 : z_Hp), z_G zi mi_X10_lost 116 [(0, vr (some a1)), (1, vi x43), (2, vi x49), (4, vi x5)] [vi x53, vi x4] h54 (j x53 h54)) (fun x53 h54 => ?_) (fun j116_52 qj116_52 => ?_)
          · refine z_iadd (pc := 116) dX10_lost_116 (z_istorel_n (pc := 117) (L' := fun x55 => [(0, vr (some a1)), (1, vi x43), (2, vi x49), (3, vi x55), (4, vi x5)]) dX10_lost_117 rfl (Nat.le_of_ble_eq_true rfl) (fun _ => rfl) (fun x55 => (?_)))
            exact qj118_37 x43 x49 x55 h54
          refine z_icmp_ne (pc := 108) (tgt := 115) dX10_lost_108 (by decide) ?_ ?_
          · refine z_iconst (pc := 115) dX10_lost_115 ic_0 (?_)
            exact z_sub [0, 1, 2, 4] rfl (qj116_52 0 h50)
          · refine z_iconst (pc := 111) dX10_lost_111 ic_1 (z_goto (pc := 112) (tgt := 116) dX10_lost_112 (by decide) (?_))
            exact z_sub [0, 1, 2, 4] rfl (qj116_52 1 h50)
        refine z_icmp_ne (pc := 90) (tgt := 97) dX10_lost_90 (by decide) ?_ ?_
        · refine z_iconst (pc := 97) dX10_lost_97 ic_0 (?_)
          exact z_sub [0, 1, 3, 4] rfl (qj98_46 0 h44)
        · refine z_iconst (pc := 93) dX10_lost_93 ic_1 (z_goto (pc := 94) (tgt := 98) dX10_lost_94 (by decide) (?_))
          exact z_sub [0, 1, 3, 4] rfl (qj98_46 1 h44)
set_option maxRecDepth 20000 in
set_option maxHeartbeats 4000000 in
theorem t_X10_lost (F : Nat) (a0 : Nat) (h0 : z_Hp) : z_Ct zi mi_X10_lost [vr (some a0)] h0 (c_X10_lost F a0 h0) := by
  refine z_entry (by decide) (Nat.le_of_ble_eq_true rfl) [(0, vr (some a0))] rfl ?_
  unfold c_X10_lost
  refine z_iconst (pc := 0) dX10_lost_0 ic_0 (z_istore_n (pc := 1) (L' := [(0, vr (some a0)), (1, vi 0)]) dX10_lost_1 rfl (Nat.le_of_ble_eq_true rfl) rfl (z_iconst (pc := 2) dX10_lost_2 ic_0 (z_istore_n (pc := 3) (L' := [(0, vr (some a0)), (1, vi 0), (2, vi 0)]) dX10_lost_3 rfl (Nat.le_of_ble_eq_true rfl) rfl (z_iconst (pc := 4) dX10_lost_4 ic_0 (z_istore_n (pc := 5) (L' := [(0, vr (some a0)), (1, vi 0), (2, vi 0), (3, vi 0)]) dX10_lost_5 rfl (Nat.le_of_ble_eq_true rfl) rfl (z_iconst (pc := 6) dX10_lost_6 ic_0 (z_istore (pc := 7) (L' := [(0, vr (some a0)), (1, vi 0), (2, vi 0), (3, vi 0), (4, vi 0)]) dX10_lost_7 (Nat.le_of_ble_eq_true rfl) rfl (?_))))))))
  refine g_X10_lost_L9 F a0 _ (fun x56 x57 x58 h59 => ?_) F 0 0 0 0 h0
  refine z_iload_n (pc := 124) dX10_lost_124 rfl 1 rfl (?_)
  refine z_if_ne (pc := 125) (tgt := 134) dX10_lost_125 (by decide) ?_ ?_
  · refine z_iload_n (pc := 134) dX10_lost_134 rfl 3 rfl (?_)
    refine z_if_le (pc := 135) (tgt := 154) dX10_lost_135 (by decide) ?_ ?_
    · refine z_aload_n (pc := 154) dX10_lost_154 rfl 0 rfl (z_iload_n (pc := 155) dX10_lost_155 rfl 2 rfl (z_iload_n (pc := 156) dX10_lost_156 rfl 2 rfl (z_iconst (pc := 157) dX10_lost_157 ic_1 (z_isub (pc := 158) dX10_lost_158 (z_imul (pc := 159) dX10_lost_159 (z_i2l (pc := 160) dX10_lost_160 (z_ldc2 (pc := 161) dX10_lost_161 wj_RX10_376 (?_))))))))
      refine z_iload_n (pc := 164) dX10_lost_164 rfl 1 rfl (z_callV_I (pc := 165) (avs := [vl ((x57 * (x57 - 1) : Int32).toInt64), vl 2, vi x56]) (st := []) rfl (q := (RX10, TX10, 62)) rfl rfl (t_X10_share F a0 ((x57 * (x57 - 1) : Int32).toInt64) 2 x56 h59) ky_X10_share wm_X10_share we_X10_share wz_RX10_348 (rm_X10_lost_X10_share) (Nat.le_of_ble_eq_true rfl) dX10_lost_165 (fun x61 h60 => (?_)))
      exact z_iret (pc := 168) dX10_lost_168 rfl rfl
    · refine z_aload_n (pc := 138) dX10_lost_138 rfl 0 rfl (z_iload_n (pc := 139) dX10_lost_139 rfl 2 rfl (z_iload_n (pc := 140) dX10_lost_140 rfl 2 rfl (z_imul (pc := 141) dX10_lost_141 (z_i2l (pc := 142) dX10_lost_142 (z_iconst (pc := 143) dX10_lost_143 ic_2 (z_iload_n (pc := 144) dX10_lost_144 rfl 3 rfl (z_imul (pc := 145) dX10_lost_145 (?_))))))))
      refine z_i2l (pc := 146) dX10_lost_146 (z_iload_n (pc := 147) dX10_lost_147 rfl 1 rfl (z_callV_I (pc := 148) (avs := [vl ((x57 * x57 : Int32).toInt64), vl ((2 * x58 : Int32).toInt64), vi x56]) (st := []) rfl (q := (RX10, TX10, 62)) rfl rfl (t_X10_share F a0 ((x57 * x57 : Int32).toInt64) ((2 * x58 : Int32).toInt64) x56 h59) ky_X10_share wm_X10_share we_X10_share wz_RX10_348 (rm_X10_lost_X10_share) (Nat.le_of_ble_eq_true rfl) dX10_lost_148 (fun x63 h62 => (?_))))
      refine z_goto (pc := 151) (tgt := 168) dX10_lost_151 (by decide) (?_)
      exact z_iret (pc := 168) dX10_lost_168 rfl rfl
  · refine z_aload_n (pc := 128) dX10_lost_128 rfl 0 rfl (z_iconst (pc := 129) dX10_lost_129 ic_4 (z_callV_I (pc := 130) (avs := [vi 4]) (st := []) rfl (q := (RX10, TX10, 62)) rfl rfl (t_X10_meets F a0 4 h59) ky_X10_meets wm_X10_meets we_X10_meets wz_RX10_174 (rm_X10_lost_X10_meets) (Nat.le_of_ble_eq_true rfl) dX10_lost_130 (fun x65 h64 => (?_))))
    exact z_iret (pc := 133) dX10_lost_133 rfl rfl
theorem dX10_many_0 : decode cX10_many 0 = .ok (.aload_n 0, 1) := by decide +kernel
theorem dX10_many_1 : decode cX10_many 1 = .ok (.getfield 322, 3) := by decide +kernel
theorem dX10_many_4 : decode cX10_many 4 = .ok (.lreturn, 1) := by decide +kernel
def c_X10_many (F : Nat) (a0 : Nat) (h0 : z_Hp) : Option (Int64 × z_Hp) := (if hT h0 a0 = 10 then (some (hJ h0 a0 3, h0)) else none)
set_option maxRecDepth 20000 in
set_option maxHeartbeats 4000000 in
theorem t_X10_many (F : Nat) (a0 : Nat) (h0 : z_Hp) : z_Ct zl mi_X10_many [vr (some a0)] h0 (c_X10_many F a0 h0) := by
  refine z_entry (by decide) (Nat.le_of_ble_eq_true rfl) [(0, vr (some a0))] rfl ?_
  unfold c_X10_many
  refine z_aload_n (pc := 0) dX10_many_0 rfl 0 rfl (z_getJ (pc := 1) fl_RX10_322 rfl dX10_many_1 (?_))
  exact z_lret (pc := 4) dX10_many_4 rfl
theorem dX10_asked_0 : decode cX10_asked 0 = .ok (.aload_n 0, 1) := by decide +kernel
theorem dX10_asked_1 : decode cX10_asked 1 = .ok (.getfield 160, 3) := by decide +kernel
theorem dX10_asked_4 : decode cX10_asked 4 = .ok (.ireturn, 1) := by decide +kernel
def c_X10_asked (F : Nat) (a0 : Nat) (h0 : z_Hp) : Option (Int32 × z_Hp) := (if hT h0 a0 = 10 then (some (hI h0 a0 2, h0)) else none)
set_option maxRecDepth 20000 in
set_option maxHeartbeats 4000000 in
theorem t_X10_asked (F : Nat) (a0 : Nat) (h0 : z_Hp) : z_Ct zi mi_X10_asked [vr (some a0)] h0 (c_X10_asked F a0 h0) := by
  refine z_entry (by decide) (Nat.le_of_ble_eq_true rfl) [(0, vr (some a0))] rfl ?_
  unfold c_X10_asked
  refine z_aload_n (pc := 0) dX10_asked_0 rfl 0 rfl (z_getI (pc := 1) fl_RX10_160 rfl dX10_asked_1 (?_))
  exact z_iret (pc := 4) dX10_asked_4 rfl rfl
theorem dX10_upper_0 : decode cX10_upper 0 = .ok (.aload_n 0, 1) := by decide +kernel
theorem dX10_upper_1 : decode cX10_upper 1 = .ok (.getfield 163, 3) := by decide +kernel
theorem dX10_upper_4 : decode cX10_upper 4 = .ok (.lreturn, 1) := by decide +kernel
def c_X10_upper (F : Nat) (a0 : Nat) (h0 : z_Hp) : Option (Int64 × z_Hp) := (if hT h0 a0 = 10 then (some (hJ h0 a0 4, h0)) else none)
set_option maxRecDepth 20000 in
set_option maxHeartbeats 4000000 in
theorem t_X10_upper (F : Nat) (a0 : Nat) (h0 : z_Hp) : z_Ct zl mi_X10_upper [vr (some a0)] h0 (c_X10_upper F a0 h0) := by
  refine z_entry (by decide) (Nat.le_of_ble_eq_true rfl) [(0, vr (some a0))] rfl ?_
  unfold c_X10_upper
  refine z_aload_n (pc := 0) dX10_upper_0 rfl 0 rfl (z_getJ (pc := 1) fl_RX10_163 rfl dX10_upper_1 (?_))
  exact z_lret (pc := 4) dX10_upper_4 rfl
theorem dX10_lower_0 : decode cX10_lower 0 = .ok (.aload_n 0, 1) := by decide +kernel
theorem dX10_lower_1 : decode cX10_lower 1 = .ok (.getfield 13, 3) := by decide +kernel
theorem dX10_lower_4 : decode cX10_lower 4 = .ok (.lreturn, 1) := by decide +kernel
def c_X10_lower (F : Nat) (a0 : Nat) (h0 : z_Hp) : Option (Int64 × z_Hp) := (if hT h0 a0 = 10 then (some (hJ h0 a0 5, h0)) else none)
set_option maxRecDepth 20000 in
set_option maxHeartbeats 4000000 in
theorem t_X10_lower (F : Nat) (a0 : Nat) (h0 : z_Hp) : z_Ct zl mi_X10_lower [vr (some a0)] h0 (c_X10_lower F a0 h0) := by
  refine z_entry (by decide) (Nat.le_of_ble_eq_true rfl) [(0, vr (some a0))] rfl ?_
  unfold c_X10_lower
  refine z_aload_n (pc := 0) dX10_lower_0 rfl 0 rfl (z_getJ (pc := 1) fl_RX10_13 rfl dX10_lower_1 (?_))
  exact z_lret (pc := 4) dX10_lower_4 rfl
theorem dX10_counts_0 : decode cX10_counts 0 = .ok (.iconst 0, 1) := by decide +kernel
theorem dX10_counts_1 : decode cX10_counts 1 = .ok (.istore_n 2, 1) := by decide +kernel
theorem dX10_counts_2 : decode cX10_counts 2 = .ok (.iload_n 1, 1) := by decide +kernel
theorem dX10_counts_3 : decode cX10_counts 3 = .ok (.tableswitch 160 0 6 #[41, 46, 79, 112, 117, 122, 127], 41) := by decide +kernel
theorem dX10_counts_44 : decode cX10_counts 44 = .ok (.aload_n 0, 1) := by decide +kernel
theorem dX10_counts_45 : decode cX10_counts 45 = .ok (.getfield 191, 3) := by decide +kernel
theorem dX10_counts_48 : decode cX10_counts 48 = .ok (.ireturn, 1) := by decide +kernel
theorem dX10_counts_49 : decode cX10_counts 49 = .ok (.iconst 0, 1) := by decide +kernel
theorem dX10_counts_50 : decode cX10_counts 50 = .ok (.istore_n 3, 1) := by decide +kernel
theorem dX10_counts_51 : decode cX10_counts 51 = .ok (.iload_n 3, 1) := by decide +kernel
theorem dX10_counts_52 : decode cX10_counts 52 = .ok (.bipush 10, 2) := by decide +kernel
theorem dX10_counts_54 : decode cX10_counts 54 = .ok (.if_icmp .ge 26, 3) := by decide +kernel
theorem dX10_counts_57 : decode cX10_counts 57 = .ok (.iload_n 2, 1) := by decide +kernel
theorem dX10_counts_58 : decode cX10_counts 58 = .ok (.aload_n 0, 1) := by decide +kernel
theorem dX10_counts_59 : decode cX10_counts 59 = .ok (.getfield 32, 3) := by decide +kernel
theorem dX10_counts_62 : decode cX10_counts 62 = .ok (.iload_n 3, 1) := by decide +kernel
theorem dX10_counts_63 : decode cX10_counts 63 = .ok (.iaload, 1) := by decide +kernel
theorem dX10_counts_64 : decode cX10_counts 64 = .ok (.ifCond .lt 7, 3) := by decide +kernel
theorem dX10_counts_67 : decode cX10_counts 67 = .ok (.iconst 1, 1) := by decide +kernel
theorem dX10_counts_68 : decode cX10_counts 68 = .ok (.goto 4, 3) := by decide +kernel
theorem dX10_counts_71 : decode cX10_counts 71 = .ok (.iconst 0, 1) := by decide +kernel
theorem dX10_counts_72 : decode cX10_counts 72 = .ok (.iadd, 1) := by decide +kernel
theorem dX10_counts_73 : decode cX10_counts 73 = .ok (.istore_n 2, 1) := by decide +kernel
theorem dX10_counts_74 : decode cX10_counts 74 = .ok (.iinc 3 1, 3) := by decide +kernel
theorem dX10_counts_77 : decode cX10_counts 77 = .ok (.goto (-26), 3) := by decide +kernel
theorem dX10_counts_80 : decode cX10_counts 80 = .ok (.iload_n 2, 1) := by decide +kernel
theorem dX10_counts_81 : decode cX10_counts 81 = .ok (.ireturn, 1) := by decide +kernel
theorem dX10_counts_82 : decode cX10_counts 82 = .ok (.iconst 0, 1) := by decide +kernel
theorem dX10_counts_83 : decode cX10_counts 83 = .ok (.istore_n 3, 1) := by decide +kernel
theorem dX10_counts_84 : decode cX10_counts 84 = .ok (.iload_n 3, 1) := by decide +kernel
theorem dX10_counts_85 : decode cX10_counts 85 = .ok (.bipush 6, 2) := by decide +kernel
theorem dX10_counts_87 : decode cX10_counts 87 = .ok (.if_icmp .ge 26, 3) := by decide +kernel
theorem dX10_counts_90 : decode cX10_counts 90 = .ok (.iload_n 2, 1) := by decide +kernel
theorem dX10_counts_91 : decode cX10_counts 91 = .ok (.aload_n 0, 1) := by decide +kernel
theorem dX10_counts_92 : decode cX10_counts 92 = .ok (.getfield 44, 3) := by decide +kernel
theorem dX10_counts_95 : decode cX10_counts 95 = .ok (.iload_n 3, 1) := by decide +kernel
theorem dX10_counts_96 : decode cX10_counts 96 = .ok (.iaload, 1) := by decide +kernel
theorem dX10_counts_97 : decode cX10_counts 97 = .ok (.ifCond .lt 7, 3) := by decide +kernel
theorem dX10_counts_100 : decode cX10_counts 100 = .ok (.iconst 1, 1) := by decide +kernel
theorem dX10_counts_101 : decode cX10_counts 101 = .ok (.goto 4, 3) := by decide +kernel
theorem dX10_counts_104 : decode cX10_counts 104 = .ok (.iconst 0, 1) := by decide +kernel
theorem dX10_counts_105 : decode cX10_counts 105 = .ok (.iadd, 1) := by decide +kernel
theorem dX10_counts_106 : decode cX10_counts 106 = .ok (.istore_n 2, 1) := by decide +kernel
theorem dX10_counts_107 : decode cX10_counts 107 = .ok (.iinc 3 1, 3) := by decide +kernel
theorem dX10_counts_110 : decode cX10_counts 110 = .ok (.goto (-26), 3) := by decide +kernel
theorem dX10_counts_113 : decode cX10_counts 113 = .ok (.iload_n 2, 1) := by decide +kernel
theorem dX10_counts_114 : decode cX10_counts 114 = .ok (.ireturn, 1) := by decide +kernel
theorem dX10_counts_115 : decode cX10_counts 115 = .ok (.aload_n 0, 1) := by decide +kernel
theorem dX10_counts_116 : decode cX10_counts 116 = .ok (.getfield 262, 3) := by decide +kernel
theorem dX10_counts_119 : decode cX10_counts 119 = .ok (.ireturn, 1) := by decide +kernel
theorem dX10_counts_120 : decode cX10_counts 120 = .ok (.aload_n 0, 1) := by decide +kernel
theorem dX10_counts_121 : decode cX10_counts 121 = .ok (.getfield 243, 3) := by decide +kernel
theorem dX10_counts_124 : decode cX10_counts 124 = .ok (.ireturn, 1) := by decide +kernel
theorem dX10_counts_125 : decode cX10_counts 125 = .ok (.aload_n 0, 1) := by decide +kernel
theorem dX10_counts_126 : decode cX10_counts 126 = .ok (.getfield 291, 3) := by decide +kernel
theorem dX10_counts_129 : decode cX10_counts 129 = .ok (.ireturn, 1) := by decide +kernel
theorem dX10_counts_130 : decode cX10_counts 130 = .ok (.iconst 0, 1) := by decide +kernel
theorem dX10_counts_131 : decode cX10_counts 131 = .ok (.istore_n 3, 1) := by decide +kernel
theorem dX10_counts_132 : decode cX10_counts 132 = .ok (.iload_n 3, 1) := by decide +kernel
theorem dX10_counts_133 : decode cX10_counts 133 = .ok (.bipush 6, 2) := by decide +kernel
theorem dX10_counts_135 : decode cX10_counts 135 = .ok (.if_icmp .ge 26, 3) := by decide +kernel
theorem dX10_counts_138 : decode cX10_counts 138 = .ok (.iload_n 2, 1) := by decide +kernel
theorem dX10_counts_139 : decode cX10_counts 139 = .ok (.aload_n 0, 1) := by decide +kernel
theorem dX10_counts_140 : decode cX10_counts 140 = .ok (.getfield 17, 3) := by decide +kernel
theorem dX10_counts_143 : decode cX10_counts 143 = .ok (.iload_n 3, 1) := by decide +kernel
theorem dX10_counts_144 : decode cX10_counts 144 = .ok (.iaload, 1) := by decide +kernel
theorem dX10_counts_145 : decode cX10_counts 145 = .ok (.ifCond .lt 7, 3) := by decide +kernel
theorem dX10_counts_148 : decode cX10_counts 148 = .ok (.iconst 1, 1) := by decide +kernel
theorem dX10_counts_149 : decode cX10_counts 149 = .ok (.goto 4, 3) := by decide +kernel
theorem dX10_counts_152 : decode cX10_counts 152 = .ok (.iconst 0, 1) := by decide +kernel
theorem dX10_counts_153 : decode cX10_counts 153 = .ok (.iadd, 1) := by decide +kernel
theorem dX10_counts_154 : decode cX10_counts 154 = .ok (.istore_n 2, 1) := by decide +kernel
theorem dX10_counts_155 : decode cX10_counts 155 = .ok (.iinc 3 1, 3) := by decide +kernel
theorem dX10_counts_158 : decode cX10_counts 158 = .ok (.goto (-26), 3) := by decide +kernel
theorem dX10_counts_161 : decode cX10_counts 161 = .ok (.iload_n 2, 1) := by decide +kernel
theorem dX10_counts_162 : decode cX10_counts 162 = .ok (.ireturn, 1) := by decide +kernel
theorem dX10_counts_163 : decode cX10_counts 163 = .ok (.iconst 0, 1) := by decide +kernel
theorem dX10_counts_164 : decode cX10_counts 164 = .ok (.istore_n 3, 1) := by decide +kernel
theorem dX10_counts_165 : decode cX10_counts 165 = .ok (.iload_n 3, 1) := by decide +kernel
theorem dX10_counts_166 : decode cX10_counts 166 = .ok (.iconst 4, 1) := by decide +kernel
theorem dX10_counts_167 : decode cX10_counts 167 = .ok (.if_icmp .ge 26, 3) := by decide +kernel
theorem dX10_counts_170 : decode cX10_counts 170 = .ok (.iload_n 2, 1) := by decide +kernel
theorem dX10_counts_171 : decode cX10_counts 171 = .ok (.aload_n 0, 1) := by decide +kernel
theorem dX10_counts_172 : decode cX10_counts 172 = .ok (.getfield 26, 3) := by decide +kernel
theorem dX10_counts_175 : decode cX10_counts 175 = .ok (.iload_n 3, 1) := by decide +kernel
theorem dX10_counts_176 : decode cX10_counts 176 = .ok (.iaload, 1) := by decide +kernel
theorem dX10_counts_177 : decode cX10_counts 177 = .ok (.ifCond .lt 7, 3) := by decide +kernel
theorem dX10_counts_180 : decode cX10_counts 180 = .ok (.iconst 1, 1) := by decide +kernel
theorem dX10_counts_181 : decode cX10_counts 181 = .ok (.goto 4, 3) := by decide +kernel
theorem dX10_counts_184 : decode cX10_counts 184 = .ok (.iconst 0, 1) := by decide +kernel
theorem dX10_counts_185 : decode cX10_counts 185 = .ok (.iadd, 1) := by decide +kernel
theorem dX10_counts_186 : decode cX10_counts 186 = .ok (.istore_n 2, 1) := by decide +kernel
theorem dX10_counts_187 : decode cX10_counts 187 = .ok (.iinc 3 1, 3) := by decide +kernel
theorem dX10_counts_190 : decode cX10_counts 190 = .ok (.goto (-25), 3) := by decide +kernel
theorem dX10_counts_193 : decode cX10_counts 193 = .ok (.iload_n 2, 1) := by decide +kernel
theorem dX10_counts_194 : decode cX10_counts 194 = .ok (.ireturn, 1) := by decide +kernel
def c_X10_counts_L165 (F : Nat) (a2 : Nat) : Nat → Int32 → Int32 → z_Hp → Option (Int32 × z_Hp)
  | 0, _, _, _ => none
  | n + 1, x3, x4, h5 => (if 4 ≤ x4 then (some (x3, h5)) else (if hT h5 a2 = 10 then (lt_ (hR h5 a2 10) (fun o6 => (nn o6 (fun a7 => (if okA h5 a7 20 x4 = true then (lt_ (fun (x9 : Int32) (h10 : z_Hp) => (lt_ (x3 + x9) (fun x11 => (lt_ (x4 + 1) (fun x12 => (c_X10_counts_L165 F a2 n x11 x12 h10)))))) (fun (j185_8 : Int32 → z_Hp → Option (Int32 × z_Hp)) => (if (hI h5 a7 (ix x4)) < 0 then (j185_8 0 h5) else (j185_8 1 h5)))) else none))))) else none))
def c_X10_counts_L51 (F : Nat) (a13 : Nat) : Nat → Int32 → Int32 → z_Hp → Option (Int32 × z_Hp)
  | 0, _, _, _ => none
  | n + 1, x14, x15, h16 => (if 10 ≤ x15 then (some (x14, h16)) else (if hT h16 a13 = 10 then (lt_ (hR h16 a13 12) (fun o17 => (nn o17 (fun a18 => (if okA h16 a18 20 x15 = true then (lt_ (fun (x20 : Int32) (h21 : z_Hp) => (lt_ (x14 + x20) (fun x22 => (lt_ (x15 + 1) (fun x23 => (c_X10_counts_L51 F a13 n x22 x23 h21)))))) (fun (j72_19 : Int32 → z_Hp → Option (Int32 × z_Hp)) => (if (hI h16 a18 (ix x15)) < 0 then (j72_19 0 h16) else (j72_19 1 h16)))) else none))))) else none))
def c_X10_counts_L84 (F : Nat) (a24 : Nat) : Nat → Int32 → Int32 → z_Hp → Option (Int32 × z_Hp)
  | 0, _, _, _ => none
  | n + 1, x25, x26, h27 => (if 6 ≤ x26 then (some (x25, h27)) else (if hT h27 a24 = 10 then (lt_ (hR h27 a24 17) (fun o28 => (nn o28 (fun a29 => (if okA h27 a29 20 x26 = true then (lt_ (fun (x31 : Int32) (h32 : z_Hp) => (lt_ (x25 + x31) (fun x33 => (lt_ (x26 + 1) (fun x34 => (c_X10_counts_L84 F a24 n x33 x34 h32)))))) (fun (j105_30 : Int32 → z_Hp → Option (Int32 × z_Hp)) => (if (hI h27 a29 (ix x26)) < 0 then (j105_30 0 h27) else (j105_30 1 h27)))) else none))))) else none))
def c_X10_counts_L132 (F : Nat) (a35 : Nat) : Nat → Int32 → Int32 → z_Hp → Option (Int32 × z_Hp)
  | 0, _, _, _ => none
  | n + 1, x36, x37, h38 => (if 6 ≤ x37 then (some (x36, h38)) else (if hT h38 a35 = 10 then (lt_ (hR h38 a35 7) (fun o39 => (nn o39 (fun a40 => (if okA h38 a40 20 x37 = true then (lt_ (fun (x42 : Int32) (h43 : z_Hp) => (lt_ (x36 + x42) (fun x44 => (lt_ (x37 + 1) (fun x45 => (c_X10_counts_L132 F a35 n x44 x45 h43)))))) (fun (j153_41 : Int32 → z_Hp → Option (Int32 × z_Hp)) => (if (hI h38 a40 (ix x37)) < 0 then (j153_41 0 h38) else (j153_41 1 h38)))) else none))))) else none))
def c_X10_counts (F : Nat) (a0 : Nat) (x1 : Int32) (h0 : z_Hp) : Option (Int32 × z_Hp) := (if (x1 : Int32).toInt < 0 ∨ 6 < (x1 : Int32).toInt then (c_X10_counts_L165 F a0 F 0 0 h0) else (if x1 = 0 then (if hT h0 a0 = 10 then (some (hI h0 a0 6, h0)) else none) else (if x1 = 1 then (c_X10_counts_L51 F a0 F 0 0 h0) else (if x1 = 2 then (c_X10_counts_L84 F a0 F 0 0 h0) else (if x1 = 3 then (if hT h0 a0 = 10 then (some (hI h0 a0 26, h0)) else none) else (if x1 = 4 then (if hT h0 a0 = 10 then (some (hI h0 a0 19, h0)) else none) else (if x1 = 5 then (if hT h0 a0 = 10 then (some (hI h0 a0 49, h0)) else none) else (if x1 = 6 then (c_X10_counts_L132 F a0 F 0 0 h0) else none))))))))
set_option maxRecDepth 20000 in
set_option maxHeartbeats 4000000 in
theorem g_X10_counts_L165 (F : Nat) (a2 : Nat) : ∀ (n : Nat) (x3 : Int32) (x4 : Int32) (h5 : z_Hp), z_G zi mi_X10_counts 165 [(0, vr (some a2)), (2, vi x3), (3, vi x4)] [] h5 (c_X10_counts_L165 F a2 n x3 x4 h5) := by
  intro n
  induction n with
  | zero => intro x3 x4 h5; rw [c_X10_counts_L165]; exact z_none
  | succ n ih =>
    intro x3 x4 h5
    rw [c_X10_counts_L165]
    refine z_iload_n (pc := 165) dX10_counts_165 rfl 2 rfl (z_iconst (pc := 166) dX10_counts_166 ic_4 (?_))
    refine z_icmp_ge (pc := 167) (tgt := 193) dX10_counts_167 (by decide) ?_ ?_
    · refine z_iload_n (pc := 193) dX10_counts_193 rfl 1 rfl (?_)
      exact z_iret (pc := 194) dX10_counts_194 rfl rfl
    · refine z_iload_n (pc := 170) dX10_counts_170 rfl 1 rfl (z_aload_n (pc := 171) dX10_counts_171 rfl 0 rfl (z_getRl (pc := 172) fl_RX10_26 rfl dX10_counts_172 (fun o6 => (z_iload_n (pc := 175) dX10_counts_175 rfl 2 rfl (?_)))))
      refine z_nn (fun a7 ea7 => ?_)
      subst ea7
      refine z_iaload (pc := 176) dX10_counts_176 (?_)
      refine z_jn (P := fun (j : Int32 → z_Hp → Option (Int32 × z_Hp)) => ∀ (x9 : Int32) (h10 : z_Hp), z_G zi mi_X10_counts 185 [(0, vr (some a2)), (3, vi x4)] [vi x9, vi x3] h10 (j x9 h10)) (fun x9 h10 => ?_) (fun j185_8 qj185_8 => ?_)
      · refine z_iadd (pc := 185) dX10_counts_185 (z_istorel_n (pc := 186) (L' := fun x11 => [(0, vr (some a2)), (2, vi x11), (3, vi x4)]) dX10_counts_186 rfl (Nat.le_of_ble_eq_true rfl) (fun _ => rfl) (fun x11 => (z_iincl (pc := 187) (L' := fun x12 => [(0, vr (some a2)), (2, vi x11), (3, vi x12)]) dX10_counts_187 2 rfl ic_1 (Nat.le_of_ble_eq_true rfl) (fun _ => rfl) (fun x12 => (z_goto (pc := 190) (tgt := 165) dX10_counts_190 (by decide) (?_))))))
        exact ih x11 x12 h10
      refine z_if_lt (pc := 177) (tgt := 184) dX10_counts_177 (by decide) ?_ ?_
      · refine z_iconst (pc := 184) dX10_counts_184 ic_0 (?_)
        exact z_sub [0, 2] rfl (qj185_8 0 h5)
      · refine z_iconst (pc := 180) dX10_counts_180 ic_1 (z_goto (pc := 181) (tgt := 185) dX10_counts_181 (by decide) (?_))
        exact z_sub [0, 2] rfl (qj185_8 1 h5)
set_option maxRecDepth 20000 in
set_option maxHeartbeats 4000000 in
theorem g_X10_counts_L51 (F : Nat) (a13 : Nat) : ∀ (n : Nat) (x14 : Int32) (x15 : Int32) (h16 : z_Hp), z_G zi mi_X10_counts 51 [(0, vr (some a13)), (2, vi x14), (3, vi x15)] [] h16 (c_X10_counts_L51 F a13 n x14 x15 h16) := by
  intro n
  induction n with
  | zero => intro x14 x15 h16; rw [c_X10_counts_L51]; exact z_none
  | succ n ih =>
    intro x14 x15 h16
    rw [c_X10_counts_L51]
    refine z_iload_n (pc := 51) dX10_counts_51 rfl 2 rfl (z_bipush (pc := 52) dX10_counts_52 bp_10 (?_))
    refine z_icmp_ge (pc := 54) (tgt := 80) dX10_counts_54 (by decide) ?_ ?_
    · refine z_iload_n (pc := 80) dX10_counts_80 rfl 1 rfl (?_)
      exact z_iret (pc := 81) dX10_counts_81 rfl rfl
    · refine z_iload_n (pc := 57) dX10_counts_57 rfl 1 rfl (z_aload_n (pc := 58) dX10_counts_58 rfl 0 rfl (z_getRl (pc := 59) fl_RX10_32 rfl dX10_counts_59 (fun o17 => (z_iload_n (pc := 62) dX10_counts_62 rfl 2 rfl (?_)))))
      refine z_nn (fun a18 ea18 => ?_)
      subst ea18
      refine z_iaload (pc := 63) dX10_counts_63 (?_)
      refine z_jn (P := fun (j : Int32 → z_Hp → Option (Int32 × z_Hp)) => ∀ (x20 : Int32) (h21 : z_Hp), z_G zi mi_X10_counts 72 [(0, vr (some a13)), (3, vi x15)] [vi x20, vi x14] h21 (j x20 h21)) (fun x20 h21 => ?_) (fun j72_19 qj72_19 => ?_)
      · refine z_iadd (pc := 72) dX10_counts_72 (z_istorel_n (pc := 73) (L' := fun x22 => [(0, vr (some a13)), (2, vi x22), (3, vi x15)]) dX10_counts_73 rfl (Nat.le_of_ble_eq_true rfl) (fun _ => rfl) (fun x22 => (z_iincl (pc := 74) (L' := fun x23 => [(0, vr (some a13)), (2, vi x22), (3, vi x23)]) dX10_counts_74 2 rfl ic_1 (Nat.le_of_ble_eq_true rfl) (fun _ => rfl) (fun x23 => (z_goto (pc := 77) (tgt := 51) dX10_counts_77 (by decide) (?_))))))
        exact ih x22 x23 h21
      refine z_if_lt (pc := 64) (tgt := 71) dX10_counts_64 (by decide) ?_ ?_
      · refine z_iconst (pc := 71) dX10_counts_71 ic_0 (?_)
        exact z_sub [0, 2] rfl (qj72_19 0 h16)
      · refine z_iconst (pc := 67) dX10_counts_67 ic_1 (z_goto (pc := 68) (tgt := 72) dX10_counts_68 (by decide) (?_))
        exact z_sub [0, 2] rfl (qj72_19 1 h16)
set_option maxRecDepth 20000 in
set_option maxHeartbeats 4000000 in
theorem g_X10_counts_L84 (F : Nat) (a24 : Nat) : ∀ (n : Nat) (x25 : Int32) (x26 : Int32) (h27 : z_Hp), z_G zi mi_X10_counts 84 [(0, vr (some a24)), (2, vi x25), (3, vi x26)] [] h27 (c_X10_counts_L84 F a24 n x25 x26 h27) := by
  intro n
  induction n with
  | zero => intro x25 x26 h27; rw [c_X10_counts_L84]; exact z_none
  | succ n ih =>
    intro x25 x26 h27
    rw [c_X10_counts_L84]
    refine z_iload_n (pc := 84) dX10_counts_84 rfl 2 rfl (z_bipush (pc := 85) dX10_counts_85 bp_6 (?_))
    refine z_icmp_ge (pc := 87) (tgt := 113) dX10_counts_87 (by decide) ?_ ?_
    · refine z_iload_n (pc := 113) dX10_counts_113 rfl 1 rfl (?_)
      exact z_iret (pc := 114) dX10_counts_114 rfl rfl
    · refine z_iload_n (pc := 90) dX10_counts_90 rfl 1 rfl (z_aload_n (pc := 91) dX10_counts_91 rfl 0 rfl (z_getRl (pc := 92) fl_RX10_44 rfl dX10_counts_92 (fun o28 => (z_iload_n (pc := 95) dX10_counts_95 rfl 2 rfl (?_)))))
      refine z_nn (fun a29 ea29 => ?_)
      subst ea29
      refine z_iaload (pc := 96) dX10_counts_96 (?_)
      refine z_jn (P := fun (j : Int32 → z_Hp → Option (Int32 × z_Hp)) => ∀ (x31 : Int32) (h32 : z_Hp), z_G zi mi_X10_counts 105 [(0, vr (some a24)), (3, vi x26)] [vi x31, vi x25] h32 (j x31 h32)) (fun x31 h32 => ?_) (fun j105_30 qj105_30 => ?_)
      · refine z_iadd (pc := 105) dX10_counts_105 (z_istorel_n (pc := 106) (L' := fun x33 => [(0, vr (some a24)), (2, vi x33), (3, vi x26)]) dX10_counts_106 rfl (Nat.le_of_ble_eq_true rfl) (fun _ => rfl) (fun x33 => (z_iincl (pc := 107) (L' := fun x34 => [(0, vr (some a24)), (2, vi x33), (3, vi x34)]) dX10_counts_107 2 rfl ic_1 (Nat.le_of_ble_eq_true rfl) (fun _ => rfl) (fun x34 => (z_goto (pc := 110) (tgt := 84) dX10_counts_110 (by decide) (?_))))))
        exact ih x33 x34 h32
      refine z_if_lt (pc := 97) (tgt := 104) dX10_counts_97 (by decide) ?_ ?_
      · refine z_iconst (pc := 104) dX10_counts_104 ic_0 (?_)
        exact z_sub [0, 2] rfl (qj105_30 0 h27)
      · refine z_iconst (pc := 100) dX10_counts_100 ic_1 (z_goto (pc := 101) (tgt := 105) dX10_counts_101 (by decide) (?_))
        exact z_sub [0, 2] rfl (qj105_30 1 h27)
set_option maxRecDepth 20000 in
set_option maxHeartbeats 4000000 in
theorem g_X10_counts_L132 (F : Nat) (a35 : Nat) : ∀ (n : Nat) (x36 : Int32) (x37 : Int32) (h38 : z_Hp), z_G zi mi_X10_counts 132 [(0, vr (some a35)), (2, vi x36), (3, vi x37)] [] h38 (c_X10_counts_L132 F a35 n x36 x37 h38) := by
  intro n
  induction n with
  | zero => intro x36 x37 h38; rw [c_X10_counts_L132]; exact z_none
  | succ n ih =>
    intro x36 x37 h38
    rw [c_X10_counts_L132]
    refine z_iload_n (pc := 132) dX10_counts_132 rfl 2 rfl (z_bipush (pc := 133) dX10_counts_133 bp_6 (?_))
    refine z_icmp_ge (pc := 135) (tgt := 161) dX10_counts_135 (by decide) ?_ ?_
    · refine z_iload_n (pc := 161) dX10_counts_161 rfl 1 rfl (?_)
      exact z_iret (pc := 162) dX10_counts_162 rfl rfl
    · refine z_iload_n (pc := 138) dX10_counts_138 rfl 1 rfl (z_aload_n (pc := 139) dX10_counts_139 rfl 0 rfl (z_getRl (pc := 140) fl_RX10_17 rfl dX10_counts_140 (fun o39 => (z_iload_n (pc := 143) dX10_counts_143 rfl 2 rfl (?_)))))
      refine z_nn (fun a40 ea40 => ?_)
      subst ea40
      refine z_iaload (pc := 144) dX10_counts_144 (?_)
      refine z_jn (P := fun (j : Int32 → z_Hp → Option (Int32 × z_Hp)) => ∀ (x42 : Int32) (h43 : z_Hp), z_G zi mi_X10_counts 153 [(0, vr (some a35)), (3, vi x37)] [vi x42, vi x36] h43 (j x42 h43)) (fun x42 h43 => ?_) (fun j153_41 qj153_41 => ?_)
      · refine z_iadd (pc := 153) dX10_counts_153 (z_istorel_n (pc := 154) (L' := fun x44 => [(0, vr (some a35)), (2, vi x44), (3, vi x37)]) dX10_counts_154 rfl (Nat.le_of_ble_eq_true rfl) (fun _ => rfl) (fun x44 => (z_iincl (pc := 155) (L' := fun x45 => [(0, vr (some a35)), (2, vi x44), (3, vi x45)]) dX10_counts_155 2 rfl ic_1 (Nat.le_of_ble_eq_true rfl) (fun _ => rfl) (fun x45 => (z_goto (pc := 158) (tgt := 132) dX10_counts_158 (by decide) (?_))))))
        exact ih x44 x45 h43
      refine z_if_lt (pc := 145) (tgt := 152) dX10_counts_145 (by decide) ?_ ?_
      · refine z_iconst (pc := 152) dX10_counts_152 ic_0 (?_)
        exact z_sub [0, 2] rfl (qj153_41 0 h38)
      · refine z_iconst (pc := 148) dX10_counts_148 ic_1 (z_goto (pc := 149) (tgt := 153) dX10_counts_149 (by decide) (?_))
        exact z_sub [0, 2] rfl (qj153_41 1 h38)
set_option maxRecDepth 20000 in
set_option maxHeartbeats 4000000 in
theorem t_X10_counts (F : Nat) (a0 : Nat) (x1 : Int32) (h0 : z_Hp) : z_Ct zi mi_X10_counts [vr (some a0), vi x1] h0 (c_X10_counts F a0 x1 h0) := by
  refine z_entry (by decide) (Nat.le_of_ble_eq_true rfl) [(0, vr (some a0)), (1, vi x1)] rfl ?_
  unfold c_X10_counts
  refine z_iconst (pc := 0) dX10_counts_0 ic_0 (z_istore_n (pc := 1) (L' := [(0, vr (some a0)), (1, vi x1), (2, vi 0)]) dX10_counts_1 rfl (Nat.le_of_ble_eq_true rfl) rfl (z_iload_n (pc := 2) dX10_counts_2 rfl 1 rfl (?_)))
  refine z_ite (fun e => z_tblOut (tgt := 163) dX10_counts_3 e (by decide) ?_) (fun e => ?_)
  · refine z_iconst (pc := 163) dX10_counts_163 ic_0 (z_istore_n (pc := 164) (L' := [(0, vr (some a0)), (1, vi x1), (2, vi 0), (3, vi 0)]) dX10_counts_164 rfl (Nat.le_of_ble_eq_true rfl) rfl (?_))
    refine z_sub [0, 2, 3] rfl (g_X10_counts_L165 F a0 F 0 0 h0)
  refine z_ite (fun e => z_tblC (tgt := 44) (off := 41) e dX10_counts_3 (by decide) (by decide) (by decide) (by decide) ?_) (fun _ => ?_)
  · refine z_aload_n (pc := 44) dX10_counts_44 rfl 0 rfl (z_getI (pc := 45) fl_RX10_191 rfl dX10_counts_45 (?_))
    exact z_iret (pc := 48) dX10_counts_48 rfl rfl
  refine z_ite (fun e => z_tblC (tgt := 49) (off := 46) e dX10_counts_3 (by decide) (by decide) (by decide) (by decide) ?_) (fun _ => ?_)
  · refine z_iconst (pc := 49) dX10_counts_49 ic_0 (z_istore_n (pc := 50) (L' := [(0, vr (some a0)), (1, vi x1), (2, vi 0), (3, vi 0)]) dX10_counts_50 rfl (Nat.le_of_ble_eq_true rfl) rfl (?_))
    refine z_sub [0, 2, 3] rfl (g_X10_counts_L51 F a0 F 0 0 h0)
  refine z_ite (fun e => z_tblC (tgt := 82) (off := 79) e dX10_counts_3 (by decide) (by decide) (by decide) (by decide) ?_) (fun _ => ?_)
  · refine z_iconst (pc := 82) dX10_counts_82 ic_0 (z_istore_n (pc := 83) (L' := [(0, vr (some a0)), (1, vi x1), (2, vi 0), (3, vi 0)]) dX10_counts_83 rfl (Nat.le_of_ble_eq_true rfl) rfl (?_))
    refine z_sub [0, 2, 3] rfl (g_X10_counts_L84 F a0 F 0 0 h0)
  refine z_ite (fun e => z_tblC (tgt := 115) (off := 112) e dX10_counts_3 (by decide) (by decide) (by decide) (by decide) ?_) (fun _ => ?_)
  · refine z_aload_n (pc := 115) dX10_counts_115 rfl 0 rfl (z_getI (pc := 116) fl_RX10_262 rfl dX10_counts_116 (?_))
    exact z_iret (pc := 119) dX10_counts_119 rfl rfl
  refine z_ite (fun e => z_tblC (tgt := 120) (off := 117) e dX10_counts_3 (by decide) (by decide) (by decide) (by decide) ?_) (fun _ => ?_)
  · refine z_aload_n (pc := 120) dX10_counts_120 rfl 0 rfl (z_getI (pc := 121) fl_RX10_243 rfl dX10_counts_121 (?_))
    exact z_iret (pc := 124) dX10_counts_124 rfl rfl
  refine z_ite (fun e => z_tblC (tgt := 125) (off := 122) e dX10_counts_3 (by decide) (by decide) (by decide) (by decide) ?_) (fun _ => ?_)
  · refine z_aload_n (pc := 125) dX10_counts_125 rfl 0 rfl (z_getI (pc := 126) fl_RX10_291 rfl dX10_counts_126 (?_))
    exact z_iret (pc := 129) dX10_counts_129 rfl rfl
  refine z_ite (fun e => z_tblC (tgt := 130) (off := 127) e dX10_counts_3 (by decide) (by decide) (by decide) (by decide) ?_) (fun _ => ?_)
  · refine z_iconst (pc := 130) dX10_counts_130 ic_0 (z_istore_n (pc := 131) (L' := [(0, vr (some a0)), (1, vi x1), (2, vi 0), (3, vi 0)]) dX10_counts_131 rfl (Nat.le_of_ble_eq_true rfl) rfl (?_))
    refine z_sub [0, 2, 3] rfl (g_X10_counts_L132 F a0 F 0 0 h0)
  exact z_none
theorem dX10_count_0 : decode cX10_count 0 = .ok (.iload_n 1, 1) := by decide +kernel
theorem dX10_count_1 : decode cX10_count 1 = .ok (.iconst 0, 1) := by decide +kernel
theorem dX10_count_2 : decode cX10_count 2 = .ok (.bipush 7, 2) := by decide +kernel
theorem dX10_count_4 : decode cX10_count 4 = .ok (.invokestatic 166, 3) := by decide +kernel
theorem dX10_count_7 : decode cX10_count 7 = .ok (.ifCond .eq 11, 3) := by decide +kernel
theorem dX10_count_10 : decode cX10_count 10 = .ok (.aload_n 0, 1) := by decide +kernel
theorem dX10_count_11 : decode cX10_count 11 = .ok (.iload_n 1, 1) := by decide +kernel
theorem dX10_count_12 : decode cX10_count 12 = .ok (.invokevirtual 378, 3) := by decide +kernel
theorem dX10_count_15 : decode cX10_count 15 = .ok (.goto 4, 3) := by decide +kernel
theorem dX10_count_18 : decode cX10_count 18 = .ok (.iconst (-1), 1) := by decide +kernel
theorem dX10_count_19 : decode cX10_count 19 = .ok (.ireturn, 1) := by decide +kernel
def c_X10_count (F : Nat) (a0 : Nat) (x1 : Int32) (h0 : z_Hp) : Option (Int32 × z_Hp) := (bI (c_X10_in F x1 0 7 h0) (fun x3 h2 => (if x3 = 0 then (some ((-1), h2)) else (if hT h2 a0 = 10 then (bI (c_X10_counts F a0 x1 h2) (fun x5 h4 => (some (x5, h4)))) else none))))
set_option maxRecDepth 20000 in
set_option maxHeartbeats 4000000 in
theorem t_X10_count (F : Nat) (a0 : Nat) (x1 : Int32) (h0 : z_Hp) : z_Ct zi mi_X10_count [vr (some a0), vi x1] h0 (c_X10_count F a0 x1 h0) := by
  refine z_entry (by decide) (Nat.le_of_ble_eq_true rfl) [(0, vr (some a0)), (1, vi x1)] rfl ?_
  unfold c_X10_count
  refine z_iload_n (pc := 0) dX10_count_0 rfl 1 rfl (z_iconst (pc := 1) dX10_count_1 ic_0 (z_bipush (pc := 2) dX10_count_2 bp_7 (z_callS_I (pc := 4) (avs := [vi x1, vi 0, vi 7]) (st := []) rfl (t_X10_in F x1 0 7 h0) ky_X10_in ws_X10_in wz_RX10_166 (rm_X10_count_X10_in) (Nat.le_of_ble_eq_true rfl) dX10_count_4 (fun x3 h2 => (?_)))))
  refine z_if_eq (pc := 7) (tgt := 18) dX10_count_7 (by decide) ?_ ?_
  · refine z_iconst (pc := 18) dX10_count_18 ic_m1 (?_)
    exact z_iret (pc := 19) dX10_count_19 rfl rfl
  · refine z_aload_n (pc := 10) dX10_count_10 rfl 0 rfl (z_iload_n (pc := 11) dX10_count_11 rfl 1 rfl (z_callV_I (pc := 12) (avs := [vi x1]) (st := []) rfl (q := (RX10, TX10, 62)) rfl rfl (t_X10_counts F a0 x1 h2) ky_X10_counts wm_X10_counts we_X10_counts wz_RX10_378 (rm_X10_count_X10_counts) (Nat.le_of_ble_eq_true rfl) dX10_count_12 (fun x5 h4 => (?_))))
    refine z_goto (pc := 15) (tgt := 19) dX10_count_15 (by decide) (?_)
    exact z_iret (pc := 19) dX10_count_19 rfl rfl
theorem dX10_finding_0 : decode cX10_finding 0 = .ok (.aload_n 0, 1) := by decide +kernel
theorem dX10_finding_1 : decode cX10_finding 1 = .ok (.getfield 156, 3) := by decide +kernel
theorem dX10_finding_4 : decode cX10_finding 4 = .ok (.ireturn, 1) := by decide +kernel
def c_X10_finding (F : Nat) (a0 : Nat) (h0 : z_Hp) : Option (Int32 × z_Hp) := (if hT h0 a0 = 10 then (some (hI h0 a0 0, h0)) else none)
set_option maxRecDepth 20000 in
set_option maxHeartbeats 4000000 in
theorem t_X10_finding (F : Nat) (a0 : Nat) (h0 : z_Hp) : z_Ct zi mi_X10_finding [vr (some a0)] h0 (c_X10_finding F a0 h0) := by
  refine z_entry (by decide) (Nat.le_of_ble_eq_true rfl) [(0, vr (some a0))] rfl ?_
  unfold c_X10_finding
  refine z_aload_n (pc := 0) dX10_finding_0 rfl 0 rfl (z_getI (pc := 1) fl_RX10_156 rfl dX10_finding_1 (?_))
  exact z_iret (pc := 4) dX10_finding_4 rfl rfl
theorem dX10_findings_0 : decode cX10_findings 0 = .ok (.iload_n 1, 1) := by decide +kernel
theorem dX10_findings_1 : decode cX10_findings 1 = .ok (.iconst 1, 1) := by decide +kernel
theorem dX10_findings_2 : decode cX10_findings 2 = .ok (.iconst 5, 1) := by decide +kernel
theorem dX10_findings_3 : decode cX10_findings 3 = .ok (.invokestatic 166, 3) := by decide +kernel
theorem dX10_findings_6 : decode cX10_findings 6 = .ok (.ifCond .eq 12, 3) := by decide +kernel
theorem dX10_findings_9 : decode cX10_findings 9 = .ok (.aload_n 0, 1) := by decide +kernel
theorem dX10_findings_10 : decode cX10_findings 10 = .ok (.getfield 7, 3) := by decide +kernel
theorem dX10_findings_13 : decode cX10_findings 13 = .ok (.iload_n 1, 1) := by decide +kernel
theorem dX10_findings_14 : decode cX10_findings 14 = .ok (.iaload, 1) := by decide +kernel
theorem dX10_findings_15 : decode cX10_findings 15 = .ok (.goto 4, 3) := by decide +kernel
theorem dX10_findings_18 : decode cX10_findings 18 = .ok (.iconst (-1), 1) := by decide +kernel
theorem dX10_findings_19 : decode cX10_findings 19 = .ok (.ireturn, 1) := by decide +kernel
def c_X10_findings (F : Nat) (a0 : Nat) (x1 : Int32) (h0 : z_Hp) : Option (Int32 × z_Hp) := (bI (c_X10_in F x1 1 5 h0) (fun x3 h2 => (if x3 = 0 then (some ((-1), h2)) else (if hT h2 a0 = 10 then (lt_ (hR h2 a0 1) (fun o4 => (nn o4 (fun a5 => (if okA h2 a5 20 x1 = true then (some (hI h2 a5 (ix x1), h2)) else none))))) else none))))
set_option maxRecDepth 20000 in
set_option maxHeartbeats 4000000 in
theorem t_X10_findings (F : Nat) (a0 : Nat) (x1 : Int32) (h0 : z_Hp) : z_Ct zi mi_X10_findings [vr (some a0), vi x1] h0 (c_X10_findings F a0 x1 h0) := by
  refine z_entry (by decide) (Nat.le_of_ble_eq_true rfl) [(0, vr (some a0)), (1, vi x1)] rfl ?_
  unfold c_X10_findings
  refine z_iload_n (pc := 0) dX10_findings_0 rfl 1 rfl (z_iconst (pc := 1) dX10_findings_1 ic_1 (z_iconst (pc := 2) dX10_findings_2 ic_5 (z_callS_I (pc := 3) (avs := [vi x1, vi 1, vi 5]) (st := []) rfl (t_X10_in F x1 1 5 h0) ky_X10_in ws_X10_in wz_RX10_166 (rm_X10_findings_X10_in) (Nat.le_of_ble_eq_true rfl) dX10_findings_3 (fun x3 h2 => (?_)))))
  refine z_if_eq (pc := 6) (tgt := 18) dX10_findings_6 (by decide) ?_ ?_
  · refine z_iconst (pc := 18) dX10_findings_18 ic_m1 (?_)
    exact z_iret (pc := 19) dX10_findings_19 rfl rfl
  · refine z_aload_n (pc := 9) dX10_findings_9 rfl 0 rfl (z_getRl (pc := 10) fl_RX10_7 rfl dX10_findings_10 (fun o4 => (z_iload_n (pc := 13) dX10_findings_13 rfl 1 rfl (?_))))
    refine z_nn (fun a5 ea5 => ?_)
    subst ea5
    refine z_iaload (pc := 14) dX10_findings_14 (z_goto (pc := 15) (tgt := 19) dX10_findings_15 (by decide) (?_))
    exact z_iret (pc := 19) dX10_findings_19 rfl rfl
