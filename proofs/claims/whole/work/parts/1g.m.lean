theorem dX10_ruleFor_0 : decode cX10_ruleFor 0 = .ok (.bipush (-9), 2) := by decide +kernel
theorem dX10_ruleFor_2 : decode cX10_ruleFor 2 = .ok (.istore 4, 2) := by decide +kernel
theorem dX10_ruleFor_4 : decode cX10_ruleFor 4 = .ok (.iconst 0, 1) := by decide +kernel
theorem dX10_ruleFor_5 : decode cX10_ruleFor 5 = .ok (.istore 5, 2) := by decide +kernel
theorem dX10_ruleFor_7 : decode cX10_ruleFor 7 = .ok (.iload 5, 2) := by decide +kernel
theorem dX10_ruleFor_9 : decode cX10_ruleFor 9 = .ok (.aload_n 0, 1) := by decide +kernel
theorem dX10_ruleFor_10 : decode cX10_ruleFor 10 = .ok (.getfield 243, 3) := by decide +kernel
theorem dX10_ruleFor_13 : decode cX10_ruleFor 13 = .ok (.if_icmp .ge 88, 3) := by decide +kernel
theorem dX10_ruleFor_16 : decode cX10_ruleFor 16 = .ok (.aload_n 0, 1) := by decide +kernel
theorem dX10_ruleFor_17 : decode cX10_ruleFor 17 = .ok (.getfield 50, 3) := by decide +kernel
theorem dX10_ruleFor_20 : decode cX10_ruleFor 20 = .ok (.iload 5, 2) := by decide +kernel
theorem dX10_ruleFor_22 : decode cX10_ruleFor 22 = .ok (.iaload, 1) := by decide +kernel
theorem dX10_ruleFor_23 : decode cX10_ruleFor 23 = .ok (.iload_n 3, 1) := by decide +kernel
theorem dX10_ruleFor_24 : decode cX10_ruleFor 24 = .ok (.if_icmp .gt 32, 3) := by decide +kernel
theorem dX10_ruleFor_27 : decode cX10_ruleFor 27 = .ok (.aload_n 0, 1) := by decide +kernel
theorem dX10_ruleFor_28 : decode cX10_ruleFor 28 = .ok (.getfield 53, 3) := by decide +kernel
theorem dX10_ruleFor_31 : decode cX10_ruleFor 31 = .ok (.iload 5, 2) := by decide +kernel
theorem dX10_ruleFor_33 : decode cX10_ruleFor 33 = .ok (.iaload, 1) := by decide +kernel
theorem dX10_ruleFor_34 : decode cX10_ruleFor 34 = .ok (.iload_n 2, 1) := by decide +kernel
theorem dX10_ruleFor_35 : decode cX10_ruleFor 35 = .ok (.if_icmp .gt 21, 3) := by decide +kernel
theorem dX10_ruleFor_38 : decode cX10_ruleFor 38 = .ok (.aload_n 0, 1) := by decide +kernel
theorem dX10_ruleFor_39 : decode cX10_ruleFor 39 = .ok (.getfield 56, 3) := by decide +kernel
theorem dX10_ruleFor_42 : decode cX10_ruleFor 42 = .ok (.iconst 5, 1) := by decide +kernel
theorem dX10_ruleFor_43 : decode cX10_ruleFor 43 = .ok (.iload 5, 2) := by decide +kernel
theorem dX10_ruleFor_45 : decode cX10_ruleFor 45 = .ok (.imul, 1) := by decide +kernel
theorem dX10_ruleFor_46 : decode cX10_ruleFor 46 = .ok (.iload_n 1, 1) := by decide +kernel
theorem dX10_ruleFor_47 : decode cX10_ruleFor 47 = .ok (.iadd, 1) := by decide +kernel
theorem dX10_ruleFor_48 : decode cX10_ruleFor 48 = .ok (.iaload, 1) := by decide +kernel
theorem dX10_ruleFor_49 : decode cX10_ruleFor 49 = .ok (.ifCond .lt 7, 3) := by decide +kernel
theorem dX10_ruleFor_52 : decode cX10_ruleFor 52 = .ok (.iconst 1, 1) := by decide +kernel
theorem dX10_ruleFor_53 : decode cX10_ruleFor 53 = .ok (.goto 4, 3) := by decide +kernel
theorem dX10_ruleFor_56 : decode cX10_ruleFor 56 = .ok (.iconst 0, 1) := by decide +kernel
theorem dX10_ruleFor_57 : decode cX10_ruleFor 57 = .ok (.istore 6, 2) := by decide +kernel
theorem dX10_ruleFor_59 : decode cX10_ruleFor 59 = .ok (.iload 6, 2) := by decide +kernel
theorem dX10_ruleFor_61 : decode cX10_ruleFor 61 = .ok (.ifCond .eq 30, 3) := by decide +kernel
theorem dX10_ruleFor_64 : decode cX10_ruleFor 64 = .ok (.iload 4, 2) := by decide +kernel
theorem dX10_ruleFor_66 : decode cX10_ruleFor 66 = .ok (.ifCond .lt 20, 3) := by decide +kernel
theorem dX10_ruleFor_69 : decode cX10_ruleFor 69 = .ok (.aload_n 0, 1) := by decide +kernel
theorem dX10_ruleFor_70 : decode cX10_ruleFor 70 = .ok (.getfield 53, 3) := by decide +kernel
theorem dX10_ruleFor_73 : decode cX10_ruleFor 73 = .ok (.iload 5, 2) := by decide +kernel
theorem dX10_ruleFor_75 : decode cX10_ruleFor 75 = .ok (.iaload, 1) := by decide +kernel
theorem dX10_ruleFor_76 : decode cX10_ruleFor 76 = .ok (.aload_n 0, 1) := by decide +kernel
theorem dX10_ruleFor_77 : decode cX10_ruleFor 77 = .ok (.getfield 53, 3) := by decide +kernel
theorem dX10_ruleFor_80 : decode cX10_ruleFor 80 = .ok (.iload 4, 2) := by decide +kernel
theorem dX10_ruleFor_82 : decode cX10_ruleFor 82 = .ok (.iaload, 1) := by decide +kernel
theorem dX10_ruleFor_83 : decode cX10_ruleFor 83 = .ok (.if_icmp .lt 8, 3) := by decide +kernel
theorem dX10_ruleFor_86 : decode cX10_ruleFor 86 = .ok (.iload 5, 2) := by decide +kernel
theorem dX10_ruleFor_88 : decode cX10_ruleFor 88 = .ok (.goto 5, 3) := by decide +kernel
theorem dX10_ruleFor_91 : decode cX10_ruleFor 91 = .ok (.iload 4, 2) := by decide +kernel
theorem dX10_ruleFor_93 : decode cX10_ruleFor 93 = .ok (.istore 4, 2) := by decide +kernel
theorem dX10_ruleFor_95 : decode cX10_ruleFor 95 = .ok (.iinc 5 1, 3) := by decide +kernel
theorem dX10_ruleFor_98 : decode cX10_ruleFor 98 = .ok (.goto (-91), 3) := by decide +kernel
theorem dX10_ruleFor_101 : decode cX10_ruleFor 101 = .ok (.iload 4, 2) := by decide +kernel
theorem dX10_ruleFor_103 : decode cX10_ruleFor 103 = .ok (.ireturn, 1) := by decide +kernel
def c_X10_ruleFor_L7 (F : Nat) (a4 : Nat) (x5 : Int32) (x6 : Int32) (x7 : Int32) : Nat → Int32 → Int32 → z_Hp → Option (Int32 × z_Hp)
  | 0, _, _, _ => none
  | n + 1, x8, x9, h10 => (if hT h10 a4 = 10 then (if (hI h10 a4 19) ≤ x9 then (some (x8, h10)) else (if hT h10 a4 = 10 then (lt_ (hR h10 a4 20) (fun o11 => (nn o11 (fun a12 => (if okA h10 a12 20 x9 = true then (lt_ (fun (x14 : Int32) (h15 : z_Hp) => (lt_ (fun (x17 : Int32) (h18 : z_Hp) => (lt_ (x9 + 1) (fun x19 => (c_X10_ruleFor_L7 F a4 x5 x6 x7 n x17 x19 h18)))) (fun (j93_16 : Int32 → z_Hp → Option (Int32 × z_Hp)) => (lt_ (fun (h21 : z_Hp) => (j93_16 x8 h21)) (fun (j91_20 : z_Hp → Option (Int32 × z_Hp)) => (if x14 = 0 then (j91_20 h15) else (lt_ (fun (h23 : z_Hp) => (j93_16 x9 h23)) (fun (j86_22 : z_Hp → Option (Int32 × z_Hp)) => (if x8 < 0 then (j86_22 h15) else (if hT h15 a4 = 10 then (lt_ (hR h15 a4 21) (fun o24 => (nn o24 (fun a25 => (if okA h15 a25 20 x9 = true then (if hT h15 a4 = 10 then (lt_ (hR h15 a4 21) (fun o26 => (nn o26 (fun a27 => (if okA h15 a27 20 x8 = true then (if (hI h15 a25 (ix x9)) < (hI h15 a27 (ix x8)) then (j91_20 h15) else (j86_22 h15)) else none))))) else none) else none))))) else none)))))))))) (fun (j57_13 : Int32 → z_Hp → Option (Int32 × z_Hp)) => (lt_ (fun (h29 : z_Hp) => (j57_13 0 h29)) (fun (j56_28 : z_Hp → Option (Int32 × z_Hp)) => (if x7 < (hI h10 a12 (ix x9)) then (j56_28 h10) else (if hT h10 a4 = 10 then (lt_ (hR h10 a4 21) (fun o30 => (nn o30 (fun a31 => (if okA h10 a31 20 x9 = true then (if x6 < (hI h10 a31 (ix x9)) then (j56_28 h10) else (if hT h10 a4 = 10 then (lt_ (hR h10 a4 22) (fun o32 => (nn o32 (fun a33 => (if okA h10 a33 20 ((5 * x9) + x5) = true then (if (hI h10 a33 (ix ((5 * x9) + x5))) < 0 then (j56_28 h10) else (j57_13 1 h10)) else none))))) else none)) else none))))) else none)))))) else none))))) else none)) else none)
def c_X10_ruleFor (F : Nat) (a0 : Nat) (x1 : Int32) (x2 : Int32) (x3 : Int32) (h0 : z_Hp) : Option (Int32 × z_Hp) := (c_X10_ruleFor_L7 F a0 x1 x2 x3 F (-9) 0 h0)
set_option maxRecDepth 20000 in
set_option maxHeartbeats 4000000 in
theorem g_X10_ruleFor_L7 (F : Nat) (a4 : Nat) (x5 : Int32) (x6 : Int32) (x7 : Int32) : ∀ (n : Nat) (x8 : Int32) (x9 : Int32) (h10 : z_Hp), z_G zi mi_X10_ruleFor 7 [(0, vr (some a4)), (1, vi x5), (2, vi x6), (3, vi x7), (4, vi x8), (5, vi x9)] [] h10 (c_X10_ruleFor_L7 F a4 x5 x6 x7 n x8 x9 h10) := by
  intro n
  induction n with
  | zero => intro x8 x9 h10; rw [c_X10_ruleFor_L7]; exact z_none
  | succ n ih =>
    intro x8 x9 h10
    rw [c_X10_ruleFor_L7]
    refine z_iload (pc := 7) dX10_ruleFor_7 5 rfl (z_aload_n (pc := 9) dX10_ruleFor_9 rfl 0 rfl (z_getI (pc := 10) fl_RX10_243 rfl dX10_ruleFor_10 (?_)))
    refine z_icmp_ge (pc := 13) (tgt := 101) dX10_ruleFor_13 (by decide) ?_ ?_
    · refine z_iload (pc := 101) dX10_ruleFor_101 4 rfl (?_)
      exact z_iret (pc := 103) dX10_ruleFor_103 rfl rfl
    · refine z_aload_n (pc := 16) dX10_ruleFor_16 rfl 0 rfl (z_getRl (pc := 17) fl_RX10_50 rfl dX10_ruleFor_17 (fun o11 => (z_iload (pc := 20) dX10_ruleFor_20 5 rfl (?_))))
      refine z_nn (fun a12 ea12 => ?_)
      subst ea12
      refine z_iaload (pc := 22) dX10_ruleFor_22 (z_iload_n (pc := 23) dX10_ruleFor_23 rfl 3 rfl (?_))
      refine z_jn (P := fun (j : Int32 → z_Hp → Option (Int32 × z_Hp)) => ∀ (x14 : Int32) (h15 : z_Hp), z_G zi mi_X10_ruleFor 57 [(0, vr (some a4)), (1, vi x5), (2, vi x6), (3, vi x7), (4, vi x8), (5, vi x9)] [vi x14] h15 (j x14 h15)) (fun x14 h15 => ?_) (fun j57_13 qj57_13 => ?_)
      · refine z_istore (pc := 57) (L' := [(0, vr (some a4)), (1, vi x5), (2, vi x6), (3, vi x7), (4, vi x8), (5, vi x9), (6, vi x14)]) dX10_ruleFor_57 (Nat.le_of_ble_eq_true rfl) rfl (z_iload (pc := 59) dX10_ruleFor_59 6 rfl (?_))
        refine z_jn (P := fun (j : Int32 → z_Hp → Option (Int32 × z_Hp)) => ∀ (x17 : Int32) (h18 : z_Hp), z_G zi mi_X10_ruleFor 93 [(0, vr (some a4)), (1, vi x5), (2, vi x6), (3, vi x7), (5, vi x9)] [vi x17] h18 (j x17 h18)) (fun x17 h18 => ?_) (fun j93_16 qj93_16 => ?_)
        · refine z_istore (pc := 93) (L' := [(0, vr (some a4)), (1, vi x5), (2, vi x6), (3, vi x7), (4, vi x17), (5, vi x9)]) dX10_ruleFor_93 (Nat.le_of_ble_eq_true rfl) rfl (z_iincl (pc := 95) (L' := fun x19 => [(0, vr (some a4)), (1, vi x5), (2, vi x6), (3, vi x7), (4, vi x17), (5, vi x19)]) dX10_ruleFor_95 5 rfl ic_1 (Nat.le_of_ble_eq_true rfl) (fun _ => rfl) (fun x19 => (z_goto (pc := 98) (tgt := 7) dX10_ruleFor_98 (by decide) (?_))))
          exact ih x17 x19 h18
        refine z_jn (P := fun (j : z_Hp → Option (Int32 × z_Hp)) => ∀ (h21 : z_Hp), z_G zi mi_X10_ruleFor 91 [(0, vr (some a4)), (1, vi x5), (2, vi x6), (3, vi x7), (4, vi x8), (5, vi x9)] [] h21 (j h21)) (fun h21 => ?_) (fun j91_20 qj91_20 => ?_)
        · refine z_iload (pc := 91) dX10_ruleFor_91 4 rfl (?_)
          exact z_sub [0, 1, 2, 3, 5] rfl (qj93_16 x8 h21)
        refine z_if_eq (pc := 61) (tgt := 91) dX10_ruleFor_61 (by decide) ?_ ?_
        · exact z_sub [0, 1, 2, 3, 4, 5] rfl (qj91_20 h15)
        · refine z_iload (pc := 64) dX10_ruleFor_64 4 rfl (?_)
          refine z_jn (P := fun (j : z_Hp → Option (Int32 × z_Hp)) => ∀ (h23 : z_Hp), z_G zi mi_X10_ruleFor 86 [(0, vr (some a4)), (1, vi x5), (2, vi x6), (3, vi x7), (5, vi x9)] [] h23 (j h23)) (fun h23 => ?_) (fun j86_22 qj86_22 => ?_)
          · refine z_iload (pc := 86) dX10_ruleFor_86 4 rfl (z_goto (pc := 88) (tgt := 93) dX10_ruleFor_88 (by decide) (?_))
            exact qj93_16 x9 h23
          refine z_if_lt (pc := 66) (tgt := 86) dX10_ruleFor_66 (by decide) ?_ ?_
          · exact z_sub [0, 1, 2, 3, 5] rfl (qj86_22 h15)
          · refine z_aload_n (pc := 69) dX10_ruleFor_69 rfl 0 rfl (z_getRl (pc := 70) fl_RX10_53 rfl dX10_ruleFor_70 (fun o24 => (z_iload (pc := 73) dX10_ruleFor_73 5 rfl (?_))))
            refine z_nn (fun a25 ea25 => ?_)
            subst ea25
            refine z_iaload (pc := 75) dX10_ruleFor_75 (z_aload_n (pc := 76) dX10_ruleFor_76 rfl 0 rfl (z_getRl (pc := 77) fl_RX10_53 rfl dX10_ruleFor_77 (fun o26 => (z_iload (pc := 80) dX10_ruleFor_80 4 rfl (?_)))))
            refine z_nn (fun a27 ea27 => ?_)
            subst ea27
            refine z_iaload (pc := 82) dX10_ruleFor_82 (?_)
            refine z_icmp_lt (pc := 83) (tgt := 91) dX10_ruleFor_83 (by decide) ?_ ?_
            · exact z_sub [0, 1, 2, 3, 4, 5] rfl (qj91_20 h15)
            · exact z_sub [0, 1, 2, 3, 5] rfl (qj86_22 h15)
      refine z_jn (P := fun (j : z_Hp → Option (Int32 × z_Hp)) => ∀ (h29 : z_Hp), z_G zi mi_X10_ruleFor 56 [(0, vr (some a4)), (1, vi x5), (2, vi x6), (3, vi x7), (4, vi x8), (5, vi x9)] [] h29 (j h29)) (fun h29 => ?_) (fun j56_28 qj56_28 => ?_)
      · refine z_iconst (pc := 56) dX10_ruleFor_56 ic_0 (?_)
        exact qj57_13 0 h29
      refine z_icmp_gt (pc := 24) (tgt := 56) dX10_ruleFor_24 (by decide) ?_ ?_
      · exact qj56_28 h10
      · refine z_aload_n (pc := 27) dX10_ruleFor_27 rfl 0 rfl (z_getRl (pc := 28) fl_RX10_53 rfl dX10_ruleFor_28 (fun o30 => (z_iload (pc := 31) dX10_ruleFor_31 5 rfl (?_))))
        refine z_nn (fun a31 ea31 => ?_)
        subst ea31
        refine z_iaload (pc := 33) dX10_ruleFor_33 (z_iload_n (pc := 34) dX10_ruleFor_34 rfl 2 rfl (?_))
        refine z_icmp_gt (pc := 35) (tgt := 56) dX10_ruleFor_35 (by decide) ?_ ?_
        · exact qj56_28 h10
        · refine z_aload_n (pc := 38) dX10_ruleFor_38 rfl 0 rfl (z_getRl (pc := 39) fl_RX10_56 rfl dX10_ruleFor_39 (fun o32 => (z_iconst (pc := 42) dX10_ruleFor_42 ic_5 (z_iload (pc := 43) dX10_ruleFor_43 5 rfl (z_imul (pc := 45) dX10_ruleFor_45 (z_iload_n (pc := 46) dX10_ruleFor_46 rfl 1 rfl (z_iadd (pc := 47) dX10_ruleFor_47 (?_))))))))
          refine z_nn (fun a33 ea33 => ?_)
          subst ea33
          refine z_iaload (pc := 48) dX10_ruleFor_48 (?_)
          refine z_if_lt (pc := 49) (tgt := 56) dX10_ruleFor_49 (by decide) ?_ ?_
          · exact qj56_28 h10
          · refine z_iconst (pc := 52) dX10_ruleFor_52 ic_1 (z_goto (pc := 53) (tgt := 57) dX10_ruleFor_53 (by decide) (?_))
            exact qj57_13 1 h10
set_option maxRecDepth 20000 in
set_option maxHeartbeats 4000000 in
theorem t_X10_ruleFor (F : Nat) (a0 : Nat) (x1 : Int32) (x2 : Int32) (x3 : Int32) (h0 : z_Hp) : z_Ct zi mi_X10_ruleFor [vr (some a0), vi x1, vi x2, vi x3] h0 (c_X10_ruleFor F a0 x1 x2 x3 h0) := by
  refine z_entry (by decide) (Nat.le_of_ble_eq_true rfl) [(0, vr (some a0)), (1, vi x1), (2, vi x2), (3, vi x3)] rfl ?_
  unfold c_X10_ruleFor
  refine z_bipush (pc := 0) dX10_ruleFor_0 bp_m9 (z_istore (pc := 2) (L' := [(0, vr (some a0)), (1, vi x1), (2, vi x2), (3, vi x3), (4, vi (-9))]) dX10_ruleFor_2 (Nat.le_of_ble_eq_true rfl) rfl (z_iconst (pc := 4) dX10_ruleFor_4 ic_0 (z_istore (pc := 5) (L' := [(0, vr (some a0)), (1, vi x1), (2, vi x2), (3, vi x3), (4, vi (-9)), (5, vi 0)]) dX10_ruleFor_5 (Nat.le_of_ble_eq_true rfl) rfl (?_))))
  refine g_X10_ruleFor_L7 F a0 x1 x2 x3 F (-9) 0 h0
theorem dX10_inForce_0 : decode cX10_inForce 0 = .ok (.aload_n 0, 1) := by decide +kernel
theorem dX10_inForce_1 : decode cX10_inForce 1 = .ok (.iload_n 1, 1) := by decide +kernel
theorem dX10_inForce_2 : decode cX10_inForce 2 = .ok (.iload_n 2, 1) := by decide +kernel
theorem dX10_inForce_3 : decode cX10_inForce 3 = .ok (.iload_n 3, 1) := by decide +kernel
theorem dX10_inForce_4 : decode cX10_inForce 4 = .ok (.invokevirtual 246, 3) := by decide +kernel
theorem dX10_inForce_7 : decode cX10_inForce 7 = .ok (.istore 4, 2) := by decide +kernel
theorem dX10_inForce_9 : decode cX10_inForce 9 = .ok (.iload 4, 2) := by decide +kernel
theorem dX10_inForce_11 : decode cX10_inForce 11 = .ok (.ifCond .lt 17, 3) := by decide +kernel
theorem dX10_inForce_14 : decode cX10_inForce 14 = .ok (.aload_n 0, 1) := by decide +kernel
theorem dX10_inForce_15 : decode cX10_inForce 15 = .ok (.getfield 56, 3) := by decide +kernel
theorem dX10_inForce_18 : decode cX10_inForce 18 = .ok (.iconst 5, 1) := by decide +kernel
theorem dX10_inForce_19 : decode cX10_inForce 19 = .ok (.iload 4, 2) := by decide +kernel
theorem dX10_inForce_21 : decode cX10_inForce 21 = .ok (.imul, 1) := by decide +kernel
theorem dX10_inForce_22 : decode cX10_inForce 22 = .ok (.iload_n 1, 1) := by decide +kernel
theorem dX10_inForce_23 : decode cX10_inForce 23 = .ok (.iadd, 1) := by decide +kernel
theorem dX10_inForce_24 : decode cX10_inForce 24 = .ok (.iaload, 1) := by decide +kernel
theorem dX10_inForce_25 : decode cX10_inForce 25 = .ok (.goto 40, 3) := by decide +kernel
theorem dX10_inForce_28 : decode cX10_inForce 28 = .ok (.iload_n 1, 1) := by decide +kernel
theorem dX10_inForce_29 : decode cX10_inForce 29 = .ok (.ifCond .ne 7, 3) := by decide +kernel
theorem dX10_inForce_32 : decode cX10_inForce 32 = .ok (.iconst 1, 1) := by decide +kernel
theorem dX10_inForce_33 : decode cX10_inForce 33 = .ok (.goto 32, 3) := by decide +kernel
theorem dX10_inForce_36 : decode cX10_inForce 36 = .ok (.iload_n 1, 1) := by decide +kernel
theorem dX10_inForce_37 : decode cX10_inForce 37 = .ok (.iconst 1, 1) := by decide +kernel
theorem dX10_inForce_38 : decode cX10_inForce 38 = .ok (.if_icmp .ne 8, 3) := by decide +kernel
theorem dX10_inForce_41 : decode cX10_inForce 41 = .ok (.bipush 21, 2) := by decide +kernel
theorem dX10_inForce_43 : decode cX10_inForce 43 = .ok (.goto 22, 3) := by decide +kernel
theorem dX10_inForce_46 : decode cX10_inForce 46 = .ok (.iload_n 1, 1) := by decide +kernel
theorem dX10_inForce_47 : decode cX10_inForce 47 = .ok (.iconst 2, 1) := by decide +kernel
theorem dX10_inForce_48 : decode cX10_inForce 48 = .ok (.if_icmp .ne 7, 3) := by decide +kernel
theorem dX10_inForce_51 : decode cX10_inForce 51 = .ok (.iconst 3, 1) := by decide +kernel
theorem dX10_inForce_52 : decode cX10_inForce 52 = .ok (.goto 13, 3) := by decide +kernel
theorem dX10_inForce_55 : decode cX10_inForce 55 = .ok (.iload_n 1, 1) := by decide +kernel
theorem dX10_inForce_56 : decode cX10_inForce 56 = .ok (.iconst 3, 1) := by decide +kernel
theorem dX10_inForce_57 : decode cX10_inForce 57 = .ok (.if_icmp .ne 7, 3) := by decide +kernel
theorem dX10_inForce_60 : decode cX10_inForce 60 = .ok (.iconst 2, 1) := by decide +kernel
theorem dX10_inForce_61 : decode cX10_inForce 61 = .ok (.goto 4, 3) := by decide +kernel
theorem dX10_inForce_64 : decode cX10_inForce 64 = .ok (.iconst 1, 1) := by decide +kernel
theorem dX10_inForce_65 : decode cX10_inForce 65 = .ok (.ireturn, 1) := by decide +kernel
def c_X10_inForce (F : Nat) (a0 : Nat) (x1 : Int32) (x2 : Int32) (x3 : Int32) (h0 : z_Hp) : Option (Int32 × z_Hp) := (if hT h0 a0 = 10 then (bI (c_X10_ruleFor F a0 x1 x2 x3 h0) (fun x5 h4 => (if x5 < 0 then (if x1 = 0 then (some (1, h4)) else (if x1 = 1 then (some (21, h4)) else (if x1 = 2 then (some (3, h4)) else (if x1 = 3 then (some (2, h4)) else (some (1, h4)))))) else (if hT h4 a0 = 10 then (lt_ (hR h4 a0 22) (fun o6 => (nn o6 (fun a7 => (if okA h4 a7 20 ((5 * x5) + x1) = true then (some (hI h4 a7 (ix ((5 * x5) + x1)), h4)) else none))))) else none)))) else none)
set_option maxRecDepth 20000 in
set_option maxHeartbeats 4000000 in
theorem t_X10_inForce (F : Nat) (a0 : Nat) (x1 : Int32) (x2 : Int32) (x3 : Int32) (h0 : z_Hp) : z_Ct zi mi_X10_inForce [vr (some a0), vi x1, vi x2, vi x3] h0 (c_X10_inForce F a0 x1 x2 x3 h0) := by
  refine z_entry (by decide) (Nat.le_of_ble_eq_true rfl) [(0, vr (some a0)), (1, vi x1), (2, vi x2), (3, vi x3)] rfl ?_
  unfold c_X10_inForce
  refine z_aload_n (pc := 0) dX10_inForce_0 rfl 0 rfl (z_iload_n (pc := 1) dX10_inForce_1 rfl 1 rfl (z_iload_n (pc := 2) dX10_inForce_2 rfl 2 rfl (z_iload_n (pc := 3) dX10_inForce_3 rfl 3 rfl (z_callV_I (pc := 4) (avs := [vi x1, vi x2, vi x3]) (st := []) rfl (q := (RX10, TX10, 62)) rfl rfl (t_X10_ruleFor F a0 x1 x2 x3 h0) ky_X10_ruleFor wm_X10_ruleFor we_X10_ruleFor wz_RX10_246 (rm_X10_inForce_X10_ruleFor) (Nat.le_of_ble_eq_true rfl) dX10_inForce_4 (fun x5 h4 => (?_))))))
  refine z_istore (pc := 7) (L' := [(0, vr (some a0)), (1, vi x1), (2, vi x2), (3, vi x3), (4, vi x5)]) dX10_inForce_7 (Nat.le_of_ble_eq_true rfl) rfl (z_iload (pc := 9) dX10_inForce_9 4 rfl (?_))
  refine z_if_lt (pc := 11) (tgt := 28) dX10_inForce_11 (by decide) ?_ ?_
  · refine z_iload_n (pc := 28) dX10_inForce_28 rfl 1 rfl (?_)
    refine z_if_ne (pc := 29) (tgt := 36) dX10_inForce_29 (by decide) ?_ ?_
    · refine z_iload_n (pc := 36) dX10_inForce_36 rfl 1 rfl (z_iconst (pc := 37) dX10_inForce_37 ic_1 (?_))
      refine z_icmp_ne (pc := 38) (tgt := 46) dX10_inForce_38 (by decide) ?_ ?_
      · refine z_iload_n (pc := 46) dX10_inForce_46 rfl 1 rfl (z_iconst (pc := 47) dX10_inForce_47 ic_2 (?_))
        refine z_icmp_ne (pc := 48) (tgt := 55) dX10_inForce_48 (by decide) ?_ ?_
        · refine z_iload_n (pc := 55) dX10_inForce_55 rfl 1 rfl (z_iconst (pc := 56) dX10_inForce_56 ic_3 (?_))
          refine z_icmp_ne (pc := 57) (tgt := 64) dX10_inForce_57 (by decide) ?_ ?_
          · refine z_iconst (pc := 64) dX10_inForce_64 ic_1 (?_)
            exact z_iret (pc := 65) dX10_inForce_65 rfl rfl
          · refine z_iconst (pc := 60) dX10_inForce_60 ic_2 (z_goto (pc := 61) (tgt := 65) dX10_inForce_61 (by decide) (?_))
            exact z_iret (pc := 65) dX10_inForce_65 rfl rfl
        · refine z_iconst (pc := 51) dX10_inForce_51 ic_3 (z_goto (pc := 52) (tgt := 65) dX10_inForce_52 (by decide) (?_))
          exact z_iret (pc := 65) dX10_inForce_65 rfl rfl
      · refine z_bipush (pc := 41) dX10_inForce_41 bp_21 (z_goto (pc := 43) (tgt := 65) dX10_inForce_43 (by decide) (?_))
        exact z_iret (pc := 65) dX10_inForce_65 rfl rfl
    · refine z_iconst (pc := 32) dX10_inForce_32 ic_1 (z_goto (pc := 33) (tgt := 65) dX10_inForce_33 (by decide) (?_))
      exact z_iret (pc := 65) dX10_inForce_65 rfl rfl
  · refine z_aload_n (pc := 14) dX10_inForce_14 rfl 0 rfl (z_getRl (pc := 15) fl_RX10_56 rfl dX10_inForce_15 (fun o6 => (z_iconst (pc := 18) dX10_inForce_18 ic_5 (z_iload (pc := 19) dX10_inForce_19 4 rfl (z_imul (pc := 21) dX10_inForce_21 (z_iload_n (pc := 22) dX10_inForce_22 rfl 1 rfl (z_iadd (pc := 23) dX10_inForce_23 (?_))))))))
    refine z_nn (fun a7 ea7 => ?_)
    subst ea7
    refine z_iaload (pc := 24) dX10_inForce_24 (z_goto (pc := 25) (tgt := 65) dX10_inForce_25 (by decide) (?_))
    exact z_iret (pc := 65) dX10_inForce_65 rfl rfl
theorem dX10_nowInForce_0 : decode cX10_nowInForce 0 = .ok (.aload_n 0, 1) := by decide +kernel
theorem dX10_nowInForce_1 : decode cX10_nowInForce 1 = .ok (.iload_n 1, 1) := by decide +kernel
theorem dX10_nowInForce_2 : decode cX10_nowInForce 2 = .ok (.aload_n 0, 1) := by decide +kernel
theorem dX10_nowInForce_3 : decode cX10_nowInForce 3 = .ok (.getfield 191, 3) := by decide +kernel
theorem dX10_nowInForce_6 : decode cX10_nowInForce 6 = .ok (.aload_n 0, 1) := by decide +kernel
theorem dX10_nowInForce_7 : decode cX10_nowInForce 7 = .ok (.getfield 191, 3) := by decide +kernel
theorem dX10_nowInForce_10 : decode cX10_nowInForce 10 = .ok (.invokevirtual 250, 3) := by decide +kernel
theorem dX10_nowInForce_13 : decode cX10_nowInForce 13 = .ok (.ireturn, 1) := by decide +kernel
def c_X10_nowInForce (F : Nat) (a0 : Nat) (x1 : Int32) (h0 : z_Hp) : Option (Int32 × z_Hp) := (if hT h0 a0 = 10 then (if hT h0 a0 = 10 then (if hT h0 a0 = 10 then (bI (c_X10_inForce F a0 x1 (hI h0 a0 6) (hI h0 a0 6) h0) (fun x3 h2 => (some (x3, h2)))) else none) else none) else none)
set_option maxRecDepth 20000 in
set_option maxHeartbeats 4000000 in
theorem t_X10_nowInForce (F : Nat) (a0 : Nat) (x1 : Int32) (h0 : z_Hp) : z_Ct zi mi_X10_nowInForce [vr (some a0), vi x1] h0 (c_X10_nowInForce F a0 x1 h0) := by
  refine z_entry (by decide) (Nat.le_of_ble_eq_true rfl) [(0, vr (some a0)), (1, vi x1)] rfl ?_
  unfold c_X10_nowInForce
  refine z_aload_n (pc := 0) dX10_nowInForce_0 rfl 0 rfl (z_iload_n (pc := 1) dX10_nowInForce_1 rfl 1 rfl (z_aload_n (pc := 2) dX10_nowInForce_2 rfl 0 rfl (z_getI (pc := 3) fl_RX10_191 rfl dX10_nowInForce_3 (z_aload_n (pc := 6) dX10_nowInForce_6 rfl 0 rfl (z_getI (pc := 7) fl_RX10_191 rfl dX10_nowInForce_7 (z_callV_I (pc := 10) (avs := [vi x1, vi (hI h0 a0 6), vi (hI h0 a0 6)]) (st := []) rfl (q := (RX10, TX10, 62)) rfl rfl (t_X10_inForce F a0 x1 (hI h0 a0 6) (hI h0 a0 6) h0) ky_X10_inForce wm_X10_inForce we_X10_inForce wz_RX10_250 (rm_X10_nowInForce_X10_inForce) (Nat.le_of_ble_eq_true rfl) dX10_nowInForce_10 (fun x3 h2 => (?_))))))))
  exact z_iret (pc := 13) dX10_nowInForce_13 rfl rfl
theorem dX10_unfit_0 : decode cX10_unfit 0 = .ok (.aload_n 0, 1) := by decide +kernel
theorem dX10_unfit_1 : decode cX10_unfit 1 = .ok (.iconst 0, 1) := by decide +kernel
theorem dX10_unfit_2 : decode cX10_unfit 2 = .ok (.invokevirtual 228, 3) := by decide +kernel
theorem dX10_unfit_5 : decode cX10_unfit 5 = .ok (.istore_n 3, 1) := by decide +kernel
theorem dX10_unfit_6 : decode cX10_unfit 6 = .ok (.aload_n 0, 1) := by decide +kernel
theorem dX10_unfit_7 : decode cX10_unfit 7 = .ok (.iload_n 1, 1) := by decide +kernel
theorem dX10_unfit_8 : decode cX10_unfit 8 = .ok (.invokevirtual 210, 3) := by decide +kernel
theorem dX10_unfit_11 : decode cX10_unfit 11 = .ok (.istore 4, 2) := by decide +kernel
theorem dX10_unfit_13 : decode cX10_unfit 13 = .ok (.iconst 0, 1) := by decide +kernel
theorem dX10_unfit_14 : decode cX10_unfit 14 = .ok (.istore 5, 2) := by decide +kernel
theorem dX10_unfit_16 : decode cX10_unfit 16 = .ok (.iload 5, 2) := by decide +kernel
theorem dX10_unfit_18 : decode cX10_unfit 18 = .ok (.iload 4, 2) := by decide +kernel
theorem dX10_unfit_20 : decode cX10_unfit 20 = .ok (.if_icmp .ge 54, 3) := by decide +kernel
theorem dX10_unfit_23 : decode cX10_unfit 23 = .ok (.aload_n 0, 1) := by decide +kernel
theorem dX10_unfit_24 : decode cX10_unfit 24 = .ok (.iload_n 1, 1) := by decide +kernel
theorem dX10_unfit_25 : decode cX10_unfit 25 = .ok (.iload 5, 2) := by decide +kernel
theorem dX10_unfit_27 : decode cX10_unfit 27 = .ok (.invokevirtual 219, 3) := by decide +kernel
theorem dX10_unfit_30 : decode cX10_unfit 30 = .ok (.aload_n 0, 1) := by decide +kernel
theorem dX10_unfit_31 : decode cX10_unfit 31 = .ok (.getfield 47, 3) := by decide +kernel
theorem dX10_unfit_34 : decode cX10_unfit 34 = .ok (.bipush 8, 2) := by decide +kernel
theorem dX10_unfit_36 : decode cX10_unfit 36 = .ok (.iload_n 2, 1) := by decide +kernel
theorem dX10_unfit_37 : decode cX10_unfit 37 = .ok (.imul, 1) := by decide +kernel
theorem dX10_unfit_38 : decode cX10_unfit 38 = .ok (.iload 5, 2) := by decide +kernel
theorem dX10_unfit_40 : decode cX10_unfit 40 = .ok (.aload_n 0, 1) := by decide +kernel
theorem dX10_unfit_41 : decode cX10_unfit 41 = .ok (.getfield 44, 3) := by decide +kernel
theorem dX10_unfit_44 : decode cX10_unfit 44 = .ok (.iload_n 2, 1) := by decide +kernel
theorem dX10_unfit_45 : decode cX10_unfit 45 = .ok (.iaload, 1) := by decide +kernel
theorem dX10_unfit_46 : decode cX10_unfit 46 = .ok (.irem, 1) := by decide +kernel
theorem dX10_unfit_47 : decode cX10_unfit 47 = .ok (.iadd, 1) := by decide +kernel
theorem dX10_unfit_48 : decode cX10_unfit 48 = .ok (.iaload, 1) := by decide +kernel
theorem dX10_unfit_49 : decode cX10_unfit 49 = .ok (.isub, 1) := by decide +kernel
theorem dX10_unfit_50 : decode cX10_unfit 50 = .ok (.istore 6, 2) := by decide +kernel
theorem dX10_unfit_52 : decode cX10_unfit 52 = .ok (.iload 6, 2) := by decide +kernel
theorem dX10_unfit_54 : decode cX10_unfit 54 = .ok (.iload_n 3, 1) := by decide +kernel
theorem dX10_unfit_55 : decode cX10_unfit 55 = .ok (.if_icmp .gt 10, 3) := by decide +kernel
theorem dX10_unfit_58 : decode cX10_unfit 58 = .ok (.iload 6, 2) := by decide +kernel
theorem dX10_unfit_60 : decode cX10_unfit 60 = .ok (.ineg, 1) := by decide +kernel
theorem dX10_unfit_61 : decode cX10_unfit 61 = .ok (.iload_n 3, 1) := by decide +kernel
theorem dX10_unfit_62 : decode cX10_unfit 62 = .ok (.if_icmp .le 6, 3) := by decide +kernel
theorem dX10_unfit_65 : decode cX10_unfit 65 = .ok (.iload 5, 2) := by decide +kernel
theorem dX10_unfit_67 : decode cX10_unfit 67 = .ok (.ireturn, 1) := by decide +kernel
theorem dX10_unfit_68 : decode cX10_unfit 68 = .ok (.iinc 5 1, 3) := by decide +kernel
theorem dX10_unfit_71 : decode cX10_unfit 71 = .ok (.goto (-55), 3) := by decide +kernel
theorem dX10_unfit_74 : decode cX10_unfit 74 = .ok (.bipush (-9), 2) := by decide +kernel
theorem dX10_unfit_76 : decode cX10_unfit 76 = .ok (.ireturn, 1) := by decide +kernel
def c_X10_unfit_L16 (F : Nat) (a7 : Nat) (x8 : Int32) (x9 : Int32) (x10 : Int32) (x11 : Int32) : Nat → Int32 → z_Hp → Option (Int32 × z_Hp)
  | 0, _, _ => none
  | n + 1, x12, h13 => (if x11 ≤ x12 then (some ((-9), h13)) else (if hT h13 a7 = 10 then (bI (c_X10_measureOf F a7 x8 x12 h13) (fun x15 h14 => (if hT h14 a7 = 10 then (lt_ (hR h14 a7 18) (fun o16 => (if hT h14 a7 = 10 then (lt_ (hR h14 a7 17) (fun o17 => (nn o17 (fun a18 => (if okA h14 a18 20 x9 = true then (if (hI h14 a18 (ix x9)) = 0 then none else (nn o16 (fun a19 => (if okA h14 a19 20 ((8 * x9) + (x12 - x12 / (hI h14 a18 (ix x9)) * (hI h14 a18 (ix x9)))) = true then (lt_ (x15 - (hI h14 a19 (ix ((8 * x9) + (x12 - x12 / (hI h14 a18 (ix x9)) * (hI h14 a18 (ix x9))))))) (fun x20 => (if x10 < x20 then (some (x12, h14)) else (if (-x20) ≤ x10 then (lt_ (x12 + 1) (fun x21 => (c_X10_unfit_L16 F a7 x8 x9 x10 x11 n x21 h14))) else (some (x12, h14)))))) else none)))) else none))))) else none))) else none))) else none))
def c_X10_unfit (F : Nat) (a0 : Nat) (x1 : Int32) (x2 : Int32) (h0 : z_Hp) : Option (Int32 × z_Hp) := (if hT h0 a0 = 10 then (bI (c_X10_nowInForce F a0 0 h0) (fun x4 h3 => (if hT h3 a0 = 10 then (bI (c_X10_linesOf F a0 x1 h3) (fun x6 h5 => (c_X10_unfit_L16 F a0 x1 x2 x4 x6 F 0 h5))) else none))) else none)
set_option maxRecDepth 20000 in
set_option maxHeartbeats 4000000 in
theorem g_X10_unfit_L16 (F : Nat) (a7 : Nat) (x8 : Int32) (x9 : Int32) (x10 : Int32) (x11 : Int32) : ∀ (n : Nat) (x12 : Int32) (h13 : z_Hp), z_G zi mi_X10_unfit 16 [(0, vr (some a7)), (1, vi x8), (2, vi x9), (3, vi x10), (4, vi x11), (5, vi x12)] [] h13 (c_X10_unfit_L16 F a7 x8 x9 x10 x11 n x12 h13) := by
  intro n
  induction n with
  | zero => intro x12 h13; rw [c_X10_unfit_L16]; exact z_none
  | succ n ih =>
    intro x12 h13
    rw [c_X10_unfit_L16]
    refine z_iload (pc := 16) dX10_unfit_16 5 rfl (z_iload (pc := 18) dX10_unfit_18 4 rfl (?_))
    refine z_icmp_ge (pc := 20) (tgt := 74) dX10_unfit_20 (by decide) ?_ ?_
    · refine z_bipush (pc := 74) dX10_unfit_74 bp_m9 (?_)
      exact z_iret (pc := 76) dX10_unfit_76 rfl rfl
    · refine z_aload_n (pc := 23) dX10_unfit_23 rfl 0 rfl (z_iload_n (pc := 24) dX10_unfit_24 rfl 1 rfl (z_iload (pc := 25) dX10_unfit_25 5 rfl (z_callV_I (pc := 27) (avs := [vi x8, vi x12]) (st := []) rfl (q := (RX10, TX10, 62)) rfl rfl (t_X10_measureOf F a7 x8 x12 h13) ky_X10_measureOf wm_X10_measureOf we_X10_measureOf wz_RX10_219 (rm_X10_unfit_X10_measureOf) (Nat.le_of_ble_eq_true rfl) dX10_unfit_27 (fun x15 h14 => (?_)))))
      refine z_aload_n (pc := 30) dX10_unfit_30 rfl 0 rfl (z_getRl (pc := 31) fl_RX10_47 rfl dX10_unfit_31 (fun o16 => (z_bipush (pc := 34) dX10_unfit_34 bp_8 (z_iload_n (pc := 36) dX10_unfit_36 rfl 2 rfl (z_imul (pc := 37) dX10_unfit_37 (z_iload (pc := 38) dX10_unfit_38 5 rfl (z_aload_n (pc := 40) dX10_unfit_40 rfl 0 rfl (z_getRl (pc := 41) fl_RX10_44 rfl dX10_unfit_41 (fun o17 => (?_))))))))))
      refine z_iload_n (pc := 44) dX10_unfit_44 rfl 2 rfl (?_)
      refine z_nn (fun a18 ea18 => ?_)
      subst ea18
      refine z_iaload (pc := 45) dX10_unfit_45 (z_irem (pc := 46) dX10_unfit_46 (z_iadd (pc := 47) dX10_unfit_47 (?_)))
      refine z_nn (fun a19 ea19 => ?_)
      subst ea19
      refine z_iaload (pc := 48) dX10_unfit_48 (z_isub (pc := 49) dX10_unfit_49 (z_istorel (pc := 50) (L' := fun x20 => [(0, vr (some a7)), (1, vi x8), (2, vi x9), (3, vi x10), (4, vi x11), (5, vi x12), (6, vi x20)]) dX10_unfit_50 (Nat.le_of_ble_eq_true rfl) (fun _ => rfl) (fun x20 => (z_iload (pc := 52) dX10_unfit_52 6 rfl (z_iload_n (pc := 54) dX10_unfit_54 rfl 3 rfl (?_))))))
      refine z_icmp_gt (pc := 55) (tgt := 65) dX10_unfit_55 (by decide) ?_ ?_
      · refine z_iload (pc := 65) dX10_unfit_65 5 rfl (?_)
        exact z_iret (pc := 67) dX10_unfit_67 rfl rfl
      · refine z_iload (pc := 58) dX10_unfit_58 6 rfl (z_ineg (pc := 60) dX10_unfit_60 (z_iload_n (pc := 61) dX10_unfit_61 rfl 3 rfl (?_)))
        refine z_icmp_le (pc := 62) (tgt := 68) dX10_unfit_62 (by decide) ?_ ?_
        · refine z_iincl (pc := 68) (L' := fun x21 => [(0, vr (some a7)), (1, vi x8), (2, vi x9), (3, vi x10), (4, vi x11), (5, vi x21), (6, vi x20)]) dX10_unfit_68 5 rfl ic_1 (Nat.le_of_ble_eq_true rfl) (fun _ => rfl) (fun x21 => (z_goto (pc := 71) (tgt := 16) dX10_unfit_71 (by decide) (?_)))
          exact z_sub [0, 1, 2, 3, 4, 5] rfl (ih x21 h14)
        · refine z_iload (pc := 65) dX10_unfit_65 5 rfl (?_)
          exact z_iret (pc := 67) dX10_unfit_67 rfl rfl
set_option maxRecDepth 20000 in
set_option maxHeartbeats 4000000 in
theorem t_X10_unfit (F : Nat) (a0 : Nat) (x1 : Int32) (x2 : Int32) (h0 : z_Hp) : z_Ct zi mi_X10_unfit [vr (some a0), vi x1, vi x2] h0 (c_X10_unfit F a0 x1 x2 h0) := by
  refine z_entry (by decide) (Nat.le_of_ble_eq_true rfl) [(0, vr (some a0)), (1, vi x1), (2, vi x2)] rfl ?_
  unfold c_X10_unfit
  refine z_aload_n (pc := 0) dX10_unfit_0 rfl 0 rfl (z_iconst (pc := 1) dX10_unfit_1 ic_0 (z_callV_I (pc := 2) (avs := [vi 0]) (st := []) rfl (q := (RX10, TX10, 62)) rfl rfl (t_X10_nowInForce F a0 0 h0) ky_X10_nowInForce wm_X10_nowInForce we_X10_nowInForce wz_RX10_228 (rm_X10_unfit_X10_nowInForce) (Nat.le_of_ble_eq_true rfl) dX10_unfit_2 (fun x4 h3 => (?_))))
  refine z_istore_n (pc := 5) (L' := [(0, vr (some a0)), (1, vi x1), (2, vi x2), (3, vi x4)]) dX10_unfit_5 rfl (Nat.le_of_ble_eq_true rfl) rfl (z_aload_n (pc := 6) dX10_unfit_6 rfl 0 rfl (z_iload_n (pc := 7) dX10_unfit_7 rfl 1 rfl (z_callV_I (pc := 8) (avs := [vi x1]) (st := []) rfl (q := (RX10, TX10, 62)) rfl rfl (t_X10_linesOf F a0 x1 h3) ky_X10_linesOf wm_X10_linesOf we_X10_linesOf wz_RX10_210 (rm_X10_unfit_X10_linesOf) (Nat.le_of_ble_eq_true rfl) dX10_unfit_8 (fun x6 h5 => (?_)))))
  refine z_istore (pc := 11) (L' := [(0, vr (some a0)), (1, vi x1), (2, vi x2), (3, vi x4), (4, vi x6)]) dX10_unfit_11 (Nat.le_of_ble_eq_true rfl) rfl (z_iconst (pc := 13) dX10_unfit_13 ic_0 (z_istore (pc := 14) (L' := [(0, vr (some a0)), (1, vi x1), (2, vi x2), (3, vi x4), (4, vi x6), (5, vi 0)]) dX10_unfit_14 (Nat.le_of_ble_eq_true rfl) rfl (?_)))
  refine g_X10_unfit_L16 F a0 x1 x2 x4 x6 F 0 h5
theorem dX10_fit_0 : decode cX10_fit 0 = .ok (.iload_n 1, 1) := by decide +kernel
theorem dX10_fit_1 : decode cX10_fit 1 = .ok (.invokestatic 194, 3) := by decide +kernel
theorem dX10_fit_4 : decode cX10_fit 4 = .ok (.ifCond .eq 10, 3) := by decide +kernel
theorem dX10_fit_7 : decode cX10_fit 7 = .ok (.iload_n 2, 1) := by decide +kernel
theorem dX10_fit_8 : decode cX10_fit 8 = .ok (.invokestatic 225, 3) := by decide +kernel
theorem dX10_fit_11 : decode cX10_fit 11 = .ok (.ifCond .ne 5, 3) := by decide +kernel
theorem dX10_fit_14 : decode cX10_fit 14 = .ok (.iconst (-1), 1) := by decide +kernel
theorem dX10_fit_15 : decode cX10_fit 15 = .ok (.ireturn, 1) := by decide +kernel
theorem dX10_fit_16 : decode cX10_fit 16 = .ok (.aload_n 0, 1) := by decide +kernel
theorem dX10_fit_17 : decode cX10_fit 17 = .ok (.getfield 32, 3) := by decide +kernel
theorem dX10_fit_20 : decode cX10_fit 20 = .ok (.iload_n 1, 1) := by decide +kernel
theorem dX10_fit_21 : decode cX10_fit 21 = .ok (.iaload, 1) := by decide +kernel
theorem dX10_fit_22 : decode cX10_fit 22 = .ok (.ifCond .lt 12, 3) := by decide +kernel
theorem dX10_fit_25 : decode cX10_fit 25 = .ok (.aload_n 0, 1) := by decide +kernel
theorem dX10_fit_26 : decode cX10_fit 26 = .ok (.getfield 44, 3) := by decide +kernel
theorem dX10_fit_29 : decode cX10_fit 29 = .ok (.iload_n 2, 1) := by decide +kernel
theorem dX10_fit_30 : decode cX10_fit 30 = .ok (.iaload, 1) := by decide +kernel
theorem dX10_fit_31 : decode cX10_fit 31 = .ok (.ifCond .ge 11, 3) := by decide +kernel
theorem dX10_fit_34 : decode cX10_fit 34 = .ok (.aload_n 0, 1) := by decide +kernel
theorem dX10_fit_35 : decode cX10_fit 35 = .ok (.iconst 1, 1) := by decide +kernel
theorem dX10_fit_36 : decode cX10_fit 36 = .ok (.invokevirtual 174, 3) := by decide +kernel
theorem dX10_fit_39 : decode cX10_fit 39 = .ok (.goto 9, 3) := by decide +kernel
theorem dX10_fit_42 : decode cX10_fit 42 = .ok (.aload_n 0, 1) := by decide +kernel
theorem dX10_fit_43 : decode cX10_fit 43 = .ok (.iload_n 1, 1) := by decide +kernel
theorem dX10_fit_44 : decode cX10_fit 44 = .ok (.iload_n 2, 1) := by decide +kernel
theorem dX10_fit_45 : decode cX10_fit 45 = .ok (.invokevirtual 231, 3) := by decide +kernel
theorem dX10_fit_48 : decode cX10_fit 48 = .ok (.ireturn, 1) := by decide +kernel
def c_X10_fit (F : Nat) (a0 : Nat) (x1 : Int32) (x2 : Int32) (h0 : z_Hp) : Option (Int32 × z_Hp) := (bI (c_X10_isSong F x1 h0) (fun x4 h3 => (if x4 = 0 then (some ((-1), h3)) else (bI (c_X10_isTune F x2 h3) (fun x6 h5 => (if x6 = 0 then (some ((-1), h5)) else (if hT h5 a0 = 10 then (lt_ (hR h5 a0 12) (fun o7 => (nn o7 (fun a8 => (if okA h5 a8 20 x1 = true then (lt_ (fun (h10 : z_Hp) => (if hT h10 a0 = 10 then (bI (c_X10_meets F a0 1 h10) (fun x12 h11 => (some (x12, h11)))) else none)) (fun (j34_9 : z_Hp → Option (Int32 × z_Hp)) => (if (hI h5 a8 (ix x1)) < 0 then (j34_9 h5) else (if hT h5 a0 = 10 then (lt_ (hR h5 a0 17) (fun o13 => (nn o13 (fun a14 => (if okA h5 a14 20 x2 = true then (if 0 ≤ (hI h5 a14 (ix x2)) then (if hT h5 a0 = 10 then (bI (c_X10_unfit F a0 x1 x2 h5) (fun x16 h15 => (some (x16, h15)))) else none) else (j34_9 h5)) else none))))) else none)))) else none))))) else none)))))))
set_option maxRecDepth 20000 in
set_option maxHeartbeats 4000000 in
theorem t_X10_fit (F : Nat) (a0 : Nat) (x1 : Int32) (x2 : Int32) (h0 : z_Hp) : z_Ct zi mi_X10_fit [vr (some a0), vi x1, vi x2] h0 (c_X10_fit F a0 x1 x2 h0) := by
  refine z_entry (by decide) (Nat.le_of_ble_eq_true rfl) [(0, vr (some a0)), (1, vi x1), (2, vi x2)] rfl ?_
  unfold c_X10_fit
  refine z_iload_n (pc := 0) dX10_fit_0 rfl 1 rfl (z_callS_I (pc := 1) (avs := [vi x1]) (st := []) rfl (t_X10_isSong F x1 h0) ky_X10_isSong ws_X10_isSong wz_RX10_194 (rm_X10_fit_X10_isSong) (Nat.le_of_ble_eq_true rfl) dX10_fit_1 (fun x4 h3 => (?_)))
  refine z_if_eq (pc := 4) (tgt := 14) dX10_fit_4 (by decide) ?_ ?_
  · refine z_iconst (pc := 14) dX10_fit_14 ic_m1 (?_)
    exact z_iret (pc := 15) dX10_fit_15 rfl rfl
  · refine z_iload_n (pc := 7) dX10_fit_7 rfl 2 rfl (z_callS_I (pc := 8) (avs := [vi x2]) (st := []) rfl (t_X10_isTune F x2 h3) ky_X10_isTune ws_X10_isTune wz_RX10_225 (rm_X10_fit_X10_isTune) (Nat.le_of_ble_eq_true rfl) dX10_fit_8 (fun x6 h5 => (?_)))
    refine z_if_ne (pc := 11) (tgt := 16) dX10_fit_11 (by decide) ?_ ?_
    · refine z_aload_n (pc := 16) dX10_fit_16 rfl 0 rfl (z_getRl (pc := 17) fl_RX10_32 rfl dX10_fit_17 (fun o7 => (z_iload_n (pc := 20) dX10_fit_20 rfl 1 rfl (?_))))
      refine z_nn (fun a8 ea8 => ?_)
      subst ea8
      refine z_iaload (pc := 21) dX10_fit_21 (?_)
      refine z_jn (P := fun (j : z_Hp → Option (Int32 × z_Hp)) => ∀ (h10 : z_Hp), z_G zi mi_X10_fit 34 [(0, vr (some a0))] [] h10 (j h10)) (fun h10 => ?_) (fun j34_9 qj34_9 => ?_)
      · refine z_aload_n (pc := 34) dX10_fit_34 rfl 0 rfl (z_iconst (pc := 35) dX10_fit_35 ic_1 (z_callV_I (pc := 36) (avs := [vi 1]) (st := []) rfl (q := (RX10, TX10, 62)) rfl rfl (t_X10_meets F a0 1 h10) ky_X10_meets wm_X10_meets we_X10_meets wz_RX10_174 (rm_X10_fit_X10_meets) (Nat.le_of_ble_eq_true rfl) dX10_fit_36 (fun x12 h11 => (?_))))
        refine z_goto (pc := 39) (tgt := 48) dX10_fit_39 (by decide) (?_)
        exact z_iret (pc := 48) dX10_fit_48 rfl rfl
      refine z_if_lt (pc := 22) (tgt := 34) dX10_fit_22 (by decide) ?_ ?_
      · exact z_sub [0] rfl (qj34_9 h5)
      · refine z_aload_n (pc := 25) dX10_fit_25 rfl 0 rfl (z_getRl (pc := 26) fl_RX10_44 rfl dX10_fit_26 (fun o13 => (z_iload_n (pc := 29) dX10_fit_29 rfl 2 rfl (?_))))
        refine z_nn (fun a14 ea14 => ?_)
        subst ea14
        refine z_iaload (pc := 30) dX10_fit_30 (?_)
        refine z_if_ge (pc := 31) (tgt := 42) dX10_fit_31 (by decide) ?_ ?_
        · refine z_aload_n (pc := 42) dX10_fit_42 rfl 0 rfl (z_iload_n (pc := 43) dX10_fit_43 rfl 1 rfl (z_iload_n (pc := 44) dX10_fit_44 rfl 2 rfl (z_callV_I (pc := 45) (avs := [vi x1, vi x2]) (st := []) rfl (q := (RX10, TX10, 62)) rfl rfl (t_X10_unfit F a0 x1 x2 h5) ky_X10_unfit wm_X10_unfit we_X10_unfit wz_RX10_231 (rm_X10_fit_X10_unfit) (Nat.le_of_ble_eq_true rfl) dX10_fit_45 (fun x16 h15 => (?_)))))
          exact z_iret (pc := 48) dX10_fit_48 rfl rfl
        · exact z_sub [0] rfl (qj34_9 h5)
    · refine z_iconst (pc := 14) dX10_fit_14 ic_m1 (?_)
      exact z_iret (pc := 15) dX10_fit_15 rfl rfl
theorem dX10_tunes_0 : decode cX10_tunes 0 = .ok (.aload_n 0, 1) := by decide +kernel
theorem dX10_tunes_1 : decode cX10_tunes 1 = .ok (.iload_n 1, 1) := by decide +kernel
theorem dX10_tunes_2 : decode cX10_tunes 2 = .ok (.invokevirtual 207, 3) := by decide +kernel
theorem dX10_tunes_5 : decode cX10_tunes 5 = .ok (.istore_n 2, 1) := by decide +kernel
theorem dX10_tunes_6 : decode cX10_tunes 6 = .ok (.iload_n 2, 1) := by decide +kernel
theorem dX10_tunes_7 : decode cX10_tunes 7 = .ok (.ifCond .ge 5, 3) := by decide +kernel
theorem dX10_tunes_10 : decode cX10_tunes 10 = .ok (.iload_n 2, 1) := by decide +kernel
theorem dX10_tunes_11 : decode cX10_tunes 11 = .ok (.ireturn, 1) := by decide +kernel
theorem dX10_tunes_12 : decode cX10_tunes 12 = .ok (.iconst 0, 1) := by decide +kernel
theorem dX10_tunes_13 : decode cX10_tunes 13 = .ok (.istore_n 3, 1) := by decide +kernel
theorem dX10_tunes_14 : decode cX10_tunes 14 = .ok (.iconst 0, 1) := by decide +kernel
theorem dX10_tunes_15 : decode cX10_tunes 15 = .ok (.istore 4, 2) := by decide +kernel
theorem dX10_tunes_17 : decode cX10_tunes 17 = .ok (.iload 4, 2) := by decide +kernel
theorem dX10_tunes_19 : decode cX10_tunes 19 = .ok (.bipush 6, 2) := by decide +kernel
theorem dX10_tunes_21 : decode cX10_tunes 21 = .ok (.if_icmp .ge 42, 3) := by decide +kernel
theorem dX10_tunes_24 : decode cX10_tunes 24 = .ok (.iload_n 3, 1) := by decide +kernel
theorem dX10_tunes_25 : decode cX10_tunes 25 = .ok (.aload_n 0, 1) := by decide +kernel
theorem dX10_tunes_26 : decode cX10_tunes 26 = .ok (.getfield 44, 3) := by decide +kernel
theorem dX10_tunes_29 : decode cX10_tunes 29 = .ok (.iload 4, 2) := by decide +kernel
theorem dX10_tunes_31 : decode cX10_tunes 31 = .ok (.iaload, 1) := by decide +kernel
theorem dX10_tunes_32 : decode cX10_tunes 32 = .ok (.ifCond .le 22, 3) := by decide +kernel
theorem dX10_tunes_35 : decode cX10_tunes 35 = .ok (.aload_n 0, 1) := by decide +kernel
theorem dX10_tunes_36 : decode cX10_tunes 36 = .ok (.iload_n 1, 1) := by decide +kernel
theorem dX10_tunes_37 : decode cX10_tunes 37 = .ok (.iload 4, 2) := by decide +kernel
theorem dX10_tunes_39 : decode cX10_tunes 39 = .ok (.invokevirtual 231, 3) := by decide +kernel
theorem dX10_tunes_42 : decode cX10_tunes 42 = .ok (.bipush (-9), 2) := by decide +kernel
theorem dX10_tunes_44 : decode cX10_tunes 44 = .ok (.if_icmp .ne 10, 3) := by decide +kernel
theorem dX10_tunes_47 : decode cX10_tunes 47 = .ok (.iconst 1, 1) := by decide +kernel
theorem dX10_tunes_48 : decode cX10_tunes 48 = .ok (.iload 4, 2) := by decide +kernel
theorem dX10_tunes_50 : decode cX10_tunes 50 = .ok (.ishl, 1) := by decide +kernel
theorem dX10_tunes_51 : decode cX10_tunes 51 = .ok (.goto 4, 3) := by decide +kernel
theorem dX10_tunes_54 : decode cX10_tunes 54 = .ok (.iconst 0, 1) := by decide +kernel
theorem dX10_tunes_55 : decode cX10_tunes 55 = .ok (.ior, 1) := by decide +kernel
theorem dX10_tunes_56 : decode cX10_tunes 56 = .ok (.istore_n 3, 1) := by decide +kernel
theorem dX10_tunes_57 : decode cX10_tunes 57 = .ok (.iinc 4 1, 3) := by decide +kernel
theorem dX10_tunes_60 : decode cX10_tunes 60 = .ok (.goto (-43), 3) := by decide +kernel
theorem dX10_tunes_63 : decode cX10_tunes 63 = .ok (.iload_n 3, 1) := by decide +kernel
theorem dX10_tunes_64 : decode cX10_tunes 64 = .ok (.ireturn, 1) := by decide +kernel
def c_X10_tunes_L17 (F : Nat) (a4 : Nat) (x5 : Int32) : Nat → Int32 → Int32 → z_Hp → Option (Int32 × z_Hp)
  | 0, _, _, _ => none
  | n + 1, x6, x7, h8 => (if 6 ≤ x7 then (some (x6, h8)) else (if hT h8 a4 = 10 then (lt_ (hR h8 a4 17) (fun o9 => (nn o9 (fun a10 => (if okA h8 a10 20 x7 = true then (lt_ (fun (x12 : Int32) (h13 : z_Hp) => (lt_ (x6 ||| x12) (fun x14 => (lt_ (x7 + 1) (fun x15 => (c_X10_tunes_L17 F a4 x5 n x14 x15 h13)))))) (fun (j55_11 : Int32 → z_Hp → Option (Int32 × z_Hp)) => (lt_ (fun (h17 : z_Hp) => (j55_11 0 h17)) (fun (j54_16 : z_Hp → Option (Int32 × z_Hp)) => (if (hI h8 a10 (ix x7)) ≤ 0 then (j54_16 h8) else (if hT h8 a4 = 10 then (bI (c_X10_unfit F a4 x5 x7 h8) (fun x19 h18 => (if x19 = (-9) then (j55_11 (1 <<< (x7 &&& 31)) h18) else (j54_16 h18)))) else none)))))) else none))))) else none))
def c_X10_tunes (F : Nat) (a0 : Nat) (x1 : Int32) (h0 : z_Hp) : Option (Int32 × z_Hp) := (if hT h0 a0 = 10 then (bI (c_X10_askedSong F a0 x1 h0) (fun x3 h2 => (if 0 ≤ x3 then (c_X10_tunes_L17 F a0 x1 F 0 0 h2) else (some (x3, h2))))) else none)
set_option maxRecDepth 20000 in
set_option maxHeartbeats 4000000 in
theorem g_X10_tunes_L17 (F : Nat) (a4 : Nat) (x5 : Int32) : ∀ (n : Nat) (x6 : Int32) (x7 : Int32) (h8 : z_Hp), z_G zi mi_X10_tunes 17 [(0, vr (some a4)), (1, vi x5), (3, vi x6), (4, vi x7)] [] h8 (c_X10_tunes_L17 F a4 x5 n x6 x7 h8) := by
  intro n
  induction n with
  | zero => intro x6 x7 h8; rw [c_X10_tunes_L17]; exact z_none
  | succ n ih =>
    intro x6 x7 h8
    rw [c_X10_tunes_L17]
    refine z_iload (pc := 17) dX10_tunes_17 3 rfl (z_bipush (pc := 19) dX10_tunes_19 bp_6 (?_))
    refine z_icmp_ge (pc := 21) (tgt := 63) dX10_tunes_21 (by decide) ?_ ?_
    · refine z_iload_n (pc := 63) dX10_tunes_63 rfl 2 rfl (?_)
      exact z_iret (pc := 64) dX10_tunes_64 rfl rfl
    · refine z_iload_n (pc := 24) dX10_tunes_24 rfl 2 rfl (z_aload_n (pc := 25) dX10_tunes_25 rfl 0 rfl (z_getRl (pc := 26) fl_RX10_44 rfl dX10_tunes_26 (fun o9 => (z_iload (pc := 29) dX10_tunes_29 3 rfl (?_)))))
      refine z_nn (fun a10 ea10 => ?_)
      subst ea10
      refine z_iaload (pc := 31) dX10_tunes_31 (?_)
      refine z_jn (P := fun (j : Int32 → z_Hp → Option (Int32 × z_Hp)) => ∀ (x12 : Int32) (h13 : z_Hp), z_G zi mi_X10_tunes 55 [(0, vr (some a4)), (1, vi x5), (4, vi x7)] [vi x12, vi x6] h13 (j x12 h13)) (fun x12 h13 => ?_) (fun j55_11 qj55_11 => ?_)
      · refine z_ior (pc := 55) dX10_tunes_55 (z_istorel_n (pc := 56) (L' := fun x14 => [(0, vr (some a4)), (1, vi x5), (3, vi x14), (4, vi x7)]) dX10_tunes_56 rfl (Nat.le_of_ble_eq_true rfl) (fun _ => rfl) (fun x14 => (z_iincl (pc := 57) (L' := fun x15 => [(0, vr (some a4)), (1, vi x5), (3, vi x14), (4, vi x15)]) dX10_tunes_57 3 rfl ic_1 (Nat.le_of_ble_eq_true rfl) (fun _ => rfl) (fun x15 => (z_goto (pc := 60) (tgt := 17) dX10_tunes_60 (by decide) (?_))))))
        exact ih x14 x15 h13
      refine z_jn (P := fun (j : z_Hp → Option (Int32 × z_Hp)) => ∀ (h17 : z_Hp), z_G zi mi_X10_tunes 54 [(0, vr (some a4)), (1, vi x5), (4, vi x7)] [vi x6] h17 (j h17)) (fun h17 => ?_) (fun j54_16 qj54_16 => ?_)
      · refine z_iconst (pc := 54) dX10_tunes_54 ic_0 (?_)
        exact qj55_11 0 h17
      refine z_if_le (pc := 32) (tgt := 54) dX10_tunes_32 (by decide) ?_ ?_
      · exact z_sub [0, 1, 3] rfl (qj54_16 h8)
      · refine z_aload_n (pc := 35) dX10_tunes_35 rfl 0 rfl (z_iload_n (pc := 36) dX10_tunes_36 rfl 1 rfl (z_iload (pc := 37) dX10_tunes_37 3 rfl (z_callV_I (pc := 39) (avs := [vi x5, vi x7]) (st := [vi x6]) rfl (q := (RX10, TX10, 62)) rfl rfl (t_X10_unfit F a4 x5 x7 h8) ky_X10_unfit wm_X10_unfit we_X10_unfit wz_RX10_231 (rm_X10_tunes_X10_unfit) (Nat.le_of_ble_eq_true rfl) dX10_tunes_39 (fun x19 h18 => (?_)))))
        refine z_bipush (pc := 42) dX10_tunes_42 bp_m9 (?_)
        refine z_icmp_ne (pc := 44) (tgt := 54) dX10_tunes_44 (by decide) ?_ ?_
        · exact z_sub [0, 1, 3] rfl (qj54_16 h18)
        · refine z_iconst (pc := 47) dX10_tunes_47 ic_1 (z_iload (pc := 48) dX10_tunes_48 3 rfl (z_ishl (pc := 50) dX10_tunes_50 (z_goto (pc := 51) (tgt := 55) dX10_tunes_51 (by decide) (?_))))
          exact z_sub [0, 1, 3] rfl (qj55_11 (1 <<< (x7 &&& 31)) h18)
set_option maxRecDepth 20000 in
set_option maxHeartbeats 4000000 in
theorem t_X10_tunes (F : Nat) (a0 : Nat) (x1 : Int32) (h0 : z_Hp) : z_Ct zi mi_X10_tunes [vr (some a0), vi x1] h0 (c_X10_tunes F a0 x1 h0) := by
  refine z_entry (by decide) (Nat.le_of_ble_eq_true rfl) [(0, vr (some a0)), (1, vi x1)] rfl ?_
  unfold c_X10_tunes
  refine z_aload_n (pc := 0) dX10_tunes_0 rfl 0 rfl (z_iload_n (pc := 1) dX10_tunes_1 rfl 1 rfl (z_callV_I (pc := 2) (avs := [vi x1]) (st := []) rfl (q := (RX10, TX10, 62)) rfl rfl (t_X10_askedSong F a0 x1 h0) ky_X10_askedSong wm_X10_askedSong we_X10_askedSong wz_RX10_207 (rm_X10_tunes_X10_askedSong) (Nat.le_of_ble_eq_true rfl) dX10_tunes_2 (fun x3 h2 => (?_))))
  refine z_istore_n (pc := 5) (L' := [(0, vr (some a0)), (1, vi x1), (2, vi x3)]) dX10_tunes_5 rfl (Nat.le_of_ble_eq_true rfl) rfl (z_iload_n (pc := 6) dX10_tunes_6 rfl 2 rfl (?_))
  refine z_if_ge (pc := 7) (tgt := 12) dX10_tunes_7 (by decide) ?_ ?_
  · refine z_iconst (pc := 12) dX10_tunes_12 ic_0 (z_istore_n (pc := 13) (L' := [(0, vr (some a0)), (1, vi x1), (2, vi x3), (3, vi 0)]) dX10_tunes_13 rfl (Nat.le_of_ble_eq_true rfl) rfl (z_iconst (pc := 14) dX10_tunes_14 ic_0 (z_istore (pc := 15) (L' := [(0, vr (some a0)), (1, vi x1), (2, vi x3), (3, vi 0), (4, vi 0)]) dX10_tunes_15 (Nat.le_of_ble_eq_true rfl) rfl (?_))))
    refine z_sub [0, 1, 3, 4] rfl (g_X10_tunes_L17 F a0 x1 F 0 0 h2)
  · refine z_iload_n (pc := 10) dX10_tunes_10 rfl 2 rfl (?_)
    exact z_iret (pc := 11) dX10_tunes_11 rfl rfl
theorem dX10_letter_0 : decode cX10_letter 0 = .ok (.iload_n 0, 1) := by decide +kernel
theorem dX10_letter_1 : decode cX10_letter 1 = .ok (.lookupswitch 61 #[(67, 59), (68, 57), (76, 51), (82, 53), (83, 55)], 51) := by decide +kernel
theorem dX10_letter_52 : decode cX10_letter 52 = .ok (.iconst 0, 1) := by decide +kernel
theorem dX10_letter_53 : decode cX10_letter 53 = .ok (.ireturn, 1) := by decide +kernel
theorem dX10_letter_54 : decode cX10_letter 54 = .ok (.iconst 1, 1) := by decide +kernel
theorem dX10_letter_55 : decode cX10_letter 55 = .ok (.ireturn, 1) := by decide +kernel
theorem dX10_letter_56 : decode cX10_letter 56 = .ok (.iconst 2, 1) := by decide +kernel
theorem dX10_letter_57 : decode cX10_letter 57 = .ok (.ireturn, 1) := by decide +kernel
theorem dX10_letter_58 : decode cX10_letter 58 = .ok (.iconst 3, 1) := by decide +kernel
theorem dX10_letter_59 : decode cX10_letter 59 = .ok (.ireturn, 1) := by decide +kernel
theorem dX10_letter_60 : decode cX10_letter 60 = .ok (.iconst 4, 1) := by decide +kernel
theorem dX10_letter_61 : decode cX10_letter 61 = .ok (.ireturn, 1) := by decide +kernel
theorem dX10_letter_62 : decode cX10_letter 62 = .ok (.bipush (-9), 2) := by decide +kernel
theorem dX10_letter_64 : decode cX10_letter 64 = .ok (.ireturn, 1) := by decide +kernel
def c_X10_letter (F : Nat) (x1 : Int32) (h0 : z_Hp) : Option (Int32 × z_Hp) := (if x1 = 67 then (some (4, h0)) else (if x1 = 68 then (some (3, h0)) else (if x1 = 76 then (some (0, h0)) else (if x1 = 82 then (some (1, h0)) else (if x1 = 83 then (some (2, h0)) else (some ((-9), h0)))))))
set_option maxRecDepth 20000 in
set_option maxHeartbeats 4000000 in
theorem t_X10_letter (F : Nat) (x1 : Int32) (h0 : z_Hp) : z_Ct zi mi_X10_letter [vi x1] h0 (c_X10_letter F x1 h0) := by
  refine z_entry (by decide) (Nat.le_of_ble_eq_true rfl) [(0, vi x1)] rfl ?_
  unfold c_X10_letter
  refine z_iload_n (pc := 0) dX10_letter_0 rfl 0 rfl (?_)
  refine z_ite (fun e => z_lookC (tgt := 60) (off := 59) e dX10_letter_1 (by decide) (by decide) (by decide) ?_) (fun e67 => ?_)
  · refine z_iconst (pc := 60) dX10_letter_60 ic_4 (?_)
    exact z_iret (pc := 61) dX10_letter_61 rfl rfl
  refine z_ite (fun e => z_lookC (tgt := 58) (off := 57) e dX10_letter_1 (by decide) (by decide) (by decide) ?_) (fun e68 => ?_)
  · refine z_iconst (pc := 58) dX10_letter_58 ic_3 (?_)
    exact z_iret (pc := 59) dX10_letter_59 rfl rfl
  refine z_ite (fun e => z_lookC (tgt := 52) (off := 51) e dX10_letter_1 (by decide) (by decide) (by decide) ?_) (fun e76 => ?_)
  · refine z_iconst (pc := 52) dX10_letter_52 ic_0 (?_)
    exact z_iret (pc := 53) dX10_letter_53 rfl rfl
  refine z_ite (fun e => z_lookC (tgt := 54) (off := 53) e dX10_letter_1 (by decide) (by decide) (by decide) ?_) (fun e82 => ?_)
  · refine z_iconst (pc := 54) dX10_letter_54 ic_1 (?_)
    exact z_iret (pc := 55) dX10_letter_55 rfl rfl
  refine z_ite (fun e => z_lookC (tgt := 56) (off := 55) e dX10_letter_1 (by decide) (by decide) (by decide) ?_) (fun e83 => ?_)
  · refine z_iconst (pc := 56) dX10_letter_56 ic_2 (?_)
    exact z_iret (pc := 57) dX10_letter_57 rfl rfl
  refine z_lookup (tgt := 62) (off := 61) dX10_letter_1 (by decide) (z_lkd e67 e68 e76 e82 e83) (by decide) ?_
  refine z_bipush (pc := 62) dX10_letter_62 bp_m9 (?_)
  exact z_iret (pc := 64) dX10_letter_64 rfl rfl
theorem dX10_reads_0 : decode cX10_reads 0 = .ok (.iconst 0, 1) := by decide +kernel
theorem dX10_reads_1 : decode cX10_reads 1 = .ok (.istore_n 2, 1) := by decide +kernel
theorem dX10_reads_2 : decode cX10_reads 2 = .ok (.iload_n 2, 1) := by decide +kernel
theorem dX10_reads_3 : decode cX10_reads 3 = .ok (.iconst 5, 1) := by decide +kernel
theorem dX10_reads_4 : decode cX10_reads 4 = .ok (.if_icmp .ge 17, 3) := by decide +kernel
theorem dX10_reads_7 : decode cX10_reads 7 = .ok (.aload_n 0, 1) := by decide +kernel
theorem dX10_reads_8 : decode cX10_reads 8 = .ok (.getfield 59, 3) := by decide +kernel
theorem dX10_reads_11 : decode cX10_reads 11 = .ok (.iload_n 2, 1) := by decide +kernel
theorem dX10_reads_12 : decode cX10_reads 12 = .ok (.bipush (-9), 2) := by decide +kernel
theorem dX10_reads_14 : decode cX10_reads 14 = .ok (.iastore, 1) := by decide +kernel
theorem dX10_reads_15 : decode cX10_reads 15 = .ok (.iinc 2 1, 3) := by decide +kernel
theorem dX10_reads_18 : decode cX10_reads 18 = .ok (.goto (-16), 3) := by decide +kernel
theorem dX10_reads_21 : decode cX10_reads 21 = .ok (.iconst 0, 1) := by decide +kernel
theorem dX10_reads_22 : decode cX10_reads 22 = .ok (.istore_n 2, 1) := by decide +kernel
theorem dX10_reads_23 : decode cX10_reads 23 = .ok (.iload_n 2, 1) := by decide +kernel
theorem dX10_reads_24 : decode cX10_reads 24 = .ok (.aload_n 0, 1) := by decide +kernel
theorem dX10_reads_25 : decode cX10_reads 25 = .ok (.getfield 26, 3) := by decide +kernel
theorem dX10_reads_28 : decode cX10_reads 28 = .ok (.iload_n 1, 1) := by decide +kernel
theorem dX10_reads_29 : decode cX10_reads 29 = .ok (.iaload, 1) := by decide +kernel
theorem dX10_reads_30 : decode cX10_reads 30 = .ok (.if_icmp .ge 134, 3) := by decide +kernel
theorem dX10_reads_33 : decode cX10_reads 33 = .ok (.aload_n 0, 1) := by decide +kernel
theorem dX10_reads_34 : decode cX10_reads 34 = .ok (.getfield 29, 3) := by decide +kernel
theorem dX10_reads_37 : decode cX10_reads 37 = .ok (.bipush 60, 2) := by decide +kernel
theorem dX10_reads_39 : decode cX10_reads 39 = .ok (.iload_n 1, 1) := by decide +kernel
theorem dX10_reads_40 : decode cX10_reads 40 = .ok (.imul, 1) := by decide +kernel
theorem dX10_reads_41 : decode cX10_reads 41 = .ok (.iload_n 2, 1) := by decide +kernel
theorem dX10_reads_42 : decode cX10_reads 42 = .ok (.iadd, 1) := by decide +kernel
theorem dX10_reads_43 : decode cX10_reads 43 = .ok (.iaload, 1) := by decide +kernel
theorem dX10_reads_44 : decode cX10_reads 44 = .ok (.istore_n 3, 1) := by decide +kernel
theorem dX10_reads_45 : decode cX10_reads 45 = .ok (.iload_n 3, 1) := by decide +kernel
theorem dX10_reads_46 : decode cX10_reads 46 = .ok (.bipush 32, 2) := by decide +kernel
theorem dX10_reads_48 : decode cX10_reads 48 = .ok (.if_icmp .eq 110, 3) := by decide +kernel
theorem dX10_reads_51 : decode cX10_reads 51 = .ok (.iload_n 3, 1) := by decide +kernel
theorem dX10_reads_52 : decode cX10_reads 52 = .ok (.invokestatic 234, 3) := by decide +kernel
theorem dX10_reads_55 : decode cX10_reads 55 = .ok (.ifCond .ge 5, 3) := by decide +kernel
theorem dX10_reads_58 : decode cX10_reads 58 = .ok (.iload_n 2, 1) := by decide +kernel
theorem dX10_reads_59 : decode cX10_reads 59 = .ok (.ireturn, 1) := by decide +kernel
theorem dX10_reads_60 : decode cX10_reads 60 = .ok (.iconst 0, 1) := by decide +kernel
theorem dX10_reads_61 : decode cX10_reads 61 = .ok (.istore 4, 2) := by decide +kernel
theorem dX10_reads_63 : decode cX10_reads 63 = .ok (.iconst 0, 1) := by decide +kernel
theorem dX10_reads_64 : decode cX10_reads 64 = .ok (.istore 5, 2) := by decide +kernel
theorem dX10_reads_66 : decode cX10_reads 66 = .ok (.iload_n 2, 1) := by decide +kernel
theorem dX10_reads_67 : decode cX10_reads 67 = .ok (.iconst 1, 1) := by decide +kernel
theorem dX10_reads_68 : decode cX10_reads 68 = .ok (.iadd, 1) := by decide +kernel
theorem dX10_reads_69 : decode cX10_reads 69 = .ok (.aload_n 0, 1) := by decide +kernel
theorem dX10_reads_70 : decode cX10_reads 70 = .ok (.getfield 26, 3) := by decide +kernel
theorem dX10_reads_73 : decode cX10_reads 73 = .ok (.iload_n 1, 1) := by decide +kernel
theorem dX10_reads_74 : decode cX10_reads 74 = .ok (.iaload, 1) := by decide +kernel
theorem dX10_reads_75 : decode cX10_reads 75 = .ok (.if_icmp .ge 63, 3) := by decide +kernel
theorem dX10_reads_78 : decode cX10_reads 78 = .ok (.iload 4, 2) := by decide +kernel
theorem dX10_reads_80 : decode cX10_reads 80 = .ok (.iconst 3, 1) := by decide +kernel
theorem dX10_reads_81 : decode cX10_reads 81 = .ok (.if_icmp .ge 57, 3) := by decide +kernel
theorem dX10_reads_84 : decode cX10_reads 84 = .ok (.aload_n 0, 1) := by decide +kernel
theorem dX10_reads_85 : decode cX10_reads 85 = .ok (.getfield 29, 3) := by decide +kernel
theorem dX10_reads_88 : decode cX10_reads 88 = .ok (.bipush 60, 2) := by decide +kernel
theorem dX10_reads_90 : decode cX10_reads 90 = .ok (.iload_n 1, 1) := by decide +kernel
theorem dX10_reads_91 : decode cX10_reads 91 = .ok (.imul, 1) := by decide +kernel
theorem dX10_reads_92 : decode cX10_reads 92 = .ok (.iload_n 2, 1) := by decide +kernel
theorem dX10_reads_93 : decode cX10_reads 93 = .ok (.iadd, 1) := by decide +kernel
theorem dX10_reads_94 : decode cX10_reads 94 = .ok (.iconst 1, 1) := by decide +kernel
theorem dX10_reads_95 : decode cX10_reads 95 = .ok (.iadd, 1) := by decide +kernel
theorem dX10_reads_96 : decode cX10_reads 96 = .ok (.iaload, 1) := by decide +kernel
theorem dX10_reads_97 : decode cX10_reads 97 = .ok (.bipush 48, 2) := by decide +kernel
theorem dX10_reads_99 : decode cX10_reads 99 = .ok (.bipush 57, 2) := by decide +kernel
theorem dX10_reads_101 : decode cX10_reads 101 = .ok (.invokestatic 166, 3) := by decide +kernel
theorem dX10_reads_104 : decode cX10_reads 104 = .ok (.ifCond .eq 34, 3) := by decide +kernel
theorem dX10_reads_107 : decode cX10_reads 107 = .ok (.iinc 2 1, 3) := by decide +kernel
theorem dX10_reads_110 : decode cX10_reads 110 = .ok (.iinc 4 1, 3) := by decide +kernel
theorem dX10_reads_113 : decode cX10_reads 113 = .ok (.bipush 10, 2) := by decide +kernel
theorem dX10_reads_115 : decode cX10_reads 115 = .ok (.iload 5, 2) := by decide +kernel
theorem dX10_reads_117 : decode cX10_reads 117 = .ok (.imul, 1) := by decide +kernel
theorem dX10_reads_118 : decode cX10_reads 118 = .ok (.aload_n 0, 1) := by decide +kernel
theorem dX10_reads_119 : decode cX10_reads 119 = .ok (.getfield 29, 3) := by decide +kernel
theorem dX10_reads_122 : decode cX10_reads 122 = .ok (.bipush 60, 2) := by decide +kernel
theorem dX10_reads_124 : decode cX10_reads 124 = .ok (.iload_n 1, 1) := by decide +kernel
theorem dX10_reads_125 : decode cX10_reads 125 = .ok (.imul, 1) := by decide +kernel
theorem dX10_reads_126 : decode cX10_reads 126 = .ok (.iload_n 2, 1) := by decide +kernel
theorem dX10_reads_127 : decode cX10_reads 127 = .ok (.iadd, 1) := by decide +kernel
theorem dX10_reads_128 : decode cX10_reads 128 = .ok (.iaload, 1) := by decide +kernel
theorem dX10_reads_129 : decode cX10_reads 129 = .ok (.iadd, 1) := by decide +kernel
theorem dX10_reads_130 : decode cX10_reads 130 = .ok (.bipush 48, 2) := by decide +kernel
theorem dX10_reads_132 : decode cX10_reads 132 = .ok (.isub, 1) := by decide +kernel
theorem dX10_reads_133 : decode cX10_reads 133 = .ok (.istore 5, 2) := by decide +kernel
theorem dX10_reads_135 : decode cX10_reads 135 = .ok (.goto (-69), 3) := by decide +kernel
theorem dX10_reads_138 : decode cX10_reads 138 = .ok (.iload 4, 2) := by decide +kernel
theorem dX10_reads_140 : decode cX10_reads 140 = .ok (.ifCond .ne 7, 3) := by decide +kernel
theorem dX10_reads_143 : decode cX10_reads 143 = .ok (.iload_n 2, 1) := by decide +kernel
theorem dX10_reads_144 : decode cX10_reads 144 = .ok (.iconst 1, 1) := by decide +kernel
theorem dX10_reads_145 : decode cX10_reads 145 = .ok (.iadd, 1) := by decide +kernel
theorem dX10_reads_146 : decode cX10_reads 146 = .ok (.ireturn, 1) := by decide +kernel
theorem dX10_reads_147 : decode cX10_reads 147 = .ok (.aload_n 0, 1) := by decide +kernel
theorem dX10_reads_148 : decode cX10_reads 148 = .ok (.getfield 59, 3) := by decide +kernel
theorem dX10_reads_151 : decode cX10_reads 151 = .ok (.iload_n 3, 1) := by decide +kernel
theorem dX10_reads_152 : decode cX10_reads 152 = .ok (.invokestatic 234, 3) := by decide +kernel
theorem dX10_reads_155 : decode cX10_reads 155 = .ok (.iload 5, 2) := by decide +kernel
theorem dX10_reads_157 : decode cX10_reads 157 = .ok (.iastore, 1) := by decide +kernel
theorem dX10_reads_158 : decode cX10_reads 158 = .ok (.iinc 2 1, 3) := by decide +kernel
theorem dX10_reads_161 : decode cX10_reads 161 = .ok (.goto (-138), 3) := by decide +kernel
theorem dX10_reads_164 : decode cX10_reads 164 = .ok (.bipush (-9), 2) := by decide +kernel
theorem dX10_reads_166 : decode cX10_reads 166 = .ok (.ireturn, 1) := by decide +kernel
def c_X10_reads_L2 (F : Nat) (a2 : Nat) (x3 : Int32) (k21 : z_Hp → Option (Int32 × z_Hp)) : Nat → Int32 → z_Hp → Option (Int32 × z_Hp)
  | 0, _, _ => none
  | n + 1, x4, h5 => (if 5 ≤ x4 then (k21 h5) else (if hT h5 a2 = 10 then (lt_ (hR h5 a2 23) (fun o7 => (nn o7 (fun a8 => (if okA h5 a8 20 x4 = true then (lt_ (sI h5 a8 (ix x4) (-9)) (fun h9 => (lt_ (x4 + 1) (fun x10 => (c_X10_reads_L2 F a2 x3 k21 n x10 h9))))) else none))))) else none))
def c_X10_reads_L66 (F : Nat) (a27 : Nat) (x28 : Int32) (x29 : Int32) (k138 : Int32 → Int32 → Int32 → z_Hp → Option (Int32 × z_Hp)) : Nat → Int32 → Int32 → Int32 → z_Hp → Option (Int32 × z_Hp)
  | 0, _, _, _, _ => none
  | n + 1, x30, x31, x32, h33 => (if hT h33 a27 = 10 then (lt_ (hR h33 a27 10) (fun o38 => (nn o38 (fun a39 => (if okA h33 a39 20 x28 = true then (if (hI h33 a39 (ix x28)) ≤ (x30 + 1) then (k138 x30 x31 x32 h33) else (if 3 ≤ x31 then (k138 x30 x31 x32 h33) else (if hT h33 a27 = 10 then (lt_ (hR h33 a27 11) (fun o40 => (nn o40 (fun a41 => (if okA h33 a41 20 (((60 * x28) + x30) + 1) = true then (bI (c_X10_in F (hI h33 a41 (ix (((60 * x28) + x30) + 1))) 48 57 h33) (fun x43 h42 => (if x43 = 0 then (k138 x30 x31 x32 h42) else (lt_ (x30 + 1) (fun x44 => (lt_ (x31 + 1) (fun x45 => (if hT h42 a27 = 10 then (lt_ (hR h42 a27 11) (fun o46 => (nn o46 (fun a47 => (if okA h42 a47 20 ((60 * x28) + x44) = true then (lt_ (((10 * x32) + (hI h42 a47 (ix ((60 * x28) + x44)))) - 48) (fun x48 => (c_X10_reads_L66 F a27 x28 x29 k138 n x44 x45 x48 h42))) else none))))) else none)))))))) else none))))) else none))) else none))))) else none)
def c_X10_reads_L23 (F : Nat) (a12 : Nat) (x13 : Int32) : Nat → Int32 → z_Hp → Option (Int32 × z_Hp)
  | 0, _, _ => none
  | n + 1, x14, h15 => (if hT h15 a12 = 10 then (lt_ (hR h15 a12 10) (fun o16 => (nn o16 (fun a17 => (if okA h15 a17 20 x13 = true then (if (hI h15 a17 (ix x13)) ≤ x14 then (some ((-9), h15)) else (if hT h15 a12 = 10 then (lt_ (hR h15 a12 11) (fun o18 => (nn o18 (fun a19 => (if okA h15 a19 20 ((60 * x13) + x14) = true then (lt_ (hI h15 a19 (ix ((60 * x13) + x14))) (fun x20 => (lt_ (fun (x22 : Int32) (h23 : z_Hp) => (lt_ (x22 + 1) (fun x24 => (c_X10_reads_L23 F a12 x13 n x24 h23)))) (fun (j158_21 : Int32 → z_Hp → Option (Int32 × z_Hp)) => (if x20 = 32 then (j158_21 x14 h15) else (bI (c_X10_letter F x20 h15) (fun x26 h25 => (if 0 ≤ x26 then (c_X10_reads_L66 F a12 x13 x20 (fun x49 x50 x51 h52 => (if x50 = 0 then (some (x49 + 1, h52)) else (if hT h52 a12 = 10 then (lt_ (hR h52 a12 23) (fun o53 => (bI (c_X10_letter F x20 h52) (fun x55 h54 => (nn o53 (fun a56 => (if okA h54 a56 20 x55 = true then (lt_ (sI h54 a56 (ix x55) x51) (fun h57 => (j158_21 x49 h57))) else none))))))) else none))) F x14 0 0 h25) else (some (x14, h25)))))))))) else none))))) else none)) else none))))) else none)
def c_X10_reads (F : Nat) (a0 : Nat) (x1 : Int32) (h0 : z_Hp) : Option (Int32 × z_Hp) := (c_X10_reads_L2 F a0 x1 (fun h11 => (c_X10_reads_L23 F a0 x1 F 0 h11)) F 0 h0)
set_option maxRecDepth 20000 in
set_option maxHeartbeats 4000000 in
theorem g_X10_reads_L2 (F : Nat) (a2 : Nat) (x3 : Int32) (k21 : z_Hp → Option (Int32 × z_Hp)) (qk21 : ∀ (h6 : z_Hp), z_G zi mi_X10_reads 21 [(0, vr (some a2)), (1, vi x3)] [] h6 (k21 h6)) : ∀ (n : Nat) (x4 : Int32) (h5 : z_Hp), z_G zi mi_X10_reads 2 [(0, vr (some a2)), (1, vi x3), (2, vi x4)] [] h5 (c_X10_reads_L2 F a2 x3 k21 n x4 h5) := by
  intro n
  induction n with
  | zero => intro x4 h5; rw [c_X10_reads_L2]; exact z_none
  | succ n ih =>
    intro x4 h5
    rw [c_X10_reads_L2]
    refine z_iload_n (pc := 2) dX10_reads_2 rfl 2 rfl (z_iconst (pc := 3) dX10_reads_3 ic_5 (?_))
    refine z_icmp_ge (pc := 4) (tgt := 21) dX10_reads_4 (by decide) ?_ ?_
    · exact z_sub [0, 1] rfl (qk21 h5)
    · refine z_aload_n (pc := 7) dX10_reads_7 rfl 0 rfl (z_getRl (pc := 8) fl_RX10_59 rfl dX10_reads_8 (fun o7 => (z_iload_n (pc := 11) dX10_reads_11 rfl 2 rfl (z_bipush (pc := 12) dX10_reads_12 bp_m9 (?_)))))
      refine z_nn (fun a8 ea8 => ?_)
      subst ea8
      refine z_iastorel (pc := 14) dX10_reads_14 (fun h9 => (z_iincl (pc := 15) (L' := fun x10 => [(0, vr (some a2)), (1, vi x3), (2, vi x10)]) dX10_reads_15 2 rfl ic_1 (Nat.le_of_ble_eq_true rfl) (fun _ => rfl) (fun x10 => (z_goto (pc := 18) (tgt := 2) dX10_reads_18 (by decide) (?_)))))
      exact ih x10 h9
set_option maxRecDepth 20000 in
set_option maxHeartbeats 4000000 in
theorem g_X10_reads_L66 (F : Nat) (a27 : Nat) (x28 : Int32) (x29 : Int32) (k138 : Int32 → Int32 → Int32 → z_Hp → Option (Int32 × z_Hp)) (qk138 : ∀ (x34 : Int32) (x35 : Int32) (x36 : Int32) (h37 : z_Hp), z_G zi mi_X10_reads 138 [(0, vr (some a27)), (1, vi x28), (2, vi x34), (3, vi x29), (4, vi x35), (5, vi x36)] [] h37 (k138 x34 x35 x36 h37)) : ∀ (n : Nat) (x30 : Int32) (x31 : Int32) (x32 : Int32) (h33 : z_Hp), z_G zi mi_X10_reads 66 [(0, vr (some a27)), (1, vi x28), (2, vi x30), (3, vi x29), (4, vi x31), (5, vi x32)] [] h33 (c_X10_reads_L66 F a27 x28 x29 k138 n x30 x31 x32 h33) := by
  intro n
  induction n with
  | zero => intro x30 x31 x32 h33; rw [c_X10_reads_L66]; exact z_none
  | succ n ih =>
    intro x30 x31 x32 h33
    rw [c_X10_reads_L66]
    refine z_iload_n (pc := 66) dX10_reads_66 rfl 2 rfl (z_iconst (pc := 67) dX10_reads_67 ic_1 (z_iadd (pc := 68) dX10_reads_68 (z_aload_n (pc := 69) dX10_reads_69 rfl 0 rfl (z_getRl (pc := 70) fl_RX10_26 rfl dX10_reads_70 (fun o38 => (z_iload_n (pc := 73) dX10_reads_73 rfl 1 rfl (?_)))))))
    refine z_nn (fun a39 ea39 => ?_)
    subst ea39
    refine z_iaload (pc := 74) dX10_reads_74 (?_)
    refine z_icmp_ge (pc := 75) (tgt := 138) dX10_reads_75 (by decide) ?_ ?_
    · exact qk138 x30 x31 x32 h33
    · refine z_iload (pc := 78) dX10_reads_78 4 rfl (z_iconst (pc := 80) dX10_reads_80 ic_3 (?_))
      refine z_icmp_ge (pc := 81) (tgt := 138) dX10_reads_81 (by decide) ?_ ?_
      · exact qk138 x30 x31 x32 h33
      · refine z_aload_n (pc := 84) dX10_reads_84 rfl 0 rfl (z_getRl (pc := 85) fl_RX10_29 rfl dX10_reads_85 (fun o40 => (z_bipush (pc := 88) dX10_reads_88 bp_60 (z_iload_n (pc := 90) dX10_reads_90 rfl 1 rfl (z_imul (pc := 91) dX10_reads_91 (z_iload_n (pc := 92) dX10_reads_92 rfl 2 rfl (z_iadd (pc := 93) dX10_reads_93 (z_iconst (pc := 94) dX10_reads_94 ic_1 (?_)))))))))
        refine z_iadd (pc := 95) dX10_reads_95 (?_)
        refine z_nn (fun a41 ea41 => ?_)
        subst ea41
        refine z_iaload (pc := 96) dX10_reads_96 (z_bipush (pc := 97) dX10_reads_97 bp_48 (z_bipush (pc := 99) dX10_reads_99 bp_57 (z_callS_I (pc := 101) (avs := [vi (hI h33 a41 (ix (((60 * x28) + x30) + 1))), vi 48, vi 57]) (st := []) rfl (t_X10_in F (hI h33 a41 (ix (((60 * x28) + x30) + 1))) 48 57 h33) ky_X10_in ws_X10_in wz_RX10_166 (rm_X10_reads_X10_in) (Nat.le_of_ble_eq_true rfl) dX10_reads_101 (fun x43 h42 => (?_)))))
        refine z_if_eq (pc := 104) (tgt := 138) dX10_reads_104 (by decide) ?_ ?_
        · exact qk138 x30 x31 x32 h42
        · refine z_iincl (pc := 107) (L' := fun x44 => [(0, vr (some a27)), (1, vi x28), (2, vi x44), (3, vi x29), (4, vi x31), (5, vi x32)]) dX10_reads_107 2 rfl ic_1 (Nat.le_of_ble_eq_true rfl) (fun _ => rfl) (fun x44 => (z_iincl (pc := 110) (L' := fun x45 => [(0, vr (some a27)), (1, vi x28), (2, vi x44), (3, vi x29), (4, vi x45), (5, vi x32)]) dX10_reads_110 4 rfl ic_1 (Nat.le_of_ble_eq_true rfl) (fun _ => rfl) (fun x45 => (z_bipush (pc := 113) dX10_reads_113 bp_10 (z_iload (pc := 115) dX10_reads_115 5 rfl (z_imul (pc := 117) dX10_reads_117 (z_aload_n (pc := 118) dX10_reads_118 rfl 0 rfl (z_getRl (pc := 119) fl_RX10_29 rfl dX10_reads_119 (fun o46 => (z_bipush (pc := 122) dX10_reads_122 bp_60 (?_)))))))))))
          refine z_iload_n (pc := 124) dX10_reads_124 rfl 1 rfl (z_imul (pc := 125) dX10_reads_125 (z_iload_n (pc := 126) dX10_reads_126 rfl 2 rfl (z_iadd (pc := 127) dX10_reads_127 (?_))))
          refine z_nn (fun a47 ea47 => ?_)
          subst ea47
          refine z_iaload (pc := 128) dX10_reads_128 (z_iadd (pc := 129) dX10_reads_129 (z_bipush (pc := 130) dX10_reads_130 bp_48 (z_isub (pc := 132) dX10_reads_132 (z_istorel (pc := 133) (L' := fun x48 => [(0, vr (some a27)), (1, vi x28), (2, vi x44), (3, vi x29), (4, vi x45), (5, vi x48)]) dX10_reads_133 (Nat.le_of_ble_eq_true rfl) (fun _ => rfl) (fun x48 => (z_goto (pc := 135) (tgt := 66) dX10_reads_135 (by decide) (?_)))))))
          exact ih x44 x45 x48 h42
set_option maxRecDepth 20000 in
set_option maxHeartbeats 4000000 in
theorem g_X10_reads_L23 (F : Nat) (a12 : Nat) (x13 : Int32) : ∀ (n : Nat) (x14 : Int32) (h15 : z_Hp), z_G zi mi_X10_reads 23 [(0, vr (some a12)), (1, vi x13), (2, vi x14)] [] h15 (c_X10_reads_L23 F a12 x13 n x14 h15) := by
  intro n
  induction n with
  | zero => intro x14 h15; rw [c_X10_reads_L23]; exact z_none
  | succ n ih =>
    intro x14 h15
    rw [c_X10_reads_L23]
    refine z_iload_n (pc := 23) dX10_reads_23 rfl 2 rfl (z_aload_n (pc := 24) dX10_reads_24 rfl 0 rfl (z_getRl (pc := 25) fl_RX10_26 rfl dX10_reads_25 (fun o16 => (z_iload_n (pc := 28) dX10_reads_28 rfl 1 rfl (?_)))))
    refine z_nn (fun a17 ea17 => ?_)
    subst ea17
    refine z_iaload (pc := 29) dX10_reads_29 (?_)
    refine z_icmp_ge (pc := 30) (tgt := 164) dX10_reads_30 (by decide) ?_ ?_
    · refine z_bipush (pc := 164) dX10_reads_164 bp_m9 (?_)
      exact z_iret (pc := 166) dX10_reads_166 rfl rfl
    · refine z_aload_n (pc := 33) dX10_reads_33 rfl 0 rfl (z_getRl (pc := 34) fl_RX10_29 rfl dX10_reads_34 (fun o18 => (z_bipush (pc := 37) dX10_reads_37 bp_60 (z_iload_n (pc := 39) dX10_reads_39 rfl 1 rfl (z_imul (pc := 40) dX10_reads_40 (z_iload_n (pc := 41) dX10_reads_41 rfl 2 rfl (z_iadd (pc := 42) dX10_reads_42 (?_))))))))
      refine z_nn (fun a19 ea19 => ?_)
      subst ea19
      refine z_iaload (pc := 43) dX10_reads_43 (z_istorel_n (pc := 44) (L' := fun x20 => [(0, vr (some a12)), (1, vi x13), (2, vi x14), (3, vi x20)]) dX10_reads_44 rfl (Nat.le_of_ble_eq_true rfl) (fun _ => rfl) (fun x20 => (z_iload_n (pc := 45) dX10_reads_45 rfl 3 rfl (z_bipush (pc := 46) dX10_reads_46 bp_32 (?_)))))
      refine z_jn (P := fun (j : Int32 → z_Hp → Option (Int32 × z_Hp)) => ∀ (x22 : Int32) (h23 : z_Hp), z_G zi mi_X10_reads 158 [(0, vr (some a12)), (1, vi x13), (2, vi x22)] [] h23 (j x22 h23)) (fun x22 h23 => ?_) (fun j158_21 qj158_21 => ?_)
      · refine z_iincl (pc := 158) (L' := fun x24 => [(0, vr (some a12)), (1, vi x13), (2, vi x24)]) dX10_reads_158 2 rfl ic_1 (Nat.le_of_ble_eq_true rfl) (fun _ => rfl) (fun x24 => (z_goto (pc := 161) (tgt := 23) dX10_reads_161 (by decide) (?_)))
        exact ih x24 h23
      refine z_icmp_eq (pc := 48) (tgt := 158) dX10_reads_48 (by decide) ?_ ?_
      · exact z_sub [0, 1, 2] rfl (qj158_21 x14 h15)
      · refine z_iload_n (pc := 51) dX10_reads_51 rfl 3 rfl (z_callS_I (pc := 52) (avs := [vi x20]) (st := []) rfl (t_X10_letter F x20 h15) ky_X10_letter ws_X10_letter wz_RX10_234 (rm_X10_reads_X10_letter) (Nat.le_of_ble_eq_true rfl) dX10_reads_52 (fun x26 h25 => (?_)))
        refine z_if_ge (pc := 55) (tgt := 60) dX10_reads_55 (by decide) ?_ ?_
        · refine z_iconst (pc := 60) dX10_reads_60 ic_0 (z_istore (pc := 61) (L' := [(0, vr (some a12)), (1, vi x13), (2, vi x14), (3, vi x20), (4, vi 0)]) dX10_reads_61 (Nat.le_of_ble_eq_true rfl) rfl (z_iconst (pc := 63) dX10_reads_63 ic_0 (z_istore (pc := 64) (L' := [(0, vr (some a12)), (1, vi x13), (2, vi x14), (3, vi x20), (4, vi 0), (5, vi 0)]) dX10_reads_64 (Nat.le_of_ble_eq_true rfl) rfl (?_))))
          refine g_X10_reads_L66 F a12 x13 x20 _ (fun x49 x50 x51 h52 => ?_) F x14 0 0 h25
          refine z_iload (pc := 138) dX10_reads_138 4 rfl (?_)
          refine z_if_ne (pc := 140) (tgt := 147) dX10_reads_140 (by decide) ?_ ?_
          · refine z_aload_n (pc := 147) dX10_reads_147 rfl 0 rfl (z_getRl (pc := 148) fl_RX10_59 rfl dX10_reads_148 (fun o53 => (z_iload_n (pc := 151) dX10_reads_151 rfl 3 rfl (z_callS_I (pc := 152) (avs := [vi x20]) (st := [vr o53]) rfl (t_X10_letter F x20 h52) ky_X10_letter ws_X10_letter wz_RX10_234 (rm_X10_reads_X10_letter) (Nat.le_of_ble_eq_true rfl) dX10_reads_152 (fun x55 h54 => (?_))))))
            refine z_iload (pc := 155) dX10_reads_155 5 rfl (?_)
            refine z_nn (fun a56 ea56 => ?_)
            subst ea56
            refine z_iastorel (pc := 157) dX10_reads_157 (fun h57 => (?_))
            exact z_sub [0, 1, 2] rfl (qj158_21 x49 h57)
          · refine z_iload_n (pc := 143) dX10_reads_143 rfl 2 rfl (z_iconst (pc := 144) dX10_reads_144 ic_1 (z_iadd (pc := 145) dX10_reads_145 (?_)))
            exact z_iret (pc := 146) dX10_reads_146 rfl rfl
        · refine z_iload_n (pc := 58) dX10_reads_58 rfl 2 rfl (?_)
          exact z_iret (pc := 59) dX10_reads_59 rfl rfl
set_option maxRecDepth 20000 in
set_option maxHeartbeats 4000000 in
theorem t_X10_reads (F : Nat) (a0 : Nat) (x1 : Int32) (h0 : z_Hp) : z_Ct zi mi_X10_reads [vr (some a0), vi x1] h0 (c_X10_reads F a0 x1 h0) := by
  refine z_entry (by decide) (Nat.le_of_ble_eq_true rfl) [(0, vr (some a0)), (1, vi x1)] rfl ?_
  unfold c_X10_reads
  refine z_iconst (pc := 0) dX10_reads_0 ic_0 (z_istore_n (pc := 1) (L' := [(0, vr (some a0)), (1, vi x1), (2, vi 0)]) dX10_reads_1 rfl (Nat.le_of_ble_eq_true rfl) rfl (?_))
  refine g_X10_reads_L2 F a0 x1 _ (fun h11 => ?_) F 0 h0
  refine z_iconst (pc := 21) dX10_reads_21 ic_0 (z_istore_n (pc := 22) (L' := [(0, vr (some a0)), (1, vi x1), (2, vi 0)]) dX10_reads_22 rfl (Nat.le_of_ble_eq_true rfl) rfl (?_))
  refine g_X10_reads_L23 F a0 x1 F 0 h11
theorem dX10_fault_0 : decode cX10_fault 0 = .ok (.aload_n 0, 1) := by decide +kernel
theorem dX10_fault_1 : decode cX10_fault 1 = .ok (.iload_n 1, 1) := by decide +kernel
theorem dX10_fault_2 : decode cX10_fault 2 = .ok (.invokevirtual 188, 3) := by decide +kernel
theorem dX10_fault_5 : decode cX10_fault 5 = .ok (.istore_n 2, 1) := by decide +kernel
theorem dX10_fault_6 : decode cX10_fault 6 = .ok (.iload_n 2, 1) := by decide +kernel
theorem dX10_fault_7 : decode cX10_fault 7 = .ok (.ifCond .ge 7, 3) := by decide +kernel
theorem dX10_fault_10 : decode cX10_fault 10 = .ok (.iload_n 2, 1) := by decide +kernel
theorem dX10_fault_11 : decode cX10_fault 11 = .ok (.goto 8, 3) := by decide +kernel
theorem dX10_fault_14 : decode cX10_fault 14 = .ok (.aload_n 0, 1) := by decide +kernel
theorem dX10_fault_15 : decode cX10_fault 15 = .ok (.iload_n 1, 1) := by decide +kernel
theorem dX10_fault_16 : decode cX10_fault 16 = .ok (.invokevirtual 237, 3) := by decide +kernel
theorem dX10_fault_19 : decode cX10_fault 19 = .ok (.ireturn, 1) := by decide +kernel
def c_X10_fault (F : Nat) (a0 : Nat) (x1 : Int32) (h0 : z_Hp) : Option (Int32 × z_Hp) := (if hT h0 a0 = 10 then (bI (c_X10_askedText F a0 x1 h0) (fun x3 h2 => (if 0 ≤ x3 then (if hT h2 a0 = 10 then (bI (c_X10_reads F a0 x1 h2) (fun x5 h4 => (some (x5, h4)))) else none) else (some (x3, h2))))) else none)
set_option maxRecDepth 20000 in
set_option maxHeartbeats 4000000 in
theorem t_X10_fault (F : Nat) (a0 : Nat) (x1 : Int32) (h0 : z_Hp) : z_Ct zi mi_X10_fault [vr (some a0), vi x1] h0 (c_X10_fault F a0 x1 h0) := by
  refine z_entry (by decide) (Nat.le_of_ble_eq_true rfl) [(0, vr (some a0)), (1, vi x1)] rfl ?_
  unfold c_X10_fault
  refine z_aload_n (pc := 0) dX10_fault_0 rfl 0 rfl (z_iload_n (pc := 1) dX10_fault_1 rfl 1 rfl (z_callV_I (pc := 2) (avs := [vi x1]) (st := []) rfl (q := (RX10, TX10, 62)) rfl rfl (t_X10_askedText F a0 x1 h0) ky_X10_askedText wm_X10_askedText we_X10_askedText wz_RX10_188 (rm_X10_fault_X10_askedText) (Nat.le_of_ble_eq_true rfl) dX10_fault_2 (fun x3 h2 => (?_))))
  refine z_istore_n (pc := 5) (L' := [(0, vr (some a0)), (1, vi x1), (2, vi x3)]) dX10_fault_5 rfl (Nat.le_of_ble_eq_true rfl) rfl (z_iload_n (pc := 6) dX10_fault_6 rfl 2 rfl (?_))
  refine z_if_ge (pc := 7) (tgt := 14) dX10_fault_7 (by decide) ?_ ?_
  · refine z_aload_n (pc := 14) dX10_fault_14 rfl 0 rfl (z_iload_n (pc := 15) dX10_fault_15 rfl 1 rfl (z_callV_I (pc := 16) (avs := [vi x1]) (st := []) rfl (q := (RX10, TX10, 62)) rfl rfl (t_X10_reads F a0 x1 h2) ky_X10_reads wm_X10_reads we_X10_reads wz_RX10_237 (rm_X10_fault_X10_reads) (Nat.le_of_ble_eq_true rfl) dX10_fault_16 (fun x5 h4 => (?_))))
    exact z_iret (pc := 19) dX10_fault_19 rfl rfl
  · refine z_iload_n (pc := 10) dX10_fault_10 rfl 2 rfl (z_goto (pc := 11) (tgt := 19) dX10_fault_11 (by decide) (?_))
    exact z_iret (pc := 19) dX10_fault_19 rfl rfl
theorem dX10_isDay_0 : decode cX10_isDay 0 = .ok (.iload_n 0, 1) := by decide +kernel
theorem dX10_isDay_1 : decode cX10_isDay 1 = .ok (.iconst 0, 1) := by decide +kernel
theorem dX10_isDay_2 : decode cX10_isDay 2 = .ok (.sipush 999, 3) := by decide +kernel
theorem dX10_isDay_5 : decode cX10_isDay 5 = .ok (.invokestatic 166, 3) := by decide +kernel
theorem dX10_isDay_8 : decode cX10_isDay 8 = .ok (.ireturn, 1) := by decide +kernel
def c_X10_isDay (F : Nat) (x1 : Int32) (h0 : z_Hp) : Option (Int32 × z_Hp) := (bI (c_X10_in F x1 0 999 h0) (fun x3 h2 => (if x3 = 0 ∨ x3 = 1 then some (x3, h2) else none)))
set_option maxRecDepth 20000 in
set_option maxHeartbeats 4000000 in
theorem t_X10_isDay (F : Nat) (x1 : Int32) (h0 : z_Hp) : z_Ct zi mi_X10_isDay [vi x1] h0 (c_X10_isDay F x1 h0) := by
  refine z_entry (by decide) (Nat.le_of_ble_eq_true rfl) [(0, vi x1)] rfl ?_
  unfold c_X10_isDay
  refine z_iload_n (pc := 0) dX10_isDay_0 rfl 0 rfl (z_iconst (pc := 1) dX10_isDay_1 ic_0 (z_sipush (pc := 2) dX10_isDay_2 sp_999 (z_callS_I (pc := 5) (avs := [vi x1, vi 0, vi 999]) (st := []) rfl (t_X10_in F x1 0 999 h0) ky_X10_in ws_X10_in wz_RX10_166 (rm_X10_isDay_X10_in) (Nat.le_of_ble_eq_true rfl) dX10_isDay_5 (fun x3 h2 => (?_)))))
  exact z_zret (pc := 8) dX10_isDay_8 rfl
theorem dX10_rule_0 : decode cX10_rule 0 = .ok (.iload_n 1, 1) := by decide +kernel
theorem dX10_rule_1 : decode cX10_rule 1 = .ok (.invokestatic 178, 3) := by decide +kernel
theorem dX10_rule_4 : decode cX10_rule 4 = .ok (.ifCond .eq 10, 3) := by decide +kernel
theorem dX10_rule_7 : decode cX10_rule 7 = .ok (.iload_n 2, 1) := by decide +kernel
theorem dX10_rule_8 : decode cX10_rule 8 = .ok (.invokestatic 240, 3) := by decide +kernel
theorem dX10_rule_11 : decode cX10_rule 11 = .ok (.ifCond .ne 5, 3) := by decide +kernel
theorem dX10_rule_14 : decode cX10_rule 14 = .ok (.iconst (-1), 1) := by decide +kernel
theorem dX10_rule_15 : decode cX10_rule 15 = .ok (.ireturn, 1) := by decide +kernel
theorem dX10_rule_16 : decode cX10_rule 16 = .ok (.aload_n 0, 1) := by decide +kernel
theorem dX10_rule_17 : decode cX10_rule 17 = .ok (.getfield 243, 3) := by decide +kernel
theorem dX10_rule_20 : decode cX10_rule 20 = .ok (.bipush 16, 2) := by decide +kernel
theorem dX10_rule_22 : decode cX10_rule 22 = .ok (.if_icmp .ne 6, 3) := by decide +kernel
theorem dX10_rule_25 : decode cX10_rule 25 = .ok (.bipush (-2), 2) := by decide +kernel
theorem dX10_rule_27 : decode cX10_rule 27 = .ok (.ireturn, 1) := by decide +kernel
theorem dX10_rule_28 : decode cX10_rule 28 = .ok (.aload_n 0, 1) := by decide +kernel
theorem dX10_rule_29 : decode cX10_rule 29 = .ok (.getfield 26, 3) := by decide +kernel
theorem dX10_rule_32 : decode cX10_rule 32 = .ok (.iload_n 1, 1) := by decide +kernel
theorem dX10_rule_33 : decode cX10_rule 33 = .ok (.iaload, 1) := by decide +kernel
theorem dX10_rule_34 : decode cX10_rule 34 = .ok (.ifCond .ge 9, 3) := by decide +kernel
theorem dX10_rule_37 : decode cX10_rule 37 = .ok (.aload_n 0, 1) := by decide +kernel
theorem dX10_rule_38 : decode cX10_rule 38 = .ok (.iconst 1, 1) := by decide +kernel
theorem dX10_rule_39 : decode cX10_rule 39 = .ok (.invokevirtual 174, 3) := by decide +kernel
theorem dX10_rule_42 : decode cX10_rule 42 = .ok (.ireturn, 1) := by decide +kernel
theorem dX10_rule_43 : decode cX10_rule 43 = .ok (.aload_n 0, 1) := by decide +kernel
theorem dX10_rule_44 : decode cX10_rule 44 = .ok (.iload_n 1, 1) := by decide +kernel
theorem dX10_rule_45 : decode cX10_rule 45 = .ok (.invokevirtual 237, 3) := by decide +kernel
theorem dX10_rule_48 : decode cX10_rule 48 = .ok (.bipush (-9), 2) := by decide +kernel
theorem dX10_rule_50 : decode cX10_rule 50 = .ok (.if_icmp .eq 6, 3) := by decide +kernel
theorem dX10_rule_53 : decode cX10_rule 53 = .ok (.bipush (-4), 2) := by decide +kernel
theorem dX10_rule_55 : decode cX10_rule 55 = .ok (.ireturn, 1) := by decide +kernel
theorem dX10_rule_56 : decode cX10_rule 56 = .ok (.aload_n 0, 1) := by decide +kernel
theorem dX10_rule_57 : decode cX10_rule 57 = .ok (.getfield 50, 3) := by decide +kernel
theorem dX10_rule_60 : decode cX10_rule 60 = .ok (.aload_n 0, 1) := by decide +kernel
theorem dX10_rule_61 : decode cX10_rule 61 = .ok (.getfield 243, 3) := by decide +kernel
theorem dX10_rule_64 : decode cX10_rule 64 = .ok (.aload_n 0, 1) := by decide +kernel
theorem dX10_rule_65 : decode cX10_rule 65 = .ok (.getfield 191, 3) := by decide +kernel
theorem dX10_rule_68 : decode cX10_rule 68 = .ok (.iastore, 1) := by decide +kernel
theorem dX10_rule_69 : decode cX10_rule 69 = .ok (.aload_n 0, 1) := by decide +kernel
theorem dX10_rule_70 : decode cX10_rule 70 = .ok (.getfield 53, 3) := by decide +kernel
theorem dX10_rule_73 : decode cX10_rule 73 = .ok (.aload_n 0, 1) := by decide +kernel
theorem dX10_rule_74 : decode cX10_rule 74 = .ok (.getfield 243, 3) := by decide +kernel
theorem dX10_rule_77 : decode cX10_rule 77 = .ok (.iload_n 2, 1) := by decide +kernel
theorem dX10_rule_78 : decode cX10_rule 78 = .ok (.iastore, 1) := by decide +kernel
theorem dX10_rule_79 : decode cX10_rule 79 = .ok (.iconst 0, 1) := by decide +kernel
theorem dX10_rule_80 : decode cX10_rule 80 = .ok (.istore_n 3, 1) := by decide +kernel
theorem dX10_rule_81 : decode cX10_rule 81 = .ok (.iload_n 3, 1) := by decide +kernel
theorem dX10_rule_82 : decode cX10_rule 82 = .ok (.iconst 5, 1) := by decide +kernel
theorem dX10_rule_83 : decode cX10_rule 83 = .ok (.if_icmp .ge 28, 3) := by decide +kernel
theorem dX10_rule_86 : decode cX10_rule 86 = .ok (.aload_n 0, 1) := by decide +kernel
theorem dX10_rule_87 : decode cX10_rule 87 = .ok (.getfield 56, 3) := by decide +kernel
theorem dX10_rule_90 : decode cX10_rule 90 = .ok (.iconst 5, 1) := by decide +kernel
theorem dX10_rule_91 : decode cX10_rule 91 = .ok (.aload_n 0, 1) := by decide +kernel
theorem dX10_rule_92 : decode cX10_rule 92 = .ok (.getfield 243, 3) := by decide +kernel
theorem dX10_rule_95 : decode cX10_rule 95 = .ok (.imul, 1) := by decide +kernel
theorem dX10_rule_96 : decode cX10_rule 96 = .ok (.iload_n 3, 1) := by decide +kernel
theorem dX10_rule_97 : decode cX10_rule 97 = .ok (.iadd, 1) := by decide +kernel
theorem dX10_rule_98 : decode cX10_rule 98 = .ok (.aload_n 0, 1) := by decide +kernel
theorem dX10_rule_99 : decode cX10_rule 99 = .ok (.getfield 59, 3) := by decide +kernel
theorem dX10_rule_102 : decode cX10_rule 102 = .ok (.iload_n 3, 1) := by decide +kernel
theorem dX10_rule_103 : decode cX10_rule 103 = .ok (.iaload, 1) := by decide +kernel
theorem dX10_rule_104 : decode cX10_rule 104 = .ok (.iastore, 1) := by decide +kernel
theorem dX10_rule_105 : decode cX10_rule 105 = .ok (.iinc 3 1, 3) := by decide +kernel
theorem dX10_rule_108 : decode cX10_rule 108 = .ok (.goto (-27), 3) := by decide +kernel
theorem dX10_rule_111 : decode cX10_rule 111 = .ok (.aload_n 0, 1) := by decide +kernel
theorem dX10_rule_112 : decode cX10_rule 112 = .ok (.dup, 1) := by decide +kernel
theorem dX10_rule_113 : decode cX10_rule 113 = .ok (.getfield 243, 3) := by decide +kernel
theorem dX10_rule_116 : decode cX10_rule 116 = .ok (.iconst 1, 1) := by decide +kernel
theorem dX10_rule_117 : decode cX10_rule 117 = .ok (.iadd, 1) := by decide +kernel
theorem dX10_rule_118 : decode cX10_rule 118 = .ok (.putfield 243, 3) := by decide +kernel
theorem dX10_rule_121 : decode cX10_rule 121 = .ok (.aload_n 0, 1) := by decide +kernel
theorem dX10_rule_122 : decode cX10_rule 122 = .ok (.getfield 243, 3) := by decide +kernel
theorem dX10_rule_125 : decode cX10_rule 125 = .ok (.iconst 1, 1) := by decide +kernel
theorem dX10_rule_126 : decode cX10_rule 126 = .ok (.isub, 1) := by decide +kernel
theorem dX10_rule_127 : decode cX10_rule 127 = .ok (.ireturn, 1) := by decide +kernel
def c_X10_rule_L81 (F : Nat) (a17 : Nat) (k111 : z_Hp → Option (Int32 × z_Hp)) : Nat → Int32 → z_Hp → Option (Int32 × z_Hp)
  | 0, _, _ => none
  | n + 1, x18, h19 => (if 5 ≤ x18 then (k111 h19) else (if hT h19 a17 = 10 then (lt_ (hR h19 a17 22) (fun o21 => (if hT h19 a17 = 10 then (if hT h19 a17 = 10 then (lt_ (hR h19 a17 23) (fun o22 => (nn o22 (fun a23 => (if okA h19 a23 20 x18 = true then (nn o21 (fun a24 => (if okA h19 a24 20 ((5 * (hI h19 a17 19)) + x18) = true then (lt_ (sI h19 a24 (ix ((5 * (hI h19 a17 19)) + x18)) (hI h19 a23 (ix x18))) (fun h25 => (lt_ (x18 + 1) (fun x26 => (c_X10_rule_L81 F a17 k111 n x26 h25))))) else none))) else none))))) else none) else none))) else none))
def c_X10_rule (F : Nat) (a0 : Nat) (x1 : Int32) (x2 : Int32) (h0 : z_Hp) : Option (Int32 × z_Hp) := (bI (c_X10_isText F x1 h0) (fun x4 h3 => (if x4 = 0 then (some ((-1), h3)) else (bI (c_X10_isDay F x2 h3) (fun x6 h5 => (if x6 = 0 then (some ((-1), h5)) else (if hT h5 a0 = 10 then (if (hI h5 a0 19) = 16 then (some ((-2), h5)) else (if hT h5 a0 = 10 then (lt_ (hR h5 a0 10) (fun o7 => (nn o7 (fun a8 => (if okA h5 a8 20 x1 = true then (if 0 ≤ (hI h5 a8 (ix x1)) then (if hT h5 a0 = 10 then (bI (c_X10_reads F a0 x1 h5) (fun x10 h9 => (if x10 = (-9) then (if hT h9 a0 = 10 then (lt_ (hR h9 a0 20) (fun o11 => (if hT h9 a0 = 10 then (if hT h9 a0 = 10 then (nn o11 (fun a12 => (if okA h9 a12 20 (hI h9 a0 19) = true then (lt_ (sI h9 a12 (ix (hI h9 a0 19)) (hI h9 a0 6)) (fun h13 => (if hT h13 a0 = 10 then (lt_ (hR h13 a0 21) (fun o14 => (if hT h13 a0 = 10 then (nn o14 (fun a15 => (if okA h13 a15 20 (hI h13 a0 19) = true then (lt_ (sI h13 a15 (ix (hI h13 a0 19)) x2) (fun h16 => (c_X10_rule_L81 F a0 (fun h27 => (if hT h27 a0 = 10 then (if hT h27 a0 = 10 then (lt_ (sI h27 a0 19 ((hI h27 a0 19) + 1)) (fun h28 => (if hT h28 a0 = 10 then (some ((hI h28 a0 19) - 1, h28)) else none))) else none) else none)) F 0 h16))) else none))) else none))) else none))) else none))) else none) else none))) else none) else (some ((-4), h9))))) else none) else (if hT h5 a0 = 10 then (bI (c_X10_meets F a0 1 h5) (fun x30 h29 => (some (x30, h29)))) else none)) else none))))) else none)) else none)))))))
set_option maxRecDepth 20000 in
set_option maxHeartbeats 4000000 in
theorem g_X10_rule_L81 (F : Nat) (a17 : Nat) (k111 : z_Hp → Option (Int32 × z_Hp)) (qk111 : ∀ (h20 : z_Hp), z_G zi mi_X10_rule 111 [(0, vr (some a17))] [] h20 (k111 h20)) : ∀ (n : Nat) (x18 : Int32) (h19 : z_Hp), z_G zi mi_X10_rule 81 [(0, vr (some a17)), (3, vi x18)] [] h19 (c_X10_rule_L81 F a17 k111 n x18 h19) := by
  intro n
  induction n with
  | zero => intro x18 h19; rw [c_X10_rule_L81]; exact z_none
  | succ n ih =>
    intro x18 h19
    rw [c_X10_rule_L81]
    refine z_iload_n (pc := 81) dX10_rule_81 rfl 1 rfl (z_iconst (pc := 82) dX10_rule_82 ic_5 (?_))
    refine z_icmp_ge (pc := 83) (tgt := 111) dX10_rule_83 (by decide) ?_ ?_
    · exact z_sub [0] rfl (qk111 h19)
    · refine z_aload_n (pc := 86) dX10_rule_86 rfl 0 rfl (z_getRl (pc := 87) fl_RX10_56 rfl dX10_rule_87 (fun o21 => (z_iconst (pc := 90) dX10_rule_90 ic_5 (z_aload_n (pc := 91) dX10_rule_91 rfl 0 rfl (z_getI (pc := 92) fl_RX10_243 rfl dX10_rule_92 (z_imul (pc := 95) dX10_rule_95 (z_iload_n (pc := 96) dX10_rule_96 rfl 1 rfl (z_iadd (pc := 97) dX10_rule_97 (?_)))))))))
      refine z_aload_n (pc := 98) dX10_rule_98 rfl 0 rfl (z_getRl (pc := 99) fl_RX10_59 rfl dX10_rule_99 (fun o22 => (z_iload_n (pc := 102) dX10_rule_102 rfl 1 rfl (?_))))
      refine z_nn (fun a23 ea23 => ?_)
      subst ea23
      refine z_iaload (pc := 103) dX10_rule_103 (?_)
      refine z_nn (fun a24 ea24 => ?_)
      subst ea24
      refine z_iastorel (pc := 104) dX10_rule_104 (fun h25 => (z_iincl (pc := 105) (L' := fun x26 => [(0, vr (some a17)), (3, vi x26)]) dX10_rule_105 1 rfl ic_1 (Nat.le_of_ble_eq_true rfl) (fun _ => rfl) (fun x26 => (z_goto (pc := 108) (tgt := 81) dX10_rule_108 (by decide) (?_)))))
      exact ih x26 h25
set_option maxRecDepth 20000 in
set_option maxHeartbeats 4000000 in
theorem t_X10_rule (F : Nat) (a0 : Nat) (x1 : Int32) (x2 : Int32) (h0 : z_Hp) : z_Ct zi mi_X10_rule [vr (some a0), vi x1, vi x2] h0 (c_X10_rule F a0 x1 x2 h0) := by
  refine z_entry (by decide) (Nat.le_of_ble_eq_true rfl) [(0, vr (some a0)), (1, vi x1), (2, vi x2)] rfl ?_
  unfold c_X10_rule
  refine z_iload_n (pc := 0) dX10_rule_0 rfl 1 rfl (z_callS_I (pc := 1) (avs := [vi x1]) (st := []) rfl (t_X10_isText F x1 h0) ky_X10_isText ws_X10_isText wz_RX10_178 (rm_X10_rule_X10_isText) (Nat.le_of_ble_eq_true rfl) dX10_rule_1 (fun x4 h3 => (?_)))
  refine z_if_eq (pc := 4) (tgt := 14) dX10_rule_4 (by decide) ?_ ?_
  · refine z_iconst (pc := 14) dX10_rule_14 ic_m1 (?_)
    exact z_iret (pc := 15) dX10_rule_15 rfl rfl
  · refine z_iload_n (pc := 7) dX10_rule_7 rfl 2 rfl (z_callS_I (pc := 8) (avs := [vi x2]) (st := []) rfl (t_X10_isDay F x2 h3) ky_X10_isDay ws_X10_isDay wz_RX10_240 (rm_X10_rule_X10_isDay) (Nat.le_of_ble_eq_true rfl) dX10_rule_8 (fun x6 h5 => (?_)))
    refine z_if_ne (pc := 11) (tgt := 16) dX10_rule_11 (by decide) ?_ ?_
    · refine z_aload_n (pc := 16) dX10_rule_16 rfl 0 rfl (z_getI (pc := 17) fl_RX10_243 rfl dX10_rule_17 (z_bipush (pc := 20) dX10_rule_20 bp_16 (?_)))
      refine z_icmp_ne (pc := 22) (tgt := 28) dX10_rule_22 (by decide) ?_ ?_
      · refine z_aload_n (pc := 28) dX10_rule_28 rfl 0 rfl (z_getRl (pc := 29) fl_RX10_26 rfl dX10_rule_29 (fun o7 => (z_iload_n (pc := 32) dX10_rule_32 rfl 1 rfl (?_))))
        refine z_nn (fun a8 ea8 => ?_)
        subst ea8
        refine z_iaload (pc := 33) dX10_rule_33 (?_)
        refine z_if_ge (pc := 34) (tgt := 43) dX10_rule_34 (by decide) ?_ ?_
        · refine z_aload_n (pc := 43) dX10_rule_43 rfl 0 rfl (z_iload_n (pc := 44) dX10_rule_44 rfl 1 rfl (z_callV_I (pc := 45) (avs := [vi x1]) (st := []) rfl (q := (RX10, TX10, 62)) rfl rfl (t_X10_reads F a0 x1 h5) ky_X10_reads wm_X10_reads we_X10_reads wz_RX10_237 (rm_X10_rule_X10_reads) (Nat.le_of_ble_eq_true rfl) dX10_rule_45 (fun x10 h9 => (?_))))
          refine z_bipush (pc := 48) dX10_rule_48 bp_m9 (?_)
          refine z_icmp_eq (pc := 50) (tgt := 56) dX10_rule_50 (by decide) ?_ ?_
          · refine z_aload_n (pc := 56) dX10_rule_56 rfl 0 rfl (z_getRl (pc := 57) fl_RX10_50 rfl dX10_rule_57 (fun o11 => (z_aload_n (pc := 60) dX10_rule_60 rfl 0 rfl (z_getI (pc := 61) fl_RX10_243 rfl dX10_rule_61 (z_aload_n (pc := 64) dX10_rule_64 rfl 0 rfl (z_getI (pc := 65) fl_RX10_191 rfl dX10_rule_65 (?_)))))))
            refine z_nn (fun a12 ea12 => ?_)
            subst ea12
            refine z_iastorel (pc := 68) dX10_rule_68 (fun h13 => (z_aload_n (pc := 69) dX10_rule_69 rfl 0 rfl (z_getRl (pc := 70) fl_RX10_53 rfl dX10_rule_70 (fun o14 => (z_aload_n (pc := 73) dX10_rule_73 rfl 0 rfl (z_getI (pc := 74) fl_RX10_243 rfl dX10_rule_74 (z_iload_n (pc := 77) dX10_rule_77 rfl 2 rfl (?_))))))))
            refine z_nn (fun a15 ea15 => ?_)
            subst ea15
            refine z_iastorel (pc := 78) dX10_rule_78 (fun h16 => (z_iconst (pc := 79) dX10_rule_79 ic_0 (z_istore_n (pc := 80) (L' := [(0, vr (some a0)), (1, vi x1), (2, vi x2), (3, vi 0)]) dX10_rule_80 rfl (Nat.le_of_ble_eq_true rfl) rfl (?_))))
            refine z_sub [0, 3] rfl (g_X10_rule_L81 F a0 _ (fun h27 => ?_) F 0 h16)
            refine z_aload_n (pc := 111) dX10_rule_111 rfl 0 rfl (z_dup (pc := 112) dX10_rule_112 rfl (z_getI (pc := 113) fl_RX10_243 rfl dX10_rule_113 (z_iconst (pc := 116) dX10_rule_116 ic_1 (z_iadd (pc := 117) dX10_rule_117 (z_putIl (pc := 118) fl_RX10_243 (fin_X_10_19 _) rfl dX10_rule_118 (fun h28 => (z_aload_n (pc := 121) dX10_rule_121 rfl 0 rfl (z_getI (pc := 122) fl_RX10_243 rfl dX10_rule_122 (?_)))))))))
            refine z_iconst (pc := 125) dX10_rule_125 ic_1 (z_isub (pc := 126) dX10_rule_126 (?_))
            exact z_iret (pc := 127) dX10_rule_127 rfl rfl
          · refine z_bipush (pc := 53) dX10_rule_53 bp_m4 (?_)
            exact z_iret (pc := 55) dX10_rule_55 rfl rfl
        · refine z_aload_n (pc := 37) dX10_rule_37 rfl 0 rfl (z_iconst (pc := 38) dX10_rule_38 ic_1 (z_callV_I (pc := 39) (avs := [vi 1]) (st := []) rfl (q := (RX10, TX10, 62)) rfl rfl (t_X10_meets F a0 1 h5) ky_X10_meets wm_X10_meets we_X10_meets wz_RX10_174 (rm_X10_rule_X10_meets) (Nat.le_of_ble_eq_true rfl) dX10_rule_39 (fun x30 h29 => (?_))))
          exact z_iret (pc := 42) dX10_rule_42 rfl rfl
      · refine z_bipush (pc := 25) dX10_rule_25 bp_m2 (?_)
        exact z_iret (pc := 27) dX10_rule_27 rfl rfl
    · refine z_iconst (pc := 14) dX10_rule_14 ic_m1 (?_)
      exact z_iret (pc := 15) dX10_rule_15 rfl rfl
theorem dX10_isAsked_0 : decode cX10_isAsked 0 = .ok (.iload_n 0, 1) := by decide +kernel
theorem dX10_isAsked_1 : decode cX10_isAsked 1 = .ok (.iconst 0, 1) := by decide +kernel
theorem dX10_isAsked_2 : decode cX10_isAsked 2 = .ok (.iconst 4, 1) := by decide +kernel
theorem dX10_isAsked_3 : decode cX10_isAsked 3 = .ok (.invokestatic 166, 3) := by decide +kernel
theorem dX10_isAsked_6 : decode cX10_isAsked 6 = .ok (.ifCond .eq 21, 3) := by decide +kernel
theorem dX10_isAsked_9 : decode cX10_isAsked 9 = .ok (.iload_n 1, 1) := by decide +kernel
theorem dX10_isAsked_10 : decode cX10_isAsked 10 = .ok (.invokestatic 240, 3) := by decide +kernel
theorem dX10_isAsked_13 : decode cX10_isAsked 13 = .ok (.ifCond .eq 14, 3) := by decide +kernel
theorem dX10_isAsked_16 : decode cX10_isAsked 16 = .ok (.iload_n 2, 1) := by decide +kernel
theorem dX10_isAsked_17 : decode cX10_isAsked 17 = .ok (.invokestatic 240, 3) := by decide +kernel
theorem dX10_isAsked_20 : decode cX10_isAsked 20 = .ok (.ifCond .eq 7, 3) := by decide +kernel
theorem dX10_isAsked_23 : decode cX10_isAsked 23 = .ok (.iconst 1, 1) := by decide +kernel
theorem dX10_isAsked_24 : decode cX10_isAsked 24 = .ok (.goto 4, 3) := by decide +kernel
theorem dX10_isAsked_27 : decode cX10_isAsked 27 = .ok (.iconst 0, 1) := by decide +kernel
theorem dX10_isAsked_28 : decode cX10_isAsked 28 = .ok (.ireturn, 1) := by decide +kernel
def c_X10_isAsked (F : Nat) (x1 : Int32) (x2 : Int32) (x3 : Int32) (h0 : z_Hp) : Option (Int32 × z_Hp) := (bI (c_X10_in F x1 0 4 h0) (fun x5 h4 => (if x5 = 0 then (some (0, h4)) else (bI (c_X10_isDay F x2 h4) (fun x7 h6 => (if x7 = 0 then (some (0, h6)) else (bI (c_X10_isDay F x3 h6) (fun x9 h8 => (if x9 = 0 then (some (0, h8)) else (some (1, h8)))))))))))
set_option maxRecDepth 20000 in
set_option maxHeartbeats 4000000 in
theorem t_X10_isAsked (F : Nat) (x1 : Int32) (x2 : Int32) (x3 : Int32) (h0 : z_Hp) : z_Ct zi mi_X10_isAsked [vi x1, vi x2, vi x3] h0 (c_X10_isAsked F x1 x2 x3 h0) := by
  refine z_entry (by decide) (Nat.le_of_ble_eq_true rfl) [(0, vi x1), (1, vi x2), (2, vi x3)] rfl ?_
  unfold c_X10_isAsked
  refine z_iload_n (pc := 0) dX10_isAsked_0 rfl 0 rfl (z_iconst (pc := 1) dX10_isAsked_1 ic_0 (z_iconst (pc := 2) dX10_isAsked_2 ic_4 (z_callS_I (pc := 3) (avs := [vi x1, vi 0, vi 4]) (st := []) rfl (t_X10_in F x1 0 4 h0) ky_X10_in ws_X10_in wz_RX10_166 (rm_X10_isAsked_X10_in) (Nat.le_of_ble_eq_true rfl) dX10_isAsked_3 (fun x5 h4 => (?_)))))
  refine z_if_eq (pc := 6) (tgt := 27) dX10_isAsked_6 (by decide) ?_ ?_
  · refine z_iconst (pc := 27) dX10_isAsked_27 ic_0 (?_)
    exact z_iret (pc := 28) dX10_isAsked_28 rfl rfl
  · refine z_iload_n (pc := 9) dX10_isAsked_9 rfl 1 rfl (z_callS_I (pc := 10) (avs := [vi x2]) (st := []) rfl (t_X10_isDay F x2 h4) ky_X10_isDay ws_X10_isDay wz_RX10_240 (rm_X10_isAsked_X10_isDay) (Nat.le_of_ble_eq_true rfl) dX10_isAsked_10 (fun x7 h6 => (?_)))
    refine z_if_eq (pc := 13) (tgt := 27) dX10_isAsked_13 (by decide) ?_ ?_
    · refine z_iconst (pc := 27) dX10_isAsked_27 ic_0 (?_)
      exact z_iret (pc := 28) dX10_isAsked_28 rfl rfl
    · refine z_iload_n (pc := 16) dX10_isAsked_16 rfl 2 rfl (z_callS_I (pc := 17) (avs := [vi x3]) (st := []) rfl (t_X10_isDay F x3 h6) ky_X10_isDay ws_X10_isDay wz_RX10_240 (rm_X10_isAsked_X10_isDay) (Nat.le_of_ble_eq_true rfl) dX10_isAsked_17 (fun x9 h8 => (?_)))
      refine z_if_eq (pc := 20) (tgt := 27) dX10_isAsked_20 (by decide) ?_ ?_
      · refine z_iconst (pc := 27) dX10_isAsked_27 ic_0 (?_)
        exact z_iret (pc := 28) dX10_isAsked_28 rfl rfl
      · refine z_iconst (pc := 23) dX10_isAsked_23 ic_1 (z_goto (pc := 24) (tgt := 28) dX10_isAsked_24 (by decide) (?_))
        exact z_iret (pc := 28) dX10_isAsked_28 rfl rfl
theorem dX10_force_0 : decode cX10_force 0 = .ok (.iload_n 1, 1) := by decide +kernel
theorem dX10_force_1 : decode cX10_force 1 = .ok (.iload_n 2, 1) := by decide +kernel
theorem dX10_force_2 : decode cX10_force 2 = .ok (.iload_n 3, 1) := by decide +kernel
theorem dX10_force_3 : decode cX10_force 3 = .ok (.invokestatic 253, 3) := by decide +kernel
theorem dX10_force_6 : decode cX10_force 6 = .ok (.ifCond .eq 13, 3) := by decide +kernel
theorem dX10_force_9 : decode cX10_force 9 = .ok (.aload_n 0, 1) := by decide +kernel
theorem dX10_force_10 : decode cX10_force 10 = .ok (.iload_n 1, 1) := by decide +kernel
theorem dX10_force_11 : decode cX10_force 11 = .ok (.iload_n 2, 1) := by decide +kernel
theorem dX10_force_12 : decode cX10_force 12 = .ok (.iload_n 3, 1) := by decide +kernel
theorem dX10_force_13 : decode cX10_force 13 = .ok (.invokevirtual 250, 3) := by decide +kernel
theorem dX10_force_16 : decode cX10_force 16 = .ok (.goto 4, 3) := by decide +kernel
theorem dX10_force_19 : decode cX10_force 19 = .ok (.iconst (-1), 1) := by decide +kernel
theorem dX10_force_20 : decode cX10_force 20 = .ok (.ireturn, 1) := by decide +kernel
def c_X10_force (F : Nat) (a0 : Nat) (x1 : Int32) (x2 : Int32) (x3 : Int32) (h0 : z_Hp) : Option (Int32 × z_Hp) := (bI (c_X10_isAsked F x1 x2 x3 h0) (fun x5 h4 => (if x5 = 0 then (some ((-1), h4)) else (if hT h4 a0 = 10 then (bI (c_X10_inForce F a0 x1 x2 x3 h4) (fun x7 h6 => (some (x7, h6)))) else none))))
set_option maxRecDepth 20000 in
set_option maxHeartbeats 4000000 in
theorem t_X10_force (F : Nat) (a0 : Nat) (x1 : Int32) (x2 : Int32) (x3 : Int32) (h0 : z_Hp) : z_Ct zi mi_X10_force [vr (some a0), vi x1, vi x2, vi x3] h0 (c_X10_force F a0 x1 x2 x3 h0) := by
  refine z_entry (by decide) (Nat.le_of_ble_eq_true rfl) [(0, vr (some a0)), (1, vi x1), (2, vi x2), (3, vi x3)] rfl ?_
  unfold c_X10_force
  refine z_iload_n (pc := 0) dX10_force_0 rfl 1 rfl (z_iload_n (pc := 1) dX10_force_1 rfl 2 rfl (z_iload_n (pc := 2) dX10_force_2 rfl 3 rfl (z_callS_I (pc := 3) (avs := [vi x1, vi x2, vi x3]) (st := []) rfl (t_X10_isAsked F x1 x2 x3 h0) ky_X10_isAsked ws_X10_isAsked wz_RX10_253 (rm_X10_force_X10_isAsked) (Nat.le_of_ble_eq_true rfl) dX10_force_3 (fun x5 h4 => (?_)))))
  refine z_if_eq (pc := 6) (tgt := 19) dX10_force_6 (by decide) ?_ ?_
  · refine z_iconst (pc := 19) dX10_force_19 ic_m1 (?_)
    exact z_iret (pc := 20) dX10_force_20 rfl rfl
  · refine z_aload_n (pc := 9) dX10_force_9 rfl 0 rfl (z_iload_n (pc := 10) dX10_force_10 rfl 1 rfl (z_iload_n (pc := 11) dX10_force_11 rfl 2 rfl (z_iload_n (pc := 12) dX10_force_12 rfl 3 rfl (z_callV_I (pc := 13) (avs := [vi x1, vi x2, vi x3]) (st := []) rfl (q := (RX10, TX10, 62)) rfl rfl (t_X10_inForce F a0 x1 x2 x3 h4) ky_X10_inForce wm_X10_inForce we_X10_inForce wz_RX10_250 (rm_X10_force_X10_inForce) (Nat.le_of_ble_eq_true rfl) dX10_force_13 (fun x7 h6 => (?_))))))
    refine z_goto (pc := 16) (tgt := 20) dX10_force_16 (by decide) (?_)
    exact z_iret (pc := 20) dX10_force_20 rfl rfl
theorem dX10_why_0 : decode cX10_why 0 = .ok (.iload_n 1, 1) := by decide +kernel
theorem dX10_why_1 : decode cX10_why 1 = .ok (.iload_n 2, 1) := by decide +kernel
theorem dX10_why_2 : decode cX10_why 2 = .ok (.iload_n 3, 1) := by decide +kernel
theorem dX10_why_3 : decode cX10_why 3 = .ok (.invokestatic 253, 3) := by decide +kernel
theorem dX10_why_6 : decode cX10_why 6 = .ok (.ifCond .eq 13, 3) := by decide +kernel
theorem dX10_why_9 : decode cX10_why 9 = .ok (.aload_n 0, 1) := by decide +kernel
theorem dX10_why_10 : decode cX10_why 10 = .ok (.iload_n 1, 1) := by decide +kernel
theorem dX10_why_11 : decode cX10_why 11 = .ok (.iload_n 2, 1) := by decide +kernel
theorem dX10_why_12 : decode cX10_why 12 = .ok (.iload_n 3, 1) := by decide +kernel
theorem dX10_why_13 : decode cX10_why 13 = .ok (.invokevirtual 246, 3) := by decide +kernel
theorem dX10_why_16 : decode cX10_why 16 = .ok (.goto 4, 3) := by decide +kernel
theorem dX10_why_19 : decode cX10_why 19 = .ok (.iconst (-1), 1) := by decide +kernel
theorem dX10_why_20 : decode cX10_why 20 = .ok (.ireturn, 1) := by decide +kernel
def c_X10_why (F : Nat) (a0 : Nat) (x1 : Int32) (x2 : Int32) (x3 : Int32) (h0 : z_Hp) : Option (Int32 × z_Hp) := (bI (c_X10_isAsked F x1 x2 x3 h0) (fun x5 h4 => (if x5 = 0 then (some ((-1), h4)) else (if hT h4 a0 = 10 then (bI (c_X10_ruleFor F a0 x1 x2 x3 h4) (fun x7 h6 => (some (x7, h6)))) else none))))
set_option maxRecDepth 20000 in
set_option maxHeartbeats 4000000 in
theorem t_X10_why (F : Nat) (a0 : Nat) (x1 : Int32) (x2 : Int32) (x3 : Int32) (h0 : z_Hp) : z_Ct zi mi_X10_why [vr (some a0), vi x1, vi x2, vi x3] h0 (c_X10_why F a0 x1 x2 x3 h0) := by
  refine z_entry (by decide) (Nat.le_of_ble_eq_true rfl) [(0, vr (some a0)), (1, vi x1), (2, vi x2), (3, vi x3)] rfl ?_
  unfold c_X10_why
  refine z_iload_n (pc := 0) dX10_why_0 rfl 1 rfl (z_iload_n (pc := 1) dX10_why_1 rfl 2 rfl (z_iload_n (pc := 2) dX10_why_2 rfl 3 rfl (z_callS_I (pc := 3) (avs := [vi x1, vi x2, vi x3]) (st := []) rfl (t_X10_isAsked F x1 x2 x3 h0) ky_X10_isAsked ws_X10_isAsked wz_RX10_253 (rm_X10_why_X10_isAsked) (Nat.le_of_ble_eq_true rfl) dX10_why_3 (fun x5 h4 => (?_)))))
  refine z_if_eq (pc := 6) (tgt := 19) dX10_why_6 (by decide) ?_ ?_
  · refine z_iconst (pc := 19) dX10_why_19 ic_m1 (?_)
    exact z_iret (pc := 20) dX10_why_20 rfl rfl
  · refine z_aload_n (pc := 9) dX10_why_9 rfl 0 rfl (z_iload_n (pc := 10) dX10_why_10 rfl 1 rfl (z_iload_n (pc := 11) dX10_why_11 rfl 2 rfl (z_iload_n (pc := 12) dX10_why_12 rfl 3 rfl (z_callV_I (pc := 13) (avs := [vi x1, vi x2, vi x3]) (st := []) rfl (q := (RX10, TX10, 62)) rfl rfl (t_X10_ruleFor F a0 x1 x2 x3 h4) ky_X10_ruleFor wm_X10_ruleFor we_X10_ruleFor wz_RX10_246 (rm_X10_why_X10_ruleFor) (Nat.le_of_ble_eq_true rfl) dX10_why_13 (fun x7 h6 => (?_))))))
    refine z_goto (pc := 16) (tgt := 20) dX10_why_16 (by decide) (?_)
    exact z_iret (pc := 20) dX10_why_20 rfl rfl
theorem dX10_isPrinter_0 : decode cX10_isPrinter 0 = .ok (.iload_n 0, 1) := by decide +kernel
theorem dX10_isPrinter_1 : decode cX10_isPrinter 1 = .ok (.iconst 0, 1) := by decide +kernel
theorem dX10_isPrinter_2 : decode cX10_isPrinter 2 = .ok (.bipush 7, 2) := by decide +kernel
theorem dX10_isPrinter_4 : decode cX10_isPrinter 4 = .ok (.invokestatic 166, 3) := by decide +kernel
theorem dX10_isPrinter_7 : decode cX10_isPrinter 7 = .ok (.ireturn, 1) := by decide +kernel
def c_X10_isPrinter (F : Nat) (x1 : Int32) (h0 : z_Hp) : Option (Int32 × z_Hp) := (bI (c_X10_in F x1 0 7 h0) (fun x3 h2 => (if x3 = 0 ∨ x3 = 1 then some (x3, h2) else none)))
set_option maxRecDepth 20000 in
set_option maxHeartbeats 4000000 in
theorem t_X10_isPrinter (F : Nat) (x1 : Int32) (h0 : z_Hp) : z_Ct zi mi_X10_isPrinter [vi x1] h0 (c_X10_isPrinter F x1 h0) := by
  refine z_entry (by decide) (Nat.le_of_ble_eq_true rfl) [(0, vi x1)] rfl ?_
  unfold c_X10_isPrinter
  refine z_iload_n (pc := 0) dX10_isPrinter_0 rfl 0 rfl (z_iconst (pc := 1) dX10_isPrinter_1 ic_0 (z_bipush (pc := 2) dX10_isPrinter_2 bp_7 (z_callS_I (pc := 4) (avs := [vi x1, vi 0, vi 7]) (st := []) rfl (t_X10_in F x1 0 7 h0) ky_X10_in ws_X10_in wz_RX10_166 (rm_X10_isPrinter_X10_in) (Nat.le_of_ble_eq_true rfl) dX10_isPrinter_4 (fun x3 h2 => (?_)))))
  exact z_zret (pc := 7) dX10_isPrinter_7 rfl
theorem dX10_isYear_0 : decode cX10_isYear 0 = .ok (.iload_n 0, 1) := by decide +kernel
theorem dX10_isYear_1 : decode cX10_isYear 1 = .ok (.sipush 1500, 3) := by decide +kernel
theorem dX10_isYear_4 : decode cX10_isYear 4 = .ok (.sipush 1899, 3) := by decide +kernel
theorem dX10_isYear_7 : decode cX10_isYear 7 = .ok (.invokestatic 166, 3) := by decide +kernel
theorem dX10_isYear_10 : decode cX10_isYear 10 = .ok (.ireturn, 1) := by decide +kernel
def c_X10_isYear (F : Nat) (x1 : Int32) (h0 : z_Hp) : Option (Int32 × z_Hp) := (bI (c_X10_in F x1 1500 1899 h0) (fun x3 h2 => (if x3 = 0 ∨ x3 = 1 then some (x3, h2) else none)))
set_option maxRecDepth 20000 in
set_option maxHeartbeats 4000000 in
theorem t_X10_isYear (F : Nat) (x1 : Int32) (h0 : z_Hp) : z_Ct zi mi_X10_isYear [vi x1] h0 (c_X10_isYear F x1 h0) := by
  refine z_entry (by decide) (Nat.le_of_ble_eq_true rfl) [(0, vi x1)] rfl ?_
  unfold c_X10_isYear
  refine z_iload_n (pc := 0) dX10_isYear_0 rfl 0 rfl (z_sipush (pc := 1) dX10_isYear_1 sp_1500 (z_sipush (pc := 4) dX10_isYear_4 sp_1899 (z_callS_I (pc := 7) (avs := [vi x1, vi 1500, vi 1899]) (st := []) rfl (t_X10_in F x1 1500 1899 h0) ky_X10_in ws_X10_in wz_RX10_166 (rm_X10_isYear_X10_in) (Nat.le_of_ble_eq_true rfl) dX10_isYear_7 (fun x3 h2 => (?_)))))
  exact z_zret (pc := 10) dX10_isYear_10 rfl
theorem dX10_printer_0 : decode cX10_printer 0 = .ok (.iload_n 1, 1) := by decide +kernel
theorem dX10_printer_1 : decode cX10_printer 1 = .ok (.invokestatic 256, 3) := by decide +kernel
theorem dX10_printer_4 : decode cX10_printer 4 = .ok (.ifCond .eq 21, 3) := by decide +kernel
theorem dX10_printer_7 : decode cX10_printer 7 = .ok (.iload_n 2, 1) := by decide +kernel
theorem dX10_printer_8 : decode cX10_printer 8 = .ok (.invokestatic 259, 3) := by decide +kernel
theorem dX10_printer_11 : decode cX10_printer 11 = .ok (.ifCond .eq 14, 3) := by decide +kernel
theorem dX10_printer_14 : decode cX10_printer 14 = .ok (.iload_n 3, 1) := by decide +kernel
theorem dX10_printer_15 : decode cX10_printer 15 = .ok (.iload_n 2, 1) := by decide +kernel
theorem dX10_printer_16 : decode cX10_printer 16 = .ok (.sipush 1899, 3) := by decide +kernel
theorem dX10_printer_19 : decode cX10_printer 19 = .ok (.invokestatic 166, 3) := by decide +kernel
theorem dX10_printer_22 : decode cX10_printer 22 = .ok (.ifCond .ne 5, 3) := by decide +kernel
theorem dX10_printer_25 : decode cX10_printer 25 = .ok (.iconst (-1), 1) := by decide +kernel
theorem dX10_printer_26 : decode cX10_printer 26 = .ok (.ireturn, 1) := by decide +kernel
theorem dX10_printer_27 : decode cX10_printer 27 = .ok (.aload_n 0, 1) := by decide +kernel
theorem dX10_printer_28 : decode cX10_printer 28 = .ok (.getfield 62, 3) := by decide +kernel
theorem dX10_printer_31 : decode cX10_printer 31 = .ok (.iload_n 1, 1) := by decide +kernel
theorem dX10_printer_32 : decode cX10_printer 32 = .ok (.iload_n 2, 1) := by decide +kernel
theorem dX10_printer_33 : decode cX10_printer 33 = .ok (.iastore, 1) := by decide +kernel
theorem dX10_printer_34 : decode cX10_printer 34 = .ok (.aload_n 0, 1) := by decide +kernel
theorem dX10_printer_35 : decode cX10_printer 35 = .ok (.getfield 65, 3) := by decide +kernel
theorem dX10_printer_38 : decode cX10_printer 38 = .ok (.iload_n 1, 1) := by decide +kernel
theorem dX10_printer_39 : decode cX10_printer 39 = .ok (.iload_n 3, 1) := by decide +kernel
theorem dX10_printer_40 : decode cX10_printer 40 = .ok (.iastore, 1) := by decide +kernel
theorem dX10_printer_41 : decode cX10_printer 41 = .ok (.iconst 1, 1) := by decide +kernel
theorem dX10_printer_42 : decode cX10_printer 42 = .ok (.ireturn, 1) := by decide +kernel
def c_X10_printer (F : Nat) (a0 : Nat) (x1 : Int32) (x2 : Int32) (x3 : Int32) (h0 : z_Hp) : Option (Int32 × z_Hp) := (bI (c_X10_isPrinter F x1 h0) (fun x5 h4 => (if x5 = 0 then (some ((-1), h4)) else (bI (c_X10_isYear F x2 h4) (fun x7 h6 => (if x7 = 0 then (some ((-1), h6)) else (bI (c_X10_in F x3 x2 1899 h6) (fun x9 h8 => (if x9 = 0 then (some ((-1), h8)) else (if hT h8 a0 = 10 then (lt_ (hR h8 a0 24) (fun o10 => (nn o10 (fun a11 => (if okA h8 a11 20 x1 = true then (lt_ (sI h8 a11 (ix x1) x2) (fun h12 => (if hT h12 a0 = 10 then (lt_ (hR h12 a0 25) (fun o13 => (nn o13 (fun a14 => (if okA h12 a14 20 x1 = true then (lt_ (sI h12 a14 (ix x1) x3) (fun h15 => (some (1, h15)))) else none))))) else none))) else none))))) else none))))))))))
set_option maxRecDepth 20000 in
set_option maxHeartbeats 4000000 in
theorem t_X10_printer (F : Nat) (a0 : Nat) (x1 : Int32) (x2 : Int32) (x3 : Int32) (h0 : z_Hp) : z_Ct zi mi_X10_printer [vr (some a0), vi x1, vi x2, vi x3] h0 (c_X10_printer F a0 x1 x2 x3 h0) := by
  refine z_entry (by decide) (Nat.le_of_ble_eq_true rfl) [(0, vr (some a0)), (1, vi x1), (2, vi x2), (3, vi x3)] rfl ?_
  unfold c_X10_printer
  refine z_iload_n (pc := 0) dX10_printer_0 rfl 1 rfl (z_callS_I (pc := 1) (avs := [vi x1]) (st := []) rfl (t_X10_isPrinter F x1 h0) ky_X10_isPrinter ws_X10_isPrinter wz_RX10_256 (rm_X10_printer_X10_isPrinter) (Nat.le_of_ble_eq_true rfl) dX10_printer_1 (fun x5 h4 => (?_)))
  refine z_if_eq (pc := 4) (tgt := 25) dX10_printer_4 (by decide) ?_ ?_
  · refine z_iconst (pc := 25) dX10_printer_25 ic_m1 (?_)
    exact z_iret (pc := 26) dX10_printer_26 rfl rfl
  · refine z_iload_n (pc := 7) dX10_printer_7 rfl 2 rfl (z_callS_I (pc := 8) (avs := [vi x2]) (st := []) rfl (t_X10_isYear F x2 h4) ky_X10_isYear ws_X10_isYear wz_RX10_259 (rm_X10_printer_X10_isYear) (Nat.le_of_ble_eq_true rfl) dX10_printer_8 (fun x7 h6 => (?_)))
    refine z_if_eq (pc := 11) (tgt := 25) dX10_printer_11 (by decide) ?_ ?_
    · refine z_iconst (pc := 25) dX10_printer_25 ic_m1 (?_)
      exact z_iret (pc := 26) dX10_printer_26 rfl rfl
    · refine z_iload_n (pc := 14) dX10_printer_14 rfl 3 rfl (z_iload_n (pc := 15) dX10_printer_15 rfl 2 rfl (z_sipush (pc := 16) dX10_printer_16 sp_1899 (z_callS_I (pc := 19) (avs := [vi x3, vi x2, vi 1899]) (st := []) rfl (t_X10_in F x3 x2 1899 h6) ky_X10_in ws_X10_in wz_RX10_166 (rm_X10_printer_X10_in) (Nat.le_of_ble_eq_true rfl) dX10_printer_19 (fun x9 h8 => (?_)))))
      refine z_if_ne (pc := 22) (tgt := 27) dX10_printer_22 (by decide) ?_ ?_
      · refine z_aload_n (pc := 27) dX10_printer_27 rfl 0 rfl (z_getRl (pc := 28) fl_RX10_62 rfl dX10_printer_28 (fun o10 => (z_iload_n (pc := 31) dX10_printer_31 rfl 1 rfl (z_iload_n (pc := 32) dX10_printer_32 rfl 2 rfl (?_)))))
        refine z_nn (fun a11 ea11 => ?_)
        subst ea11
        refine z_iastorel (pc := 33) dX10_printer_33 (fun h12 => (z_aload_n (pc := 34) dX10_printer_34 rfl 0 rfl (z_getRl (pc := 35) fl_RX10_65 rfl dX10_printer_35 (fun o13 => (z_iload_n (pc := 38) dX10_printer_38 rfl 1 rfl (z_iload_n (pc := 39) dX10_printer_39 rfl 3 rfl (?_)))))))
        refine z_nn (fun a14 ea14 => ?_)
        subst ea14
        refine z_iastorel (pc := 40) dX10_printer_40 (fun h15 => (z_iconst (pc := 41) dX10_printer_41 ic_1 (?_)))
        exact z_iret (pc := 42) dX10_printer_42 rfl rfl
      · refine z_iconst (pc := 25) dX10_printer_25 ic_m1 (?_)
        exact z_iret (pc := 26) dX10_printer_26 rfl rfl
theorem dX10_sheet_0 : decode cX10_sheet 0 = .ok (.iload_n 1, 1) := by decide +kernel
theorem dX10_sheet_1 : decode cX10_sheet 1 = .ok (.iconst 0, 1) := by decide +kernel
theorem dX10_sheet_2 : decode cX10_sheet 2 = .ok (.bipush 6, 2) := by decide +kernel
theorem dX10_sheet_4 : decode cX10_sheet 4 = .ok (.invokestatic 166, 3) := by decide +kernel
theorem dX10_sheet_7 : decode cX10_sheet 7 = .ok (.ifCond .eq 36, 3) := by decide +kernel
theorem dX10_sheet_10 : decode cX10_sheet 10 = .ok (.iload_n 2, 1) := by decide +kernel
theorem dX10_sheet_11 : decode cX10_sheet 11 = .ok (.bipush (-9), 2) := by decide +kernel
theorem dX10_sheet_13 : decode cX10_sheet 13 = .ok (.if_icmp .eq 10, 3) := by decide +kernel
theorem dX10_sheet_16 : decode cX10_sheet 16 = .ok (.iload_n 2, 1) := by decide +kernel
theorem dX10_sheet_17 : decode cX10_sheet 17 = .ok (.invokestatic 256, 3) := by decide +kernel
theorem dX10_sheet_20 : decode cX10_sheet 20 = .ok (.ifCond .eq 23, 3) := by decide +kernel
theorem dX10_sheet_23 : decode cX10_sheet 23 = .ok (.iload_n 3, 1) := by decide +kernel
theorem dX10_sheet_24 : decode cX10_sheet 24 = .ok (.invokestatic 194, 3) := by decide +kernel
theorem dX10_sheet_27 : decode cX10_sheet 27 = .ok (.ifCond .eq 16, 3) := by decide +kernel
theorem dX10_sheet_30 : decode cX10_sheet 30 = .ok (.iload_n 1, 1) := by decide +kernel
theorem dX10_sheet_31 : decode cX10_sheet 31 = .ok (.iconst 2, 1) := by decide +kernel
theorem dX10_sheet_32 : decode cX10_sheet 32 = .ok (.if_icmp .ne 13, 3) := by decide +kernel
theorem dX10_sheet_35 : decode cX10_sheet 35 = .ok (.iload 4, 2) := by decide +kernel
theorem dX10_sheet_37 : decode cX10_sheet 37 = .ok (.invokestatic 170, 3) := by decide +kernel
theorem dX10_sheet_40 : decode cX10_sheet 40 = .ok (.ifCond .ne 5, 3) := by decide +kernel
theorem dX10_sheet_43 : decode cX10_sheet 43 = .ok (.iconst (-1), 1) := by decide +kernel
theorem dX10_sheet_44 : decode cX10_sheet 44 = .ok (.ireturn, 1) := by decide +kernel
theorem dX10_sheet_45 : decode cX10_sheet 45 = .ok (.aload_n 0, 1) := by decide +kernel
theorem dX10_sheet_46 : decode cX10_sheet 46 = .ok (.getfield 262, 3) := by decide +kernel
theorem dX10_sheet_49 : decode cX10_sheet 49 = .ok (.bipush 20, 2) := by decide +kernel
theorem dX10_sheet_51 : decode cX10_sheet 51 = .ok (.if_icmp .ne 6, 3) := by decide +kernel
theorem dX10_sheet_54 : decode cX10_sheet 54 = .ok (.bipush (-2), 2) := by decide +kernel
theorem dX10_sheet_56 : decode cX10_sheet 56 = .ok (.ireturn, 1) := by decide +kernel
theorem dX10_sheet_57 : decode cX10_sheet 57 = .ok (.iload_n 1, 1) := by decide +kernel
theorem dX10_sheet_58 : decode cX10_sheet 58 = .ok (.iconst 2, 1) := by decide +kernel
theorem dX10_sheet_59 : decode cX10_sheet 59 = .ok (.if_icmp .ne 19, 3) := by decide +kernel
theorem dX10_sheet_62 : decode cX10_sheet 62 = .ok (.aload_n 0, 1) := by decide +kernel
theorem dX10_sheet_63 : decode cX10_sheet 63 = .ok (.getfield 17, 3) := by decide +kernel
theorem dX10_sheet_66 : decode cX10_sheet 66 = .ok (.iload 4, 2) := by decide +kernel
theorem dX10_sheet_68 : decode cX10_sheet 68 = .ok (.iaload, 1) := by decide +kernel
theorem dX10_sheet_69 : decode cX10_sheet 69 = .ok (.ifCond .ge 9, 3) := by decide +kernel
theorem dX10_sheet_72 : decode cX10_sheet 72 = .ok (.aload_n 0, 1) := by decide +kernel
theorem dX10_sheet_73 : decode cX10_sheet 73 = .ok (.iconst 1, 1) := by decide +kernel
theorem dX10_sheet_74 : decode cX10_sheet 74 = .ok (.invokevirtual 174, 3) := by decide +kernel
theorem dX10_sheet_77 : decode cX10_sheet 77 = .ok (.ireturn, 1) := by decide +kernel
theorem dX10_sheet_78 : decode cX10_sheet 78 = .ok (.aload_n 0, 1) := by decide +kernel
theorem dX10_sheet_79 : decode cX10_sheet 79 = .ok (.getfield 262, 3) := by decide +kernel
theorem dX10_sheet_82 : decode cX10_sheet 82 = .ok (.istore 5, 2) := by decide +kernel
theorem dX10_sheet_84 : decode cX10_sheet 84 = .ok (.aload_n 0, 1) := by decide +kernel
theorem dX10_sheet_85 : decode cX10_sheet 85 = .ok (.getfield 68, 3) := by decide +kernel
theorem dX10_sheet_88 : decode cX10_sheet 88 = .ok (.iload 5, 2) := by decide +kernel
theorem dX10_sheet_90 : decode cX10_sheet 90 = .ok (.iload_n 1, 1) := by decide +kernel
theorem dX10_sheet_91 : decode cX10_sheet 91 = .ok (.iastore, 1) := by decide +kernel
theorem dX10_sheet_92 : decode cX10_sheet 92 = .ok (.aload_n 0, 1) := by decide +kernel
theorem dX10_sheet_93 : decode cX10_sheet 93 = .ok (.getfield 71, 3) := by decide +kernel
theorem dX10_sheet_96 : decode cX10_sheet 96 = .ok (.iload 5, 2) := by decide +kernel
theorem dX10_sheet_98 : decode cX10_sheet 98 = .ok (.iload_n 2, 1) := by decide +kernel
theorem dX10_sheet_99 : decode cX10_sheet 99 = .ok (.iastore, 1) := by decide +kernel
theorem dX10_sheet_100 : decode cX10_sheet 100 = .ok (.aload_n 0, 1) := by decide +kernel
theorem dX10_sheet_101 : decode cX10_sheet 101 = .ok (.getfield 74, 3) := by decide +kernel
theorem dX10_sheet_104 : decode cX10_sheet 104 = .ok (.iload 5, 2) := by decide +kernel
theorem dX10_sheet_106 : decode cX10_sheet 106 = .ok (.iload_n 3, 1) := by decide +kernel
theorem dX10_sheet_107 : decode cX10_sheet 107 = .ok (.iastore, 1) := by decide +kernel
theorem dX10_sheet_108 : decode cX10_sheet 108 = .ok (.aload_n 0, 1) := by decide +kernel
theorem dX10_sheet_109 : decode cX10_sheet 109 = .ok (.getfield 77, 3) := by decide +kernel
theorem dX10_sheet_112 : decode cX10_sheet 112 = .ok (.iload 5, 2) := by decide +kernel
theorem dX10_sheet_114 : decode cX10_sheet 114 = .ok (.bipush (-9), 2) := by decide +kernel
theorem dX10_sheet_116 : decode cX10_sheet 116 = .ok (.iastore, 1) := by decide +kernel
theorem dX10_sheet_117 : decode cX10_sheet 117 = .ok (.aload_n 0, 1) := by decide +kernel
theorem dX10_sheet_118 : decode cX10_sheet 118 = .ok (.getfield 89, 3) := by decide +kernel
theorem dX10_sheet_121 : decode cX10_sheet 121 = .ok (.iload 5, 2) := by decide +kernel
theorem dX10_sheet_123 : decode cX10_sheet 123 = .ok (.bipush (-9), 2) := by decide +kernel
theorem dX10_sheet_125 : decode cX10_sheet 125 = .ok (.iastore, 1) := by decide +kernel
theorem dX10_sheet_126 : decode cX10_sheet 126 = .ok (.aload_n 0, 1) := by decide +kernel
theorem dX10_sheet_127 : decode cX10_sheet 127 = .ok (.getfield 92, 3) := by decide +kernel
theorem dX10_sheet_130 : decode cX10_sheet 130 = .ok (.iload 5, 2) := by decide +kernel
theorem dX10_sheet_132 : decode cX10_sheet 132 = .ok (.bipush (-9), 2) := by decide +kernel
theorem dX10_sheet_134 : decode cX10_sheet 134 = .ok (.iastore, 1) := by decide +kernel
theorem dX10_sheet_135 : decode cX10_sheet 135 = .ok (.aload_n 0, 1) := by decide +kernel
theorem dX10_sheet_136 : decode cX10_sheet 136 = .ok (.getfield 95, 3) := by decide +kernel
theorem dX10_sheet_139 : decode cX10_sheet 139 = .ok (.iload 5, 2) := by decide +kernel
theorem dX10_sheet_141 : decode cX10_sheet 141 = .ok (.aload_n 0, 1) := by decide +kernel
theorem dX10_sheet_142 : decode cX10_sheet 142 = .ok (.getfield 191, 3) := by decide +kernel
theorem dX10_sheet_145 : decode cX10_sheet 145 = .ok (.iastore, 1) := by decide +kernel
theorem dX10_sheet_146 : decode cX10_sheet 146 = .ok (.aload_n 0, 1) := by decide +kernel
theorem dX10_sheet_147 : decode cX10_sheet 147 = .ok (.getfield 98, 3) := by decide +kernel
theorem dX10_sheet_150 : decode cX10_sheet 150 = .ok (.iload 5, 2) := by decide +kernel
theorem dX10_sheet_152 : decode cX10_sheet 152 = .ok (.iload_n 1, 1) := by decide +kernel
theorem dX10_sheet_153 : decode cX10_sheet 153 = .ok (.iconst 2, 1) := by decide +kernel
theorem dX10_sheet_154 : decode cX10_sheet 154 = .ok (.if_icmp .ne 13, 3) := by decide +kernel
theorem dX10_sheet_157 : decode cX10_sheet 157 = .ok (.aload_n 0, 1) := by decide +kernel
theorem dX10_sheet_158 : decode cX10_sheet 158 = .ok (.getfield 17, 3) := by decide +kernel
theorem dX10_sheet_161 : decode cX10_sheet 161 = .ok (.iload 4, 2) := by decide +kernel
theorem dX10_sheet_163 : decode cX10_sheet 163 = .ok (.iaload, 1) := by decide +kernel
theorem dX10_sheet_164 : decode cX10_sheet 164 = .ok (.goto 4, 3) := by decide +kernel
theorem dX10_sheet_167 : decode cX10_sheet 167 = .ok (.iconst 0, 1) := by decide +kernel
theorem dX10_sheet_168 : decode cX10_sheet 168 = .ok (.iastore, 1) := by decide +kernel
theorem dX10_sheet_169 : decode cX10_sheet 169 = .ok (.iconst 0, 1) := by decide +kernel
theorem dX10_sheet_170 : decode cX10_sheet 170 = .ok (.istore 6, 2) := by decide +kernel
theorem dX10_sheet_172 : decode cX10_sheet 172 = .ok (.iload 6, 2) := by decide +kernel
theorem dX10_sheet_174 : decode cX10_sheet 174 = .ok (.aload_n 0, 1) := by decide +kernel
theorem dX10_sheet_175 : decode cX10_sheet 175 = .ok (.getfield 98, 3) := by decide +kernel
theorem dX10_sheet_178 : decode cX10_sheet 178 = .ok (.iload 5, 2) := by decide +kernel
theorem dX10_sheet_180 : decode cX10_sheet 180 = .ok (.iaload, 1) := by decide +kernel
theorem dX10_sheet_181 : decode cX10_sheet 181 = .ok (.if_icmp .ge 35, 3) := by decide +kernel
theorem dX10_sheet_184 : decode cX10_sheet 184 = .ok (.aload_n 0, 1) := by decide +kernel
theorem dX10_sheet_185 : decode cX10_sheet 185 = .ok (.getfield 101, 3) := by decide +kernel
theorem dX10_sheet_188 : decode cX10_sheet 188 = .ok (.bipush 40, 2) := by decide +kernel
theorem dX10_sheet_190 : decode cX10_sheet 190 = .ok (.iload 5, 2) := by decide +kernel
theorem dX10_sheet_192 : decode cX10_sheet 192 = .ok (.imul, 1) := by decide +kernel
theorem dX10_sheet_193 : decode cX10_sheet 193 = .ok (.iload 6, 2) := by decide +kernel
theorem dX10_sheet_195 : decode cX10_sheet 195 = .ok (.iadd, 1) := by decide +kernel
theorem dX10_sheet_196 : decode cX10_sheet 196 = .ok (.aload_n 0, 1) := by decide +kernel
theorem dX10_sheet_197 : decode cX10_sheet 197 = .ok (.getfield 20, 3) := by decide +kernel
theorem dX10_sheet_200 : decode cX10_sheet 200 = .ok (.bipush 40, 2) := by decide +kernel
theorem dX10_sheet_202 : decode cX10_sheet 202 = .ok (.iload 4, 2) := by decide +kernel
theorem dX10_sheet_204 : decode cX10_sheet 204 = .ok (.imul, 1) := by decide +kernel
theorem dX10_sheet_205 : decode cX10_sheet 205 = .ok (.iload 6, 2) := by decide +kernel
theorem dX10_sheet_207 : decode cX10_sheet 207 = .ok (.iadd, 1) := by decide +kernel
theorem dX10_sheet_208 : decode cX10_sheet 208 = .ok (.iaload, 1) := by decide +kernel
theorem dX10_sheet_209 : decode cX10_sheet 209 = .ok (.iastore, 1) := by decide +kernel
theorem dX10_sheet_210 : decode cX10_sheet 210 = .ok (.iinc 6 1, 3) := by decide +kernel
theorem dX10_sheet_213 : decode cX10_sheet 213 = .ok (.goto (-41), 3) := by decide +kernel
theorem dX10_sheet_216 : decode cX10_sheet 216 = .ok (.aload_n 0, 1) := by decide +kernel
theorem dX10_sheet_217 : decode cX10_sheet 217 = .ok (.dup, 1) := by decide +kernel
theorem dX10_sheet_218 : decode cX10_sheet 218 = .ok (.getfield 262, 3) := by decide +kernel
theorem dX10_sheet_221 : decode cX10_sheet 221 = .ok (.iconst 1, 1) := by decide +kernel
theorem dX10_sheet_222 : decode cX10_sheet 222 = .ok (.iadd, 1) := by decide +kernel
theorem dX10_sheet_223 : decode cX10_sheet 223 = .ok (.putfield 262, 3) := by decide +kernel
theorem dX10_sheet_226 : decode cX10_sheet 226 = .ok (.iload 5, 2) := by decide +kernel
theorem dX10_sheet_228 : decode cX10_sheet 228 = .ok (.ireturn, 1) := by decide +kernel
def c_X10_sheet_L172 (F : Nat) (a43 : Nat) (x44 : Int32) (x45 : Int32) : Nat → Int32 → z_Hp → Option (Int32 × z_Hp)
  | 0, _, _ => none
  | n + 1, x46, h47 => (if hT h47 a43 = 10 then (lt_ (hR h47 a43 37) (fun o48 => (nn o48 (fun a49 => (if okA h47 a49 20 x45 = true then (if (hI h47 a49 (ix x45)) ≤ x46 then (if hT h47 a43 = 10 then (if hT h47 a43 = 10 then (lt_ (sI h47 a43 26 ((hI h47 a43 26) + 1)) (fun h50 => (some (x45, h50)))) else none) else none) else (if hT h47 a43 = 10 then (lt_ (hR h47 a43 38) (fun o51 => (if hT h47 a43 = 10 then (lt_ (hR h47 a43 8) (fun o52 => (nn o52 (fun a53 => (if okA h47 a53 20 ((40 * x44) + x46) = true then (nn o51 (fun a54 => (if okA h47 a54 20 ((40 * x45) + x46) = true then (lt_ (sI h47 a54 (ix ((40 * x45) + x46)) (hI h47 a53 (ix ((40 * x44) + x46)))) (fun h55 => (lt_ (x46 + 1) (fun x56 => (c_X10_sheet_L172 F a43 x44 x45 n x56 h55))))) else none))) else none))))) else none))) else none)) else none))))) else none)
set_option maxRecDepth 20000 in
def c_X10_sheet (F : Nat) (a0 : Nat) (x1 : Int32) (x2 : Int32) (x3 : Int32) (x4 : Int32) (h0 : z_Hp) : Option (Int32 × z_Hp) := (bI (c_X10_in F x1 0 6 h0) (fun x6 h5 => (if x6 = 0 then (some ((-1), h5)) else (lt_ (fun (h8 : z_Hp) => (bI (c_X10_isSong F x3 h8) (fun x10 h9 => (if x10 = 0 then (some ((-1), h9)) else (lt_ (fun (h12 : z_Hp) => (if hT h12 a0 = 10 then (if (hI h12 a0 26) = 20 then (some ((-2), h12)) else (lt_ (fun (h14 : z_Hp) => (if hT h14 a0 = 10 then (lt_ (hI h14 a0 26) (fun x15 => (if hT h14 a0 = 10 then (lt_ (hR h14 a0 27) (fun o16 => (nn o16 (fun a17 => (if okA h14 a17 20 x15 = true then (lt_ (sI h14 a17 (ix x15) x1) (fun h18 => (if hT h18 a0 = 10 then (lt_ (hR h18 a0 28) (fun o19 => (nn o19 (fun a20 => (if okA h18 a20 20 x15 = true then (lt_ (sI h18 a20 (ix x15) x2) (fun h21 => (if hT h21 a0 = 10 then (lt_ (hR h21 a0 29) (fun o22 => (nn o22 (fun a23 => (if okA h21 a23 20 x15 = true then (lt_ (sI h21 a23 (ix x15) x3) (fun h24 => (if hT h24 a0 = 10 then (lt_ (hR h24 a0 30) (fun o25 => (nn o25 (fun a26 => (if okA h24 a26 20 x15 = true then (lt_ (sI h24 a26 (ix x15) (-9)) (fun h27 => (if hT h27 a0 = 10 then (lt_ (hR h27 a0 34) (fun o28 => (nn o28 (fun a29 => (if okA h27 a29 20 x15 = true then (lt_ (sI h27 a29 (ix x15) (-9)) (fun h30 => (if hT h30 a0 = 10 then (lt_ (hR h30 a0 35) (fun o31 => (nn o31 (fun a32 => (if okA h30 a32 20 x15 = true then (lt_ (sI h30 a32 (ix x15) (-9)) (fun h33 => (if hT h33 a0 = 10 then (lt_ (hR h33 a0 36) (fun o34 => (if hT h33 a0 = 10 then (nn o34 (fun a35 => (if okA h33 a35 20 x15 = true then (lt_ (sI h33 a35 (ix x15) (hI h33 a0 6)) (fun h36 => (if hT h36 a0 = 10 then (lt_ (hR h36 a0 37) (fun o37 => (lt_ (fun (x39 : Int32) (h40 : z_Hp) => (nn o37 (fun a41 => (if okA h40 a41 20 x15 = true then (lt_ (sI h40 a41 (ix x15) x39) (fun h42 => (c_X10_sheet_L172 F a0 x4 x15 F 0 h42))) else none)))) (fun (j168_38 : Int32 → z_Hp → Option (Int32 × z_Hp)) => (if x1 = 2 then (if hT h36 a0 = 10 then (lt_ (hR h36 a0 7) (fun o57 => (nn o57 (fun a58 => (if okA h36 a58 20 x4 = true then (j168_38 (hI h36 a58 (ix x4)) h36) else none))))) else none) else (j168_38 0 h36)))))) else none))) else none))) else none))) else none))) else none))))) else none))) else none))))) else none))) else none))))) else none))) else none))))) else none))) else none))))) else none))) else none))))) else none))) else none)) (fun (j78_13 : z_Hp → Option (Int32 × z_Hp)) => (if x1 = 2 then (if hT h12 a0 = 10 then (lt_ (hR h12 a0 7) (fun o59 => (nn o59 (fun a60 => (if okA h12 a60 20 x4 = true then (if 0 ≤ (hI h12 a60 (ix x4)) then (j78_13 h12) else (if hT h12 a0 = 10 then (bI (c_X10_meets F a0 1 h12) (fun x62 h61 => (some (x62, h61)))) else none)) else none))))) else none) else (j78_13 h12))))) else none)) (fun (j45_11 : z_Hp → Option (Int32 × z_Hp)) => (if x1 = 2 then (bI (c_X10_isRow F x4 h9) (fun x64 h63 => (if x64 = 0 then (some ((-1), h63)) else (j45_11 h63)))) else (j45_11 h9)))))))) (fun (j23_7 : z_Hp → Option (Int32 × z_Hp)) => (if x2 = (-9) then (j23_7 h5) else (bI (c_X10_isPrinter F x2 h5) (fun x66 h65 => (if x66 = 0 then (some ((-1), h65)) else (j23_7 h65))))))))))
set_option maxRecDepth 20000 in
set_option maxHeartbeats 4000000 in
theorem g_X10_sheet_L172 (F : Nat) (a43 : Nat) (x44 : Int32) (x45 : Int32) : ∀ (n : Nat) (x46 : Int32) (h47 : z_Hp), z_G zi mi_X10_sheet 172 [(0, vr (some a43)), (4, vi x44), (5, vi x45), (6, vi x46)] [] h47 (c_X10_sheet_L172 F a43 x44 x45 n x46 h47) := by
  intro n
  induction n with
  | zero => intro x46 h47; rw [c_X10_sheet_L172]; exact z_none
  | succ n ih =>
    intro x46 h47
    rw [c_X10_sheet_L172]
    refine z_iload (pc := 172) dX10_sheet_172 3 rfl (z_aload_n (pc := 174) dX10_sheet_174 rfl 0 rfl (z_getRl (pc := 175) fl_RX10_98 rfl dX10_sheet_175 (fun o48 => (z_iload (pc := 178) dX10_sheet_178 2 rfl (?_)))))
    refine z_nn (fun a49 ea49 => ?_)
    subst ea49
    refine z_iaload (pc := 180) dX10_sheet_180 (?_)
    refine z_icmp_ge (pc := 181) (tgt := 216) dX10_sheet_181 (by decide) ?_ ?_
    · refine z_aload_n (pc := 216) dX10_sheet_216 rfl 0 rfl (z_dup (pc := 217) dX10_sheet_217 rfl (z_getI (pc := 218) fl_RX10_262 rfl dX10_sheet_218 (z_iconst (pc := 221) dX10_sheet_221 ic_1 (z_iadd (pc := 222) dX10_sheet_222 (z_putIl (pc := 223) fl_RX10_262 (fin_X_10_26 _) rfl dX10_sheet_223 (fun h50 => (z_iload (pc := 226) dX10_sheet_226 2 rfl (?_))))))))
      exact z_iret (pc := 228) dX10_sheet_228 rfl rfl
    · refine z_aload_n (pc := 184) dX10_sheet_184 rfl 0 rfl (z_getRl (pc := 185) fl_RX10_101 rfl dX10_sheet_185 (fun o51 => (z_bipush (pc := 188) dX10_sheet_188 bp_40 (z_iload (pc := 190) dX10_sheet_190 2 rfl (z_imul (pc := 192) dX10_sheet_192 (z_iload (pc := 193) dX10_sheet_193 3 rfl (z_iadd (pc := 195) dX10_sheet_195 (z_aload_n (pc := 196) dX10_sheet_196 rfl 0 rfl (?_)))))))))
      refine z_getRl (pc := 197) fl_RX10_20 rfl dX10_sheet_197 (fun o52 => (z_bipush (pc := 200) dX10_sheet_200 bp_40 (z_iload (pc := 202) dX10_sheet_202 1 rfl (z_imul (pc := 204) dX10_sheet_204 (z_iload (pc := 205) dX10_sheet_205 3 rfl (z_iadd (pc := 207) dX10_sheet_207 (?_)))))))
      refine z_nn (fun a53 ea53 => ?_)
      subst ea53
      refine z_iaload (pc := 208) dX10_sheet_208 (?_)
      refine z_nn (fun a54 ea54 => ?_)
      subst ea54
      refine z_iastorel (pc := 209) dX10_sheet_209 (fun h55 => (z_iincl (pc := 210) (L' := fun x56 => [(0, vr (some a43)), (4, vi x44), (5, vi x45), (6, vi x56)]) dX10_sheet_210 3 rfl ic_1 (Nat.le_of_ble_eq_true rfl) (fun _ => rfl) (fun x56 => (z_goto (pc := 213) (tgt := 172) dX10_sheet_213 (by decide) (?_)))))
      exact ih x56 h55
set_option maxRecDepth 20000 in
set_option maxHeartbeats 4000000 in
theorem t_X10_sheet (F : Nat) (a0 : Nat) (x1 : Int32) (x2 : Int32) (x3 : Int32) (x4 : Int32) (h0 : z_Hp) : z_Ct zi mi_X10_sheet [vr (some a0), vi x1, vi x2, vi x3, vi x4] h0 (c_X10_sheet F a0 x1 x2 x3 x4 h0) := by
  refine z_entry (by decide) (Nat.le_of_ble_eq_true rfl) [(0, vr (some a0)), (1, vi x1), (2, vi x2), (3, vi x3), (4, vi x4)] rfl ?_
  unfold c_X10_sheet
  refine z_iload_n (pc := 0) dX10_sheet_0 rfl 1 rfl (z_iconst (pc := 1) dX10_sheet_1 ic_0 (z_bipush (pc := 2) dX10_sheet_2 bp_6 (z_callS_I (pc := 4) (avs := [vi x1, vi 0, vi 6]) (st := []) rfl (t_X10_in F x1 0 6 h0) ky_X10_in ws_X10_in wz_RX10_166 (rm_X10_sheet_X10_in) (Nat.le_of_ble_eq_true rfl) dX10_sheet_4 (fun x6 h5 => (?_)))))
  refine z_if_eq (pc := 7) (tgt := 43) dX10_sheet_7 (by decide) ?_ ?_
  · refine z_iconst (pc := 43) dX10_sheet_43 ic_m1 (?_)
    exact z_iret (pc := 44) dX10_sheet_44 rfl rfl
  · refine z_iload_n (pc := 10) dX10_sheet_10 rfl 2 rfl (z_bipush (pc := 11) dX10_sheet_11 bp_m9 (?_))
    refine z_jn (P := fun (j : z_Hp → Option (Int32 × z_Hp)) => ∀ (h8 : z_Hp), z_G zi mi_X10_sheet 23 [(0, vr (some a0)), (1, vi x1), (2, vi x2), (3, vi x3), (4, vi x4)] [] h8 (j h8)) (fun h8 => ?_) (fun j23_7 qj23_7 => ?_)
    · refine z_iload_n (pc := 23) dX10_sheet_23 rfl 3 rfl (z_callS_I (pc := 24) (avs := [vi x3]) (st := []) rfl (t_X10_isSong F x3 h8) ky_X10_isSong ws_X10_isSong wz_RX10_194 (rm_X10_sheet_X10_isSong) (Nat.le_of_ble_eq_true rfl) dX10_sheet_24 (fun x10 h9 => (?_)))
      refine z_if_eq (pc := 27) (tgt := 43) dX10_sheet_27 (by decide) ?_ ?_
      · refine z_iconst (pc := 43) dX10_sheet_43 ic_m1 (?_)
        exact z_iret (pc := 44) dX10_sheet_44 rfl rfl
      · refine z_iload_n (pc := 30) dX10_sheet_30 rfl 1 rfl (z_iconst (pc := 31) dX10_sheet_31 ic_2 (?_))
        refine z_jn (P := fun (j : z_Hp → Option (Int32 × z_Hp)) => ∀ (h12 : z_Hp), z_G zi mi_X10_sheet 45 [(0, vr (some a0)), (1, vi x1), (2, vi x2), (3, vi x3), (4, vi x4)] [] h12 (j h12)) (fun h12 => ?_) (fun j45_11 qj45_11 => ?_)
        · refine z_aload_n (pc := 45) dX10_sheet_45 rfl 0 rfl (z_getI (pc := 46) fl_RX10_262 rfl dX10_sheet_46 (z_bipush (pc := 49) dX10_sheet_49 bp_20 (?_)))
          refine z_icmp_ne (pc := 51) (tgt := 57) dX10_sheet_51 (by decide) ?_ ?_
          · refine z_iload_n (pc := 57) dX10_sheet_57 rfl 1 rfl (z_iconst (pc := 58) dX10_sheet_58 ic_2 (?_))
            refine z_jn (P := fun (j : z_Hp → Option (Int32 × z_Hp)) => ∀ (h14 : z_Hp), z_G zi mi_X10_sheet 78 [(0, vr (some a0)), (1, vi x1), (2, vi x2), (3, vi x3), (4, vi x4)] [] h14 (j h14)) (fun h14 => ?_) (fun j78_13 qj78_13 => ?_)
            · refine z_aload_n (pc := 78) dX10_sheet_78 rfl 0 rfl (z_getI (pc := 79) fl_RX10_262 rfl dX10_sheet_79 (z_istorel (pc := 82) (L' := fun x15 => [(0, vr (some a0)), (1, vi x1), (2, vi x2), (3, vi x3), (4, vi x4), (5, vi x15)]) dX10_sheet_82 (Nat.le_of_ble_eq_true rfl) (fun _ => rfl) (fun x15 => (z_aload_n (pc := 84) dX10_sheet_84 rfl 0 rfl (z_getRl (pc := 85) fl_RX10_68 rfl dX10_sheet_85 (fun o16 => (z_iload (pc := 88) dX10_sheet_88 5 rfl (z_iload_n (pc := 90) dX10_sheet_90 rfl 1 rfl (?_)))))))))
              refine z_nn (fun a17 ea17 => ?_)
              subst ea17
              refine z_iastorel (pc := 91) dX10_sheet_91 (fun h18 => (z_aload_n (pc := 92) dX10_sheet_92 rfl 0 rfl (z_getRl (pc := 93) fl_RX10_71 rfl dX10_sheet_93 (fun o19 => (z_iload (pc := 96) dX10_sheet_96 5 rfl (z_iload_n (pc := 98) dX10_sheet_98 rfl 2 rfl (?_)))))))
              refine z_nn (fun a20 ea20 => ?_)
              subst ea20
              refine z_iastorel (pc := 99) dX10_sheet_99 (fun h21 => (z_aload_n (pc := 100) dX10_sheet_100 rfl 0 rfl (z_getRl (pc := 101) fl_RX10_74 rfl dX10_sheet_101 (fun o22 => (z_iload (pc := 104) dX10_sheet_104 5 rfl (z_iload_n (pc := 106) dX10_sheet_106 rfl 3 rfl (?_)))))))
              refine z_nn (fun a23 ea23 => ?_)
              subst ea23
              refine z_iastorel (pc := 107) dX10_sheet_107 (fun h24 => (z_aload_n (pc := 108) dX10_sheet_108 rfl 0 rfl (z_getRl (pc := 109) fl_RX10_77 rfl dX10_sheet_109 (fun o25 => (z_iload (pc := 112) dX10_sheet_112 5 rfl (z_bipush (pc := 114) dX10_sheet_114 bp_m9 (?_)))))))
              refine z_nn (fun a26 ea26 => ?_)
              subst ea26
              refine z_iastorel (pc := 116) dX10_sheet_116 (fun h27 => (z_aload_n (pc := 117) dX10_sheet_117 rfl 0 rfl (z_getRl (pc := 118) fl_RX10_89 rfl dX10_sheet_118 (fun o28 => (z_iload (pc := 121) dX10_sheet_121 5 rfl (z_bipush (pc := 123) dX10_sheet_123 bp_m9 (?_)))))))
              refine z_nn (fun a29 ea29 => ?_)
              subst ea29
              refine z_iastorel (pc := 125) dX10_sheet_125 (fun h30 => (z_aload_n (pc := 126) dX10_sheet_126 rfl 0 rfl (z_getRl (pc := 127) fl_RX10_92 rfl dX10_sheet_127 (fun o31 => (z_iload (pc := 130) dX10_sheet_130 5 rfl (z_bipush (pc := 132) dX10_sheet_132 bp_m9 (?_)))))))
              refine z_nn (fun a32 ea32 => ?_)
              subst ea32
              refine z_iastorel (pc := 134) dX10_sheet_134 (fun h33 => (z_aload_n (pc := 135) dX10_sheet_135 rfl 0 rfl (z_getRl (pc := 136) fl_RX10_95 rfl dX10_sheet_136 (fun o34 => (z_iload (pc := 139) dX10_sheet_139 5 rfl (z_aload_n (pc := 141) dX10_sheet_141 rfl 0 rfl (z_getI (pc := 142) fl_RX10_191 rfl dX10_sheet_142 (?_))))))))
              refine z_nn (fun a35 ea35 => ?_)
              subst ea35
              refine z_iastorel (pc := 145) dX10_sheet_145 (fun h36 => (z_aload_n (pc := 146) dX10_sheet_146 rfl 0 rfl (z_getRl (pc := 147) fl_RX10_98 rfl dX10_sheet_147 (fun o37 => (z_iload (pc := 150) dX10_sheet_150 5 rfl (z_iload_n (pc := 152) dX10_sheet_152 rfl 1 rfl (z_iconst (pc := 153) dX10_sheet_153 ic_2 (?_))))))))
              refine z_jn (P := fun (j : Int32 → z_Hp → Option (Int32 × z_Hp)) => ∀ (x39 : Int32) (h40 : z_Hp), z_G zi mi_X10_sheet 168 [(0, vr (some a0)), (4, vi x4), (5, vi x15)] [vi x39, vi x15, vr o37] h40 (j x39 h40)) (fun x39 h40 => ?_) (fun j168_38 qj168_38 => ?_)
              · refine z_nn (fun a41 ea41 => ?_)
                subst ea41
                refine z_iastorel (pc := 168) dX10_sheet_168 (fun h42 => (z_iconst (pc := 169) dX10_sheet_169 ic_0 (z_istore (pc := 170) (L' := [(0, vr (some a0)), (4, vi x4), (5, vi x15), (6, vi 0)]) dX10_sheet_170 (Nat.le_of_ble_eq_true rfl) rfl (?_))))
                refine g_X10_sheet_L172 F a0 x4 x15 F 0 h42
              refine z_icmp_ne (pc := 154) (tgt := 167) dX10_sheet_154 (by decide) ?_ ?_
              · refine z_iconst (pc := 167) dX10_sheet_167 ic_0 (?_)
                exact z_sub [0, 4, 5] rfl (qj168_38 0 h36)
              · refine z_aload_n (pc := 157) dX10_sheet_157 rfl 0 rfl (z_getRl (pc := 158) fl_RX10_17 rfl dX10_sheet_158 (fun o57 => (z_iload (pc := 161) dX10_sheet_161 4 rfl (?_))))
                refine z_nn (fun a58 ea58 => ?_)
                subst ea58
                refine z_iaload (pc := 163) dX10_sheet_163 (z_goto (pc := 164) (tgt := 168) dX10_sheet_164 (by decide) (?_))
                exact z_sub [0, 4, 5] rfl (qj168_38 (hI h36 a58 (ix x4)) h36)
            refine z_icmp_ne (pc := 59) (tgt := 78) dX10_sheet_59 (by decide) ?_ ?_
            · exact qj78_13 h12
            · refine z_aload_n (pc := 62) dX10_sheet_62 rfl 0 rfl (z_getRl (pc := 63) fl_RX10_17 rfl dX10_sheet_63 (fun o59 => (z_iload (pc := 66) dX10_sheet_66 4 rfl (?_))))
              refine z_nn (fun a60 ea60 => ?_)
              subst ea60
              refine z_iaload (pc := 68) dX10_sheet_68 (?_)
              refine z_if_ge (pc := 69) (tgt := 78) dX10_sheet_69 (by decide) ?_ ?_
              · exact qj78_13 h12
              · refine z_aload_n (pc := 72) dX10_sheet_72 rfl 0 rfl (z_iconst (pc := 73) dX10_sheet_73 ic_1 (z_callV_I (pc := 74) (avs := [vi 1]) (st := []) rfl (q := (RX10, TX10, 62)) rfl rfl (t_X10_meets F a0 1 h12) ky_X10_meets wm_X10_meets we_X10_meets wz_RX10_174 (rm_X10_sheet_X10_meets) (Nat.le_of_ble_eq_true rfl) dX10_sheet_74 (fun x62 h61 => (?_))))
                exact z_iret (pc := 77) dX10_sheet_77 rfl rfl
          · refine z_bipush (pc := 54) dX10_sheet_54 bp_m2 (?_)
            exact z_iret (pc := 56) dX10_sheet_56 rfl rfl
        refine z_icmp_ne (pc := 32) (tgt := 45) dX10_sheet_32 (by decide) ?_ ?_
        · exact qj45_11 h9
        · refine z_iload (pc := 35) dX10_sheet_35 4 rfl (z_callS_I (pc := 37) (avs := [vi x4]) (st := []) rfl (t_X10_isRow F x4 h9) ky_X10_isRow ws_X10_isRow wz_RX10_170 (rm_X10_sheet_X10_isRow) (Nat.le_of_ble_eq_true rfl) dX10_sheet_37 (fun x64 h63 => (?_)))
          refine z_if_ne (pc := 40) (tgt := 45) dX10_sheet_40 (by decide) ?_ ?_
          · exact qj45_11 h63
          · refine z_iconst (pc := 43) dX10_sheet_43 ic_m1 (?_)
            exact z_iret (pc := 44) dX10_sheet_44 rfl rfl
    refine z_icmp_eq (pc := 13) (tgt := 23) dX10_sheet_13 (by decide) ?_ ?_
    · exact qj23_7 h5
    · refine z_iload_n (pc := 16) dX10_sheet_16 rfl 2 rfl (z_callS_I (pc := 17) (avs := [vi x2]) (st := []) rfl (t_X10_isPrinter F x2 h5) ky_X10_isPrinter ws_X10_isPrinter wz_RX10_256 (rm_X10_sheet_X10_isPrinter) (Nat.le_of_ble_eq_true rfl) dX10_sheet_17 (fun x66 h65 => (?_)))
      refine z_if_eq (pc := 20) (tgt := 43) dX10_sheet_20 (by decide) ?_ ?_
      · refine z_iconst (pc := 43) dX10_sheet_43 ic_m1 (?_)
        exact z_iret (pc := 44) dX10_sheet_44 rfl rfl
      · exact qj23_7 h65
theorem dX10_isSheet_0 : decode cX10_isSheet 0 = .ok (.iload_n 1, 1) := by decide +kernel
theorem dX10_isSheet_1 : decode cX10_isSheet 1 = .ok (.iconst 0, 1) := by decide +kernel
theorem dX10_isSheet_2 : decode cX10_isSheet 2 = .ok (.aload_n 0, 1) := by decide +kernel
theorem dX10_isSheet_3 : decode cX10_isSheet 3 = .ok (.getfield 262, 3) := by decide +kernel
theorem dX10_isSheet_6 : decode cX10_isSheet 6 = .ok (.iconst 1, 1) := by decide +kernel
theorem dX10_isSheet_7 : decode cX10_isSheet 7 = .ok (.isub, 1) := by decide +kernel
theorem dX10_isSheet_8 : decode cX10_isSheet 8 = .ok (.invokestatic 166, 3) := by decide +kernel
theorem dX10_isSheet_11 : decode cX10_isSheet 11 = .ok (.ireturn, 1) := by decide +kernel
def c_X10_isSheet (F : Nat) (a0 : Nat) (x1 : Int32) (h0 : z_Hp) : Option (Int32 × z_Hp) := (if hT h0 a0 = 10 then (bI (c_X10_in F x1 0 ((hI h0 a0 26) - 1) h0) (fun x3 h2 => (if x3 = 0 ∨ x3 = 1 then some (x3, h2) else none))) else none)
set_option maxRecDepth 20000 in
set_option maxHeartbeats 4000000 in
theorem t_X10_isSheet (F : Nat) (a0 : Nat) (x1 : Int32) (h0 : z_Hp) : z_Ct zi mi_X10_isSheet [vr (some a0), vi x1] h0 (c_X10_isSheet F a0 x1 h0) := by
  refine z_entry (by decide) (Nat.le_of_ble_eq_true rfl) [(0, vr (some a0)), (1, vi x1)] rfl ?_
  unfold c_X10_isSheet
  refine z_iload_n (pc := 0) dX10_isSheet_0 rfl 1 rfl (z_iconst (pc := 1) dX10_isSheet_1 ic_0 (z_aload_n (pc := 2) dX10_isSheet_2 rfl 0 rfl (z_getI (pc := 3) fl_RX10_262 rfl dX10_isSheet_3 (z_iconst (pc := 6) dX10_isSheet_6 ic_1 (z_isub (pc := 7) dX10_isSheet_7 (z_callS_I (pc := 8) (avs := [vi x1, vi 0, vi ((hI h0 a0 26) - 1)]) (st := []) rfl (t_X10_in F x1 0 ((hI h0 a0 26) - 1) h0) ky_X10_in ws_X10_in wz_RX10_166 (rm_X10_isSheet_X10_in) (Nat.le_of_ble_eq_true rfl) dX10_isSheet_8 (fun x3 h2 => (?_))))))))
  exact z_zret (pc := 11) dX10_isSheet_11 rfl
theorem dX10_block_0 : decode cX10_block 0 = .ok (.aload_n 0, 1) := by decide +kernel
theorem dX10_block_1 : decode cX10_block 1 = .ok (.iload_n 1, 1) := by decide +kernel
theorem dX10_block_2 : decode cX10_block 2 = .ok (.invokevirtual 265, 3) := by decide +kernel
theorem dX10_block_5 : decode cX10_block 5 = .ok (.ifCond .eq 29, 3) := by decide +kernel
theorem dX10_block_8 : decode cX10_block 8 = .ok (.iload_n 2, 1) := by decide +kernel
theorem dX10_block_9 : decode cX10_block 9 = .ok (.bipush (-9), 2) := by decide +kernel
theorem dX10_block_11 : decode cX10_block 11 = .ok (.if_icmp .eq 12, 3) := by decide +kernel
theorem dX10_block_14 : decode cX10_block 14 = .ok (.iload_n 2, 1) := by decide +kernel
theorem dX10_block_15 : decode cX10_block 15 = .ok (.iconst 0, 1) := by decide +kernel
theorem dX10_block_16 : decode cX10_block 16 = .ok (.iconst 5, 1) := by decide +kernel
theorem dX10_block_17 : decode cX10_block 17 = .ok (.invokestatic 166, 3) := by decide +kernel
theorem dX10_block_20 : decode cX10_block 20 = .ok (.ifCond .eq 14, 3) := by decide +kernel
theorem dX10_block_23 : decode cX10_block 23 = .ok (.iload_n 3, 1) := by decide +kernel
theorem dX10_block_24 : decode cX10_block 24 = .ok (.iconst 0, 1) := by decide +kernel
theorem dX10_block_25 : decode cX10_block 25 = .ok (.sipush 4095, 3) := by decide +kernel
theorem dX10_block_28 : decode cX10_block 28 = .ok (.invokestatic 166, 3) := by decide +kernel
theorem dX10_block_31 : decode cX10_block 31 = .ok (.ifCond .ne 5, 3) := by decide +kernel
theorem dX10_block_34 : decode cX10_block 34 = .ok (.iconst (-1), 1) := by decide +kernel
theorem dX10_block_35 : decode cX10_block 35 = .ok (.ireturn, 1) := by decide +kernel
theorem dX10_block_36 : decode cX10_block 36 = .ok (.aload_n 0, 1) := by decide +kernel
theorem dX10_block_37 : decode cX10_block 37 = .ok (.getfield 77, 3) := by decide +kernel
theorem dX10_block_40 : decode cX10_block 40 = .ok (.iload_n 1, 1) := by decide +kernel
theorem dX10_block_41 : decode cX10_block 41 = .ok (.iload_n 2, 1) := by decide +kernel
theorem dX10_block_42 : decode cX10_block 42 = .ok (.iastore, 1) := by decide +kernel
theorem dX10_block_43 : decode cX10_block 43 = .ok (.aload_n 0, 1) := by decide +kernel
theorem dX10_block_44 : decode cX10_block 44 = .ok (.getfield 80, 3) := by decide +kernel
theorem dX10_block_47 : decode cX10_block 47 = .ok (.iload_n 1, 1) := by decide +kernel
theorem dX10_block_48 : decode cX10_block 48 = .ok (.iload_n 3, 1) := by decide +kernel
theorem dX10_block_49 : decode cX10_block 49 = .ok (.iastore, 1) := by decide +kernel
theorem dX10_block_50 : decode cX10_block 50 = .ok (.iconst 1, 1) := by decide +kernel
theorem dX10_block_51 : decode cX10_block 51 = .ok (.ireturn, 1) := by decide +kernel
def c_X10_block (F : Nat) (a0 : Nat) (x1 : Int32) (x2 : Int32) (x3 : Int32) (h0 : z_Hp) : Option (Int32 × z_Hp) := (if hT h0 a0 = 10 then (bI (c_X10_isSheet F a0 x1 h0) (fun x5 h4 => (if x5 = 0 then (some ((-1), h4)) else (lt_ (fun (h7 : z_Hp) => (bI (c_X10_in F x3 0 4095 h7) (fun x9 h8 => (if x9 = 0 then (some ((-1), h8)) else (if hT h8 a0 = 10 then (lt_ (hR h8 a0 30) (fun o10 => (nn o10 (fun a11 => (if okA h8 a11 20 x1 = true then (lt_ (sI h8 a11 (ix x1) x2) (fun h12 => (if hT h12 a0 = 10 then (lt_ (hR h12 a0 31) (fun o13 => (nn o13 (fun a14 => (if okA h12 a14 20 x1 = true then (lt_ (sI h12 a14 (ix x1) x3) (fun h15 => (some (1, h15)))) else none))))) else none))) else none))))) else none))))) (fun (j23_6 : z_Hp → Option (Int32 × z_Hp)) => (if x2 = (-9) then (j23_6 h4) else (bI (c_X10_in F x2 0 5 h4) (fun x17 h16 => (if x17 = 0 then (some ((-1), h16)) else (j23_6 h16)))))))))) else none)
set_option maxRecDepth 20000 in
set_option maxHeartbeats 4000000 in
theorem t_X10_block (F : Nat) (a0 : Nat) (x1 : Int32) (x2 : Int32) (x3 : Int32) (h0 : z_Hp) : z_Ct zi mi_X10_block [vr (some a0), vi x1, vi x2, vi x3] h0 (c_X10_block F a0 x1 x2 x3 h0) := by
  refine z_entry (by decide) (Nat.le_of_ble_eq_true rfl) [(0, vr (some a0)), (1, vi x1), (2, vi x2), (3, vi x3)] rfl ?_
  unfold c_X10_block
  refine z_aload_n (pc := 0) dX10_block_0 rfl 0 rfl (z_iload_n (pc := 1) dX10_block_1 rfl 1 rfl (z_callV_I (pc := 2) (avs := [vi x1]) (st := []) rfl (q := (RX10, TX10, 62)) rfl rfl (t_X10_isSheet F a0 x1 h0) ky_X10_isSheet wm_X10_isSheet we_X10_isSheet wz_RX10_265 (rm_X10_block_X10_isSheet) (Nat.le_of_ble_eq_true rfl) dX10_block_2 (fun x5 h4 => (?_))))
  refine z_if_eq (pc := 5) (tgt := 34) dX10_block_5 (by decide) ?_ ?_
  · refine z_iconst (pc := 34) dX10_block_34 ic_m1 (?_)
    exact z_iret (pc := 35) dX10_block_35 rfl rfl
  · refine z_iload_n (pc := 8) dX10_block_8 rfl 2 rfl (z_bipush (pc := 9) dX10_block_9 bp_m9 (?_))
    refine z_jn (P := fun (j : z_Hp → Option (Int32 × z_Hp)) => ∀ (h7 : z_Hp), z_G zi mi_X10_block 23 [(0, vr (some a0)), (1, vi x1), (2, vi x2), (3, vi x3)] [] h7 (j h7)) (fun h7 => ?_) (fun j23_6 qj23_6 => ?_)
    · refine z_iload_n (pc := 23) dX10_block_23 rfl 3 rfl (z_iconst (pc := 24) dX10_block_24 ic_0 (z_sipush (pc := 25) dX10_block_25 sp_4095 (z_callS_I (pc := 28) (avs := [vi x3, vi 0, vi 4095]) (st := []) rfl (t_X10_in F x3 0 4095 h7) ky_X10_in ws_X10_in wz_RX10_166 (rm_X10_block_X10_in) (Nat.le_of_ble_eq_true rfl) dX10_block_28 (fun x9 h8 => (?_)))))
      refine z_if_ne (pc := 31) (tgt := 36) dX10_block_31 (by decide) ?_ ?_
      · refine z_aload_n (pc := 36) dX10_block_36 rfl 0 rfl (z_getRl (pc := 37) fl_RX10_77 rfl dX10_block_37 (fun o10 => (z_iload_n (pc := 40) dX10_block_40 rfl 1 rfl (z_iload_n (pc := 41) dX10_block_41 rfl 2 rfl (?_)))))
        refine z_nn (fun a11 ea11 => ?_)
        subst ea11
        refine z_iastorel (pc := 42) dX10_block_42 (fun h12 => (z_aload_n (pc := 43) dX10_block_43 rfl 0 rfl (z_getRl (pc := 44) fl_RX10_80 rfl dX10_block_44 (fun o13 => (z_iload_n (pc := 47) dX10_block_47 rfl 1 rfl (z_iload_n (pc := 48) dX10_block_48 rfl 3 rfl (?_)))))))
        refine z_nn (fun a14 ea14 => ?_)
        subst ea14
        refine z_iastorel (pc := 49) dX10_block_49 (fun h15 => (z_iconst (pc := 50) dX10_block_50 ic_1 (?_)))
        exact z_iret (pc := 51) dX10_block_51 rfl rfl
      · refine z_iconst (pc := 34) dX10_block_34 ic_m1 (?_)
        exact z_iret (pc := 35) dX10_block_35 rfl rfl
    refine z_icmp_eq (pc := 11) (tgt := 23) dX10_block_11 (by decide) ?_ ?_
    · exact qj23_6 h4
    · refine z_iload_n (pc := 14) dX10_block_14 rfl 2 rfl (z_iconst (pc := 15) dX10_block_15 ic_0 (z_iconst (pc := 16) dX10_block_16 ic_5 (z_callS_I (pc := 17) (avs := [vi x2, vi 0, vi 5]) (st := []) rfl (t_X10_in F x2 0 5 h4) ky_X10_in ws_X10_in wz_RX10_166 (rm_X10_block_X10_in) (Nat.le_of_ble_eq_true rfl) dX10_block_17 (fun x17 h16 => (?_)))))
      refine z_if_eq (pc := 20) (tgt := 34) dX10_block_20 (by decide) ?_ ?_
      · refine z_iconst (pc := 34) dX10_block_34 ic_m1 (?_)
        exact z_iret (pc := 35) dX10_block_35 rfl rfl
      · exact qj23_6 h16
theorem dX10_type_0 : decode cX10_type 0 = .ok (.aload_n 0, 1) := by decide +kernel
theorem dX10_type_1 : decode cX10_type 1 = .ok (.iload_n 1, 1) := by decide +kernel
theorem dX10_type_2 : decode cX10_type 2 = .ok (.invokevirtual 265, 3) := by decide +kernel
theorem dX10_type_5 : decode cX10_type 5 = .ok (.ifCond .eq 25, 3) := by decide +kernel
theorem dX10_type_8 : decode cX10_type 8 = .ok (.iload_n 2, 1) := by decide +kernel
theorem dX10_type_9 : decode cX10_type 9 = .ok (.iconst 0, 1) := by decide +kernel
theorem dX10_type_10 : decode cX10_type 10 = .ok (.ldc_w 268, 3) := by decide +kernel
theorem dX10_type_13 : decode cX10_type 13 = .ok (.invokestatic 166, 3) := by decide +kernel
theorem dX10_type_16 : decode cX10_type 16 = .ok (.ifCond .eq 14, 3) := by decide +kernel
theorem dX10_type_19 : decode cX10_type 19 = .ok (.iload_n 3, 1) := by decide +kernel
theorem dX10_type_20 : decode cX10_type 20 = .ok (.iconst 0, 1) := by decide +kernel
theorem dX10_type_21 : decode cX10_type 21 = .ok (.ldc_w 268, 3) := by decide +kernel
theorem dX10_type_24 : decode cX10_type 24 = .ok (.invokestatic 166, 3) := by decide +kernel
theorem dX10_type_27 : decode cX10_type 27 = .ok (.ifCond .ne 5, 3) := by decide +kernel
theorem dX10_type_30 : decode cX10_type 30 = .ok (.iconst (-1), 1) := by decide +kernel
theorem dX10_type_31 : decode cX10_type 31 = .ok (.ireturn, 1) := by decide +kernel
theorem dX10_type_32 : decode cX10_type 32 = .ok (.aload_n 0, 1) := by decide +kernel
theorem dX10_type_33 : decode cX10_type 33 = .ok (.getfield 83, 3) := by decide +kernel
theorem dX10_type_36 : decode cX10_type 36 = .ok (.iload_n 1, 1) := by decide +kernel
theorem dX10_type_37 : decode cX10_type 37 = .ok (.iload_n 2, 1) := by decide +kernel
theorem dX10_type_38 : decode cX10_type 38 = .ok (.iastore, 1) := by decide +kernel
theorem dX10_type_39 : decode cX10_type 39 = .ok (.aload_n 0, 1) := by decide +kernel
theorem dX10_type_40 : decode cX10_type 40 = .ok (.getfield 86, 3) := by decide +kernel
theorem dX10_type_43 : decode cX10_type 43 = .ok (.iload_n 1, 1) := by decide +kernel
theorem dX10_type_44 : decode cX10_type 44 = .ok (.iload_n 3, 1) := by decide +kernel
theorem dX10_type_45 : decode cX10_type 45 = .ok (.iastore, 1) := by decide +kernel
theorem dX10_type_46 : decode cX10_type 46 = .ok (.iconst 1, 1) := by decide +kernel
theorem dX10_type_47 : decode cX10_type 47 = .ok (.ireturn, 1) := by decide +kernel
def c_X10_type (F : Nat) (a0 : Nat) (x1 : Int32) (x2 : Int32) (x3 : Int32) (h0 : z_Hp) : Option (Int32 × z_Hp) := (if hT h0 a0 = 10 then (bI (c_X10_isSheet F a0 x1 h0) (fun x5 h4 => (if x5 = 0 then (some ((-1), h4)) else (bI (c_X10_in F x2 0 65535 h4) (fun x7 h6 => (if x7 = 0 then (some ((-1), h6)) else (bI (c_X10_in F x3 0 65535 h6) (fun x9 h8 => (if x9 = 0 then (some ((-1), h8)) else (if hT h8 a0 = 10 then (lt_ (hR h8 a0 32) (fun o10 => (nn o10 (fun a11 => (if okA h8 a11 20 x1 = true then (lt_ (sI h8 a11 (ix x1) x2) (fun h12 => (if hT h12 a0 = 10 then (lt_ (hR h12 a0 33) (fun o13 => (nn o13 (fun a14 => (if okA h12 a14 20 x1 = true then (lt_ (sI h12 a14 (ix x1) x3) (fun h15 => (some (1, h15)))) else none))))) else none))) else none))))) else none)))))))))) else none)
set_option maxRecDepth 20000 in
set_option maxHeartbeats 4000000 in
theorem t_X10_type (F : Nat) (a0 : Nat) (x1 : Int32) (x2 : Int32) (x3 : Int32) (h0 : z_Hp) : z_Ct zi mi_X10_type [vr (some a0), vi x1, vi x2, vi x3] h0 (c_X10_type F a0 x1 x2 x3 h0) := by
  refine z_entry (by decide) (Nat.le_of_ble_eq_true rfl) [(0, vr (some a0)), (1, vi x1), (2, vi x2), (3, vi x3)] rfl ?_
  unfold c_X10_type
  refine z_aload_n (pc := 0) dX10_type_0 rfl 0 rfl (z_iload_n (pc := 1) dX10_type_1 rfl 1 rfl (z_callV_I (pc := 2) (avs := [vi x1]) (st := []) rfl (q := (RX10, TX10, 62)) rfl rfl (t_X10_isSheet F a0 x1 h0) ky_X10_isSheet wm_X10_isSheet we_X10_isSheet wz_RX10_265 (rm_X10_type_X10_isSheet) (Nat.le_of_ble_eq_true rfl) dX10_type_2 (fun x5 h4 => (?_))))
  refine z_if_eq (pc := 5) (tgt := 30) dX10_type_5 (by decide) ?_ ?_
  · refine z_iconst (pc := 30) dX10_type_30 ic_m1 (?_)
    exact z_iret (pc := 31) dX10_type_31 rfl rfl
  · refine z_iload_n (pc := 8) dX10_type_8 rfl 2 rfl (z_iconst (pc := 9) dX10_type_9 ic_0 (z_ldcw (pc := 10) dX10_type_10 wk_RX10_268 (z_callS_I (pc := 13) (avs := [vi x2, vi 0, vi 65535]) (st := []) rfl (t_X10_in F x2 0 65535 h4) ky_X10_in ws_X10_in wz_RX10_166 (rm_X10_type_X10_in) (Nat.le_of_ble_eq_true rfl) dX10_type_13 (fun x7 h6 => (?_)))))
    refine z_if_eq (pc := 16) (tgt := 30) dX10_type_16 (by decide) ?_ ?_
    · refine z_iconst (pc := 30) dX10_type_30 ic_m1 (?_)
      exact z_iret (pc := 31) dX10_type_31 rfl rfl
    · refine z_iload_n (pc := 19) dX10_type_19 rfl 3 rfl (z_iconst (pc := 20) dX10_type_20 ic_0 (z_ldcw (pc := 21) dX10_type_21 wk_RX10_268 (z_callS_I (pc := 24) (avs := [vi x3, vi 0, vi 65535]) (st := []) rfl (t_X10_in F x3 0 65535 h6) ky_X10_in ws_X10_in wz_RX10_166 (rm_X10_type_X10_in) (Nat.le_of_ble_eq_true rfl) dX10_type_24 (fun x9 h8 => (?_)))))
      refine z_if_ne (pc := 27) (tgt := 32) dX10_type_27 (by decide) ?_ ?_
      · refine z_aload_n (pc := 32) dX10_type_32 rfl 0 rfl (z_getRl (pc := 33) fl_RX10_83 rfl dX10_type_33 (fun o10 => (z_iload_n (pc := 36) dX10_type_36 rfl 1 rfl (z_iload_n (pc := 37) dX10_type_37 rfl 2 rfl (?_)))))
        refine z_nn (fun a11 ea11 => ?_)
        subst ea11
        refine z_iastorel (pc := 38) dX10_type_38 (fun h12 => (z_aload_n (pc := 39) dX10_type_39 rfl 0 rfl (z_getRl (pc := 40) fl_RX10_86 rfl dX10_type_40 (fun o13 => (z_iload_n (pc := 43) dX10_type_43 rfl 1 rfl (z_iload_n (pc := 44) dX10_type_44 rfl 3 rfl (?_)))))))
        refine z_nn (fun a14 ea14 => ?_)
        subst ea14
        refine z_iastorel (pc := 45) dX10_type_45 (fun h15 => (z_iconst (pc := 46) dX10_type_46 ic_1 (?_)))
        exact z_iret (pc := 47) dX10_type_47 rfl rfl
      · refine z_iconst (pc := 30) dX10_type_30 ic_m1 (?_)
        exact z_iret (pc := 31) dX10_type_31 rfl rfl
theorem dX10_span_0 : decode cX10_span 0 = .ok (.aload_n 0, 1) := by decide +kernel
theorem dX10_span_1 : decode cX10_span 1 = .ok (.iload_n 1, 1) := by decide +kernel
theorem dX10_span_2 : decode cX10_span 2 = .ok (.invokevirtual 265, 3) := by decide +kernel
theorem dX10_span_5 : decode cX10_span 5 = .ok (.ifCond .eq 27, 3) := by decide +kernel
theorem dX10_span_8 : decode cX10_span 8 = .ok (.iload_n 2, 1) := by decide +kernel
theorem dX10_span_9 : decode cX10_span 9 = .ok (.bipush (-9), 2) := by decide +kernel
theorem dX10_span_11 : decode cX10_span 11 = .ok (.if_icmp .eq 23, 3) := by decide +kernel
theorem dX10_span_14 : decode cX10_span 14 = .ok (.iload_n 2, 1) := by decide +kernel
theorem dX10_span_15 : decode cX10_span 15 = .ok (.invokestatic 259, 3) := by decide +kernel
theorem dX10_span_18 : decode cX10_span 18 = .ok (.ifCond .eq 14, 3) := by decide +kernel
theorem dX10_span_21 : decode cX10_span 21 = .ok (.iload_n 3, 1) := by decide +kernel
theorem dX10_span_22 : decode cX10_span 22 = .ok (.iload_n 2, 1) := by decide +kernel
theorem dX10_span_23 : decode cX10_span 23 = .ok (.sipush 1899, 3) := by decide +kernel
theorem dX10_span_26 : decode cX10_span 26 = .ok (.invokestatic 166, 3) := by decide +kernel
theorem dX10_span_29 : decode cX10_span 29 = .ok (.ifCond .ne 5, 3) := by decide +kernel
theorem dX10_span_32 : decode cX10_span 32 = .ok (.iconst (-1), 1) := by decide +kernel
theorem dX10_span_33 : decode cX10_span 33 = .ok (.ireturn, 1) := by decide +kernel
theorem dX10_span_34 : decode cX10_span 34 = .ok (.aload_n 0, 1) := by decide +kernel
theorem dX10_span_35 : decode cX10_span 35 = .ok (.getfield 89, 3) := by decide +kernel
theorem dX10_span_38 : decode cX10_span 38 = .ok (.iload_n 1, 1) := by decide +kernel
theorem dX10_span_39 : decode cX10_span 39 = .ok (.iload_n 2, 1) := by decide +kernel
theorem dX10_span_40 : decode cX10_span 40 = .ok (.iastore, 1) := by decide +kernel
theorem dX10_span_41 : decode cX10_span 41 = .ok (.aload_n 0, 1) := by decide +kernel
theorem dX10_span_42 : decode cX10_span 42 = .ok (.getfield 92, 3) := by decide +kernel
theorem dX10_span_45 : decode cX10_span 45 = .ok (.iload_n 1, 1) := by decide +kernel
theorem dX10_span_46 : decode cX10_span 46 = .ok (.iload_n 2, 1) := by decide +kernel
theorem dX10_span_47 : decode cX10_span 47 = .ok (.bipush (-9), 2) := by decide +kernel
theorem dX10_span_49 : decode cX10_span 49 = .ok (.if_icmp .ne 8, 3) := by decide +kernel
theorem dX10_span_52 : decode cX10_span 52 = .ok (.bipush (-9), 2) := by decide +kernel
theorem dX10_span_54 : decode cX10_span 54 = .ok (.goto 4, 3) := by decide +kernel
theorem dX10_span_57 : decode cX10_span 57 = .ok (.iload_n 3, 1) := by decide +kernel
theorem dX10_span_58 : decode cX10_span 58 = .ok (.iastore, 1) := by decide +kernel
theorem dX10_span_59 : decode cX10_span 59 = .ok (.iconst 1, 1) := by decide +kernel
theorem dX10_span_60 : decode cX10_span 60 = .ok (.ireturn, 1) := by decide +kernel
def c_X10_span (F : Nat) (a0 : Nat) (x1 : Int32) (x2 : Int32) (x3 : Int32) (h0 : z_Hp) : Option (Int32 × z_Hp) := (if hT h0 a0 = 10 then (bI (c_X10_isSheet F a0 x1 h0) (fun x5 h4 => (if x5 = 0 then (some ((-1), h4)) else (lt_ (fun (h7 : z_Hp) => (if hT h7 a0 = 10 then (lt_ (hR h7 a0 34) (fun o8 => (nn o8 (fun a9 => (if okA h7 a9 20 x1 = true then (lt_ (sI h7 a9 (ix x1) x2) (fun h10 => (if hT h10 a0 = 10 then (lt_ (hR h10 a0 35) (fun o11 => (if x2 = (-9) then (nn o11 (fun a14 => (if okA h10 a14 20 x1 = true then (lt_ (sI h10 a14 (ix x1) (-9)) (fun h15 => (some (1, h15)))) else none))) else (nn o11 (fun a12 => (if okA h10 a12 20 x1 = true then (lt_ (sI h10 a12 (ix x1) x3) (fun h13 => (some (1, h13)))) else none)))))) else none))) else none))))) else none)) (fun (j34_6 : z_Hp → Option (Int32 × z_Hp)) => (if x2 = (-9) then (j34_6 h4) else (bI (c_X10_isYear F x2 h4) (fun x17 h16 => (if x17 = 0 then (some ((-1), h16)) else (bI (c_X10_in F x3 x2 1899 h16) (fun x19 h18 => (if x19 = 0 then (some ((-1), h18)) else (j34_6 h18))))))))))))) else none)
set_option maxRecDepth 20000 in
set_option maxHeartbeats 4000000 in
theorem t_X10_span (F : Nat) (a0 : Nat) (x1 : Int32) (x2 : Int32) (x3 : Int32) (h0 : z_Hp) : z_Ct zi mi_X10_span [vr (some a0), vi x1, vi x2, vi x3] h0 (c_X10_span F a0 x1 x2 x3 h0) := by
  refine z_entry (by decide) (Nat.le_of_ble_eq_true rfl) [(0, vr (some a0)), (1, vi x1), (2, vi x2), (3, vi x3)] rfl ?_
  unfold c_X10_span
  refine z_aload_n (pc := 0) dX10_span_0 rfl 0 rfl (z_iload_n (pc := 1) dX10_span_1 rfl 1 rfl (z_callV_I (pc := 2) (avs := [vi x1]) (st := []) rfl (q := (RX10, TX10, 62)) rfl rfl (t_X10_isSheet F a0 x1 h0) ky_X10_isSheet wm_X10_isSheet we_X10_isSheet wz_RX10_265 (rm_X10_span_X10_isSheet) (Nat.le_of_ble_eq_true rfl) dX10_span_2 (fun x5 h4 => (?_))))
  refine z_if_eq (pc := 5) (tgt := 32) dX10_span_5 (by decide) ?_ ?_
  · refine z_iconst (pc := 32) dX10_span_32 ic_m1 (?_)
    exact z_iret (pc := 33) dX10_span_33 rfl rfl
  · refine z_iload_n (pc := 8) dX10_span_8 rfl 2 rfl (z_bipush (pc := 9) dX10_span_9 bp_m9 (?_))
    refine z_jn (P := fun (j : z_Hp → Option (Int32 × z_Hp)) => ∀ (h7 : z_Hp), z_G zi mi_X10_span 34 [(0, vr (some a0)), (1, vi x1), (2, vi x2), (3, vi x3)] [] h7 (j h7)) (fun h7 => ?_) (fun j34_6 qj34_6 => ?_)
    · refine z_aload_n (pc := 34) dX10_span_34 rfl 0 rfl (z_getRl (pc := 35) fl_RX10_89 rfl dX10_span_35 (fun o8 => (z_iload_n (pc := 38) dX10_span_38 rfl 1 rfl (z_iload_n (pc := 39) dX10_span_39 rfl 2 rfl (?_)))))
      refine z_nn (fun a9 ea9 => ?_)
      subst ea9
      refine z_iastorel (pc := 40) dX10_span_40 (fun h10 => (z_aload_n (pc := 41) dX10_span_41 rfl 0 rfl (z_getRl (pc := 42) fl_RX10_92 rfl dX10_span_42 (fun o11 => (z_iload_n (pc := 45) dX10_span_45 rfl 1 rfl (z_iload_n (pc := 46) dX10_span_46 rfl 2 rfl (z_bipush (pc := 47) dX10_span_47 bp_m9 (?_))))))))
      refine z_icmp_ne (pc := 49) (tgt := 57) dX10_span_49 (by decide) ?_ ?_
      · refine z_iload_n (pc := 57) dX10_span_57 rfl 3 rfl (?_)
        refine z_nn (fun a12 ea12 => ?_)
        subst ea12
        refine z_iastorel (pc := 58) dX10_span_58 (fun h13 => (z_iconst (pc := 59) dX10_span_59 ic_1 (?_)))
        exact z_iret (pc := 60) dX10_span_60 rfl rfl
      · refine z_bipush (pc := 52) dX10_span_52 bp_m9 (z_goto (pc := 54) (tgt := 58) dX10_span_54 (by decide) (?_))
        refine z_nn (fun a14 ea14 => ?_)
        subst ea14
        refine z_iastorel (pc := 58) dX10_span_58 (fun h15 => (z_iconst (pc := 59) dX10_span_59 ic_1 (?_)))
        exact z_iret (pc := 60) dX10_span_60 rfl rfl
    refine z_icmp_eq (pc := 11) (tgt := 34) dX10_span_11 (by decide) ?_ ?_
    · exact qj34_6 h4
    · refine z_iload_n (pc := 14) dX10_span_14 rfl 2 rfl (z_callS_I (pc := 15) (avs := [vi x2]) (st := []) rfl (t_X10_isYear F x2 h4) ky_X10_isYear ws_X10_isYear wz_RX10_259 (rm_X10_span_X10_isYear) (Nat.le_of_ble_eq_true rfl) dX10_span_15 (fun x17 h16 => (?_)))
      refine z_if_eq (pc := 18) (tgt := 32) dX10_span_18 (by decide) ?_ ?_
      · refine z_iconst (pc := 32) dX10_span_32 ic_m1 (?_)
        exact z_iret (pc := 33) dX10_span_33 rfl rfl
      · refine z_iload_n (pc := 21) dX10_span_21 rfl 3 rfl (z_iload_n (pc := 22) dX10_span_22 rfl 2 rfl (z_sipush (pc := 23) dX10_span_23 sp_1899 (z_callS_I (pc := 26) (avs := [vi x3, vi x2, vi 1899]) (st := []) rfl (t_X10_in F x3 x2 1899 h16) ky_X10_in ws_X10_in wz_RX10_166 (rm_X10_span_X10_in) (Nat.le_of_ble_eq_true rfl) dX10_span_26 (fun x19 h18 => (?_)))))
        refine z_if_ne (pc := 29) (tgt := 34) dX10_span_29 (by decide) ?_ ?_
        · exact qj34_6 h18
        · refine z_iconst (pc := 32) dX10_span_32 ic_m1 (?_)
          exact z_iret (pc := 33) dX10_span_33 rfl rfl
theorem dX10_sheetTells_0 : decode cX10_sheetTells 0 = .ok (.iload_n 2, 1) := by decide +kernel
theorem dX10_sheetTells_1 : decode cX10_sheetTells 1 = .ok (.tableswitch 103 0 7 #[47, 54, 61, 68, 75, 82, 89, 96], 47) := by decide +kernel
theorem dX10_sheetTells_48 : decode cX10_sheetTells 48 = .ok (.aload_n 0, 1) := by decide +kernel
theorem dX10_sheetTells_49 : decode cX10_sheetTells 49 = .ok (.getfield 68, 3) := by decide +kernel
theorem dX10_sheetTells_52 : decode cX10_sheetTells 52 = .ok (.iload_n 1, 1) := by decide +kernel
theorem dX10_sheetTells_53 : decode cX10_sheetTells 53 = .ok (.iaload, 1) := by decide +kernel
theorem dX10_sheetTells_54 : decode cX10_sheetTells 54 = .ok (.ireturn, 1) := by decide +kernel
theorem dX10_sheetTells_55 : decode cX10_sheetTells 55 = .ok (.aload_n 0, 1) := by decide +kernel
theorem dX10_sheetTells_56 : decode cX10_sheetTells 56 = .ok (.getfield 71, 3) := by decide +kernel
theorem dX10_sheetTells_59 : decode cX10_sheetTells 59 = .ok (.iload_n 1, 1) := by decide +kernel
theorem dX10_sheetTells_60 : decode cX10_sheetTells 60 = .ok (.iaload, 1) := by decide +kernel
theorem dX10_sheetTells_61 : decode cX10_sheetTells 61 = .ok (.ireturn, 1) := by decide +kernel
theorem dX10_sheetTells_62 : decode cX10_sheetTells 62 = .ok (.aload_n 0, 1) := by decide +kernel
theorem dX10_sheetTells_63 : decode cX10_sheetTells 63 = .ok (.getfield 74, 3) := by decide +kernel
theorem dX10_sheetTells_66 : decode cX10_sheetTells 66 = .ok (.iload_n 1, 1) := by decide +kernel
theorem dX10_sheetTells_67 : decode cX10_sheetTells 67 = .ok (.iaload, 1) := by decide +kernel
theorem dX10_sheetTells_68 : decode cX10_sheetTells 68 = .ok (.ireturn, 1) := by decide +kernel
theorem dX10_sheetTells_69 : decode cX10_sheetTells 69 = .ok (.aload_n 0, 1) := by decide +kernel
theorem dX10_sheetTells_70 : decode cX10_sheetTells 70 = .ok (.getfield 77, 3) := by decide +kernel
theorem dX10_sheetTells_73 : decode cX10_sheetTells 73 = .ok (.iload_n 1, 1) := by decide +kernel
theorem dX10_sheetTells_74 : decode cX10_sheetTells 74 = .ok (.iaload, 1) := by decide +kernel
theorem dX10_sheetTells_75 : decode cX10_sheetTells 75 = .ok (.ireturn, 1) := by decide +kernel
theorem dX10_sheetTells_76 : decode cX10_sheetTells 76 = .ok (.aload_n 0, 1) := by decide +kernel
theorem dX10_sheetTells_77 : decode cX10_sheetTells 77 = .ok (.getfield 80, 3) := by decide +kernel
theorem dX10_sheetTells_80 : decode cX10_sheetTells 80 = .ok (.iload_n 1, 1) := by decide +kernel
theorem dX10_sheetTells_81 : decode cX10_sheetTells 81 = .ok (.iaload, 1) := by decide +kernel
theorem dX10_sheetTells_82 : decode cX10_sheetTells 82 = .ok (.ireturn, 1) := by decide +kernel
theorem dX10_sheetTells_83 : decode cX10_sheetTells 83 = .ok (.aload_n 0, 1) := by decide +kernel
theorem dX10_sheetTells_84 : decode cX10_sheetTells 84 = .ok (.getfield 83, 3) := by decide +kernel
theorem dX10_sheetTells_87 : decode cX10_sheetTells 87 = .ok (.iload_n 1, 1) := by decide +kernel
theorem dX10_sheetTells_88 : decode cX10_sheetTells 88 = .ok (.iaload, 1) := by decide +kernel
theorem dX10_sheetTells_89 : decode cX10_sheetTells 89 = .ok (.ireturn, 1) := by decide +kernel
theorem dX10_sheetTells_90 : decode cX10_sheetTells 90 = .ok (.aload_n 0, 1) := by decide +kernel
theorem dX10_sheetTells_91 : decode cX10_sheetTells 91 = .ok (.getfield 86, 3) := by decide +kernel
theorem dX10_sheetTells_94 : decode cX10_sheetTells 94 = .ok (.iload_n 1, 1) := by decide +kernel
theorem dX10_sheetTells_95 : decode cX10_sheetTells 95 = .ok (.iaload, 1) := by decide +kernel
theorem dX10_sheetTells_96 : decode cX10_sheetTells 96 = .ok (.ireturn, 1) := by decide +kernel
theorem dX10_sheetTells_97 : decode cX10_sheetTells 97 = .ok (.aload_n 0, 1) := by decide +kernel
theorem dX10_sheetTells_98 : decode cX10_sheetTells 98 = .ok (.getfield 89, 3) := by decide +kernel
theorem dX10_sheetTells_101 : decode cX10_sheetTells 101 = .ok (.iload_n 1, 1) := by decide +kernel
theorem dX10_sheetTells_102 : decode cX10_sheetTells 102 = .ok (.iaload, 1) := by decide +kernel
theorem dX10_sheetTells_103 : decode cX10_sheetTells 103 = .ok (.ireturn, 1) := by decide +kernel
theorem dX10_sheetTells_104 : decode cX10_sheetTells 104 = .ok (.aload_n 0, 1) := by decide +kernel
theorem dX10_sheetTells_105 : decode cX10_sheetTells 105 = .ok (.getfield 92, 3) := by decide +kernel
theorem dX10_sheetTells_108 : decode cX10_sheetTells 108 = .ok (.iload_n 1, 1) := by decide +kernel
theorem dX10_sheetTells_109 : decode cX10_sheetTells 109 = .ok (.iaload, 1) := by decide +kernel
theorem dX10_sheetTells_110 : decode cX10_sheetTells 110 = .ok (.ireturn, 1) := by decide +kernel
def c_X10_sheetTells (F : Nat) (a0 : Nat) (x1 : Int32) (x2 : Int32) (h0 : z_Hp) : Option (Int32 × z_Hp) := (if (x2 : Int32).toInt < 0 ∨ 7 < (x2 : Int32).toInt then (if hT h0 a0 = 10 then (lt_ (hR h0 a0 35) (fun o3 => (nn o3 (fun a4 => (if okA h0 a4 20 x1 = true then (some (hI h0 a4 (ix x1), h0)) else none))))) else none) else (if x2 = 0 then (if hT h0 a0 = 10 then (lt_ (hR h0 a0 27) (fun o5 => (nn o5 (fun a6 => (if okA h0 a6 20 x1 = true then (some (hI h0 a6 (ix x1), h0)) else none))))) else none) else (if x2 = 1 then (if hT h0 a0 = 10 then (lt_ (hR h0 a0 28) (fun o7 => (nn o7 (fun a8 => (if okA h0 a8 20 x1 = true then (some (hI h0 a8 (ix x1), h0)) else none))))) else none) else (if x2 = 2 then (if hT h0 a0 = 10 then (lt_ (hR h0 a0 29) (fun o9 => (nn o9 (fun a10 => (if okA h0 a10 20 x1 = true then (some (hI h0 a10 (ix x1), h0)) else none))))) else none) else (if x2 = 3 then (if hT h0 a0 = 10 then (lt_ (hR h0 a0 30) (fun o11 => (nn o11 (fun a12 => (if okA h0 a12 20 x1 = true then (some (hI h0 a12 (ix x1), h0)) else none))))) else none) else (if x2 = 4 then (if hT h0 a0 = 10 then (lt_ (hR h0 a0 31) (fun o13 => (nn o13 (fun a14 => (if okA h0 a14 20 x1 = true then (some (hI h0 a14 (ix x1), h0)) else none))))) else none) else (if x2 = 5 then (if hT h0 a0 = 10 then (lt_ (hR h0 a0 32) (fun o15 => (nn o15 (fun a16 => (if okA h0 a16 20 x1 = true then (some (hI h0 a16 (ix x1), h0)) else none))))) else none) else (if x2 = 6 then (if hT h0 a0 = 10 then (lt_ (hR h0 a0 33) (fun o17 => (nn o17 (fun a18 => (if okA h0 a18 20 x1 = true then (some (hI h0 a18 (ix x1), h0)) else none))))) else none) else (if x2 = 7 then (if hT h0 a0 = 10 then (lt_ (hR h0 a0 34) (fun o19 => (nn o19 (fun a20 => (if okA h0 a20 20 x1 = true then (some (hI h0 a20 (ix x1), h0)) else none))))) else none) else none)))))))))
set_option maxRecDepth 20000 in
set_option maxHeartbeats 4000000 in
theorem t_X10_sheetTells (F : Nat) (a0 : Nat) (x1 : Int32) (x2 : Int32) (h0 : z_Hp) : z_Ct zi mi_X10_sheetTells [vr (some a0), vi x1, vi x2] h0 (c_X10_sheetTells F a0 x1 x2 h0) := by
  refine z_entry (by decide) (Nat.le_of_ble_eq_true rfl) [(0, vr (some a0)), (1, vi x1), (2, vi x2)] rfl ?_
  unfold c_X10_sheetTells
  refine z_iload_n (pc := 0) dX10_sheetTells_0 rfl 2 rfl (?_)
  refine z_ite (fun e => z_tblOut (tgt := 104) dX10_sheetTells_1 e (by decide) ?_) (fun e => ?_)
  · refine z_aload_n (pc := 104) dX10_sheetTells_104 rfl 0 rfl (z_getRl (pc := 105) fl_RX10_92 rfl dX10_sheetTells_105 (fun o3 => (z_iload_n (pc := 108) dX10_sheetTells_108 rfl 1 rfl (?_))))
    refine z_nn (fun a4 ea4 => ?_)
    subst ea4
    refine z_iaload (pc := 109) dX10_sheetTells_109 (?_)
    exact z_iret (pc := 110) dX10_sheetTells_110 rfl rfl
  refine z_ite (fun e => z_tblC (tgt := 48) (off := 47) e dX10_sheetTells_1 (by decide) (by decide) (by decide) (by decide) ?_) (fun _ => ?_)
  · refine z_aload_n (pc := 48) dX10_sheetTells_48 rfl 0 rfl (z_getRl (pc := 49) fl_RX10_68 rfl dX10_sheetTells_49 (fun o5 => (z_iload_n (pc := 52) dX10_sheetTells_52 rfl 1 rfl (?_))))
    refine z_nn (fun a6 ea6 => ?_)
    subst ea6
    refine z_iaload (pc := 53) dX10_sheetTells_53 (?_)
    exact z_iret (pc := 54) dX10_sheetTells_54 rfl rfl
  refine z_ite (fun e => z_tblC (tgt := 55) (off := 54) e dX10_sheetTells_1 (by decide) (by decide) (by decide) (by decide) ?_) (fun _ => ?_)
  · refine z_aload_n (pc := 55) dX10_sheetTells_55 rfl 0 rfl (z_getRl (pc := 56) fl_RX10_71 rfl dX10_sheetTells_56 (fun o7 => (z_iload_n (pc := 59) dX10_sheetTells_59 rfl 1 rfl (?_))))
    refine z_nn (fun a8 ea8 => ?_)
    subst ea8
    refine z_iaload (pc := 60) dX10_sheetTells_60 (?_)
    exact z_iret (pc := 61) dX10_sheetTells_61 rfl rfl
  refine z_ite (fun e => z_tblC (tgt := 62) (off := 61) e dX10_sheetTells_1 (by decide) (by decide) (by decide) (by decide) ?_) (fun _ => ?_)
  · refine z_aload_n (pc := 62) dX10_sheetTells_62 rfl 0 rfl (z_getRl (pc := 63) fl_RX10_74 rfl dX10_sheetTells_63 (fun o9 => (z_iload_n (pc := 66) dX10_sheetTells_66 rfl 1 rfl (?_))))
    refine z_nn (fun a10 ea10 => ?_)
    subst ea10
    refine z_iaload (pc := 67) dX10_sheetTells_67 (?_)
    exact z_iret (pc := 68) dX10_sheetTells_68 rfl rfl
  refine z_ite (fun e => z_tblC (tgt := 69) (off := 68) e dX10_sheetTells_1 (by decide) (by decide) (by decide) (by decide) ?_) (fun _ => ?_)
  · refine z_aload_n (pc := 69) dX10_sheetTells_69 rfl 0 rfl (z_getRl (pc := 70) fl_RX10_77 rfl dX10_sheetTells_70 (fun o11 => (z_iload_n (pc := 73) dX10_sheetTells_73 rfl 1 rfl (?_))))
    refine z_nn (fun a12 ea12 => ?_)
    subst ea12
    refine z_iaload (pc := 74) dX10_sheetTells_74 (?_)
    exact z_iret (pc := 75) dX10_sheetTells_75 rfl rfl
  refine z_ite (fun e => z_tblC (tgt := 76) (off := 75) e dX10_sheetTells_1 (by decide) (by decide) (by decide) (by decide) ?_) (fun _ => ?_)
  · refine z_aload_n (pc := 76) dX10_sheetTells_76 rfl 0 rfl (z_getRl (pc := 77) fl_RX10_80 rfl dX10_sheetTells_77 (fun o13 => (z_iload_n (pc := 80) dX10_sheetTells_80 rfl 1 rfl (?_))))
    refine z_nn (fun a14 ea14 => ?_)
    subst ea14
    refine z_iaload (pc := 81) dX10_sheetTells_81 (?_)
    exact z_iret (pc := 82) dX10_sheetTells_82 rfl rfl
  refine z_ite (fun e => z_tblC (tgt := 83) (off := 82) e dX10_sheetTells_1 (by decide) (by decide) (by decide) (by decide) ?_) (fun _ => ?_)
  · refine z_aload_n (pc := 83) dX10_sheetTells_83 rfl 0 rfl (z_getRl (pc := 84) fl_RX10_83 rfl dX10_sheetTells_84 (fun o15 => (z_iload_n (pc := 87) dX10_sheetTells_87 rfl 1 rfl (?_))))
    refine z_nn (fun a16 ea16 => ?_)
    subst ea16
    refine z_iaload (pc := 88) dX10_sheetTells_88 (?_)
    exact z_iret (pc := 89) dX10_sheetTells_89 rfl rfl
  refine z_ite (fun e => z_tblC (tgt := 90) (off := 89) e dX10_sheetTells_1 (by decide) (by decide) (by decide) (by decide) ?_) (fun _ => ?_)
  · refine z_aload_n (pc := 90) dX10_sheetTells_90 rfl 0 rfl (z_getRl (pc := 91) fl_RX10_86 rfl dX10_sheetTells_91 (fun o17 => (z_iload_n (pc := 94) dX10_sheetTells_94 rfl 1 rfl (?_))))
    refine z_nn (fun a18 ea18 => ?_)
    subst ea18
    refine z_iaload (pc := 95) dX10_sheetTells_95 (?_)
    exact z_iret (pc := 96) dX10_sheetTells_96 rfl rfl
  refine z_ite (fun e => z_tblC (tgt := 97) (off := 96) e dX10_sheetTells_1 (by decide) (by decide) (by decide) (by decide) ?_) (fun _ => ?_)
  · refine z_aload_n (pc := 97) dX10_sheetTells_97 rfl 0 rfl (z_getRl (pc := 98) fl_RX10_89 rfl dX10_sheetTells_98 (fun o19 => (z_iload_n (pc := 101) dX10_sheetTells_101 rfl 1 rfl (?_))))
    refine z_nn (fun a20 ea20 => ?_)
    subst ea20
    refine z_iaload (pc := 102) dX10_sheetTells_102 (?_)
    exact z_iret (pc := 103) dX10_sheetTells_103 rfl rfl
  exact z_none
theorem dX10_told_0 : decode cX10_told 0 = .ok (.aload_n 0, 1) := by decide +kernel
theorem dX10_told_1 : decode cX10_told 1 = .ok (.iload_n 1, 1) := by decide +kernel
theorem dX10_told_2 : decode cX10_told 2 = .ok (.invokevirtual 265, 3) := by decide +kernel
theorem dX10_told_5 : decode cX10_told 5 = .ok (.ifCond .eq 27, 3) := by decide +kernel
theorem dX10_told_8 : decode cX10_told 8 = .ok (.iload_n 2, 1) := by decide +kernel
theorem dX10_told_9 : decode cX10_told 9 = .ok (.iconst 0, 1) := by decide +kernel
theorem dX10_told_10 : decode cX10_told 10 = .ok (.bipush 8, 2) := by decide +kernel
theorem dX10_told_12 : decode cX10_told 12 = .ok (.invokestatic 166, 3) := by decide +kernel
theorem dX10_told_15 : decode cX10_told 15 = .ok (.ifCond .eq 17, 3) := by decide +kernel
theorem dX10_told_18 : decode cX10_told 18 = .ok (.aload_n 0, 1) := by decide +kernel
theorem dX10_told_19 : decode cX10_told 19 = .ok (.aload_n 0, 1) := by decide +kernel
theorem dX10_told_20 : decode cX10_told 20 = .ok (.iload_n 1, 1) := by decide +kernel
theorem dX10_told_21 : decode cX10_told 21 = .ok (.iload_n 2, 1) := by decide +kernel
theorem dX10_told_22 : decode cX10_told 22 = .ok (.invokevirtual 269, 3) := by decide +kernel
theorem dX10_told_25 : decode cX10_told 25 = .ok (.iconst 1, 1) := by decide +kernel
theorem dX10_told_26 : decode cX10_told 26 = .ok (.invokevirtual 184, 3) := by decide +kernel
theorem dX10_told_29 : decode cX10_told 29 = .ok (.goto 4, 3) := by decide +kernel
theorem dX10_told_32 : decode cX10_told 32 = .ok (.iconst (-1), 1) := by decide +kernel
theorem dX10_told_33 : decode cX10_told 33 = .ok (.ireturn, 1) := by decide +kernel
def c_X10_told (F : Nat) (a0 : Nat) (x1 : Int32) (x2 : Int32) (h0 : z_Hp) : Option (Int32 × z_Hp) := (if hT h0 a0 = 10 then (bI (c_X10_isSheet F a0 x1 h0) (fun x4 h3 => (if x4 = 0 then (some ((-1), h3)) else (bI (c_X10_in F x2 0 8 h3) (fun x6 h5 => (if x6 = 0 then (some ((-1), h5)) else (if hT h5 a0 = 10 then (bI (c_X10_sheetTells F a0 x1 x2 h5) (fun x8 h7 => (if hT h7 a0 = 10 then (bI (c_X10_ask F a0 x8 1 h7) (fun x10 h9 => (some (x10, h9)))) else none))) else none))))))) else none)
set_option maxRecDepth 20000 in
set_option maxHeartbeats 4000000 in
theorem t_X10_told (F : Nat) (a0 : Nat) (x1 : Int32) (x2 : Int32) (h0 : z_Hp) : z_Ct zi mi_X10_told [vr (some a0), vi x1, vi x2] h0 (c_X10_told F a0 x1 x2 h0) := by
  refine z_entry (by decide) (Nat.le_of_ble_eq_true rfl) [(0, vr (some a0)), (1, vi x1), (2, vi x2)] rfl ?_
  unfold c_X10_told
  refine z_aload_n (pc := 0) dX10_told_0 rfl 0 rfl (z_iload_n (pc := 1) dX10_told_1 rfl 1 rfl (z_callV_I (pc := 2) (avs := [vi x1]) (st := []) rfl (q := (RX10, TX10, 62)) rfl rfl (t_X10_isSheet F a0 x1 h0) ky_X10_isSheet wm_X10_isSheet we_X10_isSheet wz_RX10_265 (rm_X10_told_X10_isSheet) (Nat.le_of_ble_eq_true rfl) dX10_told_2 (fun x4 h3 => (?_))))
  refine z_if_eq (pc := 5) (tgt := 32) dX10_told_5 (by decide) ?_ ?_
  · refine z_iconst (pc := 32) dX10_told_32 ic_m1 (?_)
    exact z_iret (pc := 33) dX10_told_33 rfl rfl
  · refine z_iload_n (pc := 8) dX10_told_8 rfl 2 rfl (z_iconst (pc := 9) dX10_told_9 ic_0 (z_bipush (pc := 10) dX10_told_10 bp_8 (z_callS_I (pc := 12) (avs := [vi x2, vi 0, vi 8]) (st := []) rfl (t_X10_in F x2 0 8 h3) ky_X10_in ws_X10_in wz_RX10_166 (rm_X10_told_X10_in) (Nat.le_of_ble_eq_true rfl) dX10_told_12 (fun x6 h5 => (?_)))))
    refine z_if_eq (pc := 15) (tgt := 32) dX10_told_15 (by decide) ?_ ?_
    · refine z_iconst (pc := 32) dX10_told_32 ic_m1 (?_)
      exact z_iret (pc := 33) dX10_told_33 rfl rfl
    · refine z_aload_n (pc := 18) dX10_told_18 rfl 0 rfl (z_aload_n (pc := 19) dX10_told_19 rfl 0 rfl (z_iload_n (pc := 20) dX10_told_20 rfl 1 rfl (z_iload_n (pc := 21) dX10_told_21 rfl 2 rfl (z_callV_I (pc := 22) (avs := [vi x1, vi x2]) (st := [vr (some a0)]) rfl (q := (RX10, TX10, 62)) rfl rfl (t_X10_sheetTells F a0 x1 x2 h5) ky_X10_sheetTells wm_X10_sheetTells we_X10_sheetTells wz_RX10_269 (rm_X10_told_X10_sheetTells) (Nat.le_of_ble_eq_true rfl) dX10_told_22 (fun x8 h7 => (?_))))))
      refine z_iconst (pc := 25) dX10_told_25 ic_1 (z_callV_I (pc := 26) (avs := [vi x8, vi 1]) (st := []) rfl (q := (RX10, TX10, 62)) rfl rfl (t_X10_ask F a0 x8 1 h7) ky_X10_ask wm_X10_ask we_X10_ask wz_RX10_184 (rm_X10_told_X10_ask) (Nat.le_of_ble_eq_true rfl) dX10_told_26 (fun x10 h9 => (?_)))
      refine z_goto (pc := 29) (tgt := 33) dX10_told_29 (by decide) (?_)
      exact z_iret (pc := 33) dX10_told_33 rfl rfl
theorem dX10_isCopy_0 : decode cX10_isCopy 0 = .ok (.aload_n 0, 1) := by decide +kernel
theorem dX10_isCopy_1 : decode cX10_isCopy 1 = .ok (.getfield 68, 3) := by decide +kernel
theorem dX10_isCopy_4 : decode cX10_isCopy 4 = .ok (.iload_n 1, 1) := by decide +kernel
theorem dX10_isCopy_5 : decode cX10_isCopy 5 = .ok (.iaload, 1) := by decide +kernel
theorem dX10_isCopy_6 : decode cX10_isCopy 6 = .ok (.iconst 1, 1) := by decide +kernel
theorem dX10_isCopy_7 : decode cX10_isCopy 7 = .ok (.if_icmp .eq 13, 3) := by decide +kernel
theorem dX10_isCopy_10 : decode cX10_isCopy 10 = .ok (.aload_n 0, 1) := by decide +kernel
theorem dX10_isCopy_11 : decode cX10_isCopy 11 = .ok (.getfield 68, 3) := by decide +kernel
theorem dX10_isCopy_14 : decode cX10_isCopy 14 = .ok (.iload_n 1, 1) := by decide +kernel
theorem dX10_isCopy_15 : decode cX10_isCopy 15 = .ok (.iaload, 1) := by decide +kernel
theorem dX10_isCopy_16 : decode cX10_isCopy 16 = .ok (.iconst 2, 1) := by decide +kernel
theorem dX10_isCopy_17 : decode cX10_isCopy 17 = .ok (.if_icmp .ne 7, 3) := by decide +kernel
theorem dX10_isCopy_20 : decode cX10_isCopy 20 = .ok (.iconst 1, 1) := by decide +kernel
theorem dX10_isCopy_21 : decode cX10_isCopy 21 = .ok (.goto 4, 3) := by decide +kernel
theorem dX10_isCopy_24 : decode cX10_isCopy 24 = .ok (.iconst 0, 1) := by decide +kernel
theorem dX10_isCopy_25 : decode cX10_isCopy 25 = .ok (.ireturn, 1) := by decide +kernel
def c_X10_isCopy (F : Nat) (a0 : Nat) (x1 : Int32) (h0 : z_Hp) : Option (Int32 × z_Hp) := (if hT h0 a0 = 10 then (lt_ (hR h0 a0 27) (fun o2 => (nn o2 (fun a3 => (if okA h0 a3 20 x1 = true then (if (hI h0 a3 (ix x1)) = 1 then (some (1, h0)) else (if hT h0 a0 = 10 then (lt_ (hR h0 a0 27) (fun o4 => (nn o4 (fun a5 => (if okA h0 a5 20 x1 = true then (if (hI h0 a5 (ix x1)) = 2 then (some (1, h0)) else (some (0, h0))) else none))))) else none)) else none))))) else none)
set_option maxRecDepth 20000 in
set_option maxHeartbeats 4000000 in
theorem t_X10_isCopy (F : Nat) (a0 : Nat) (x1 : Int32) (h0 : z_Hp) : z_Ct zi mi_X10_isCopy [vr (some a0), vi x1] h0 (c_X10_isCopy F a0 x1 h0) := by
  refine z_entry (by decide) (Nat.le_of_ble_eq_true rfl) [(0, vr (some a0)), (1, vi x1)] rfl ?_
  unfold c_X10_isCopy
  refine z_aload_n (pc := 0) dX10_isCopy_0 rfl 0 rfl (z_getRl (pc := 1) fl_RX10_68 rfl dX10_isCopy_1 (fun o2 => (z_iload_n (pc := 4) dX10_isCopy_4 rfl 1 rfl (?_))))
  refine z_nn (fun a3 ea3 => ?_)
  subst ea3
  refine z_iaload (pc := 5) dX10_isCopy_5 (z_iconst (pc := 6) dX10_isCopy_6 ic_1 (?_))
  refine z_icmp_eq (pc := 7) (tgt := 20) dX10_isCopy_7 (by decide) ?_ ?_
  · refine z_iconst (pc := 20) dX10_isCopy_20 ic_1 (z_goto (pc := 21) (tgt := 25) dX10_isCopy_21 (by decide) (?_))
    exact z_iret (pc := 25) dX10_isCopy_25 rfl rfl
  · refine z_aload_n (pc := 10) dX10_isCopy_10 rfl 0 rfl (z_getRl (pc := 11) fl_RX10_68 rfl dX10_isCopy_11 (fun o4 => (z_iload_n (pc := 14) dX10_isCopy_14 rfl 1 rfl (?_))))
    refine z_nn (fun a5 ea5 => ?_)
    subst ea5
    refine z_iaload (pc := 15) dX10_isCopy_15 (z_iconst (pc := 16) dX10_isCopy_16 ic_2 (?_))
    refine z_icmp_ne (pc := 17) (tgt := 24) dX10_isCopy_17 (by decide) ?_ ?_
    · refine z_iconst (pc := 24) dX10_isCopy_24 ic_0 (?_)
      exact z_iret (pc := 25) dX10_isCopy_25 rfl rfl
    · refine z_iconst (pc := 20) dX10_isCopy_20 ic_1 (z_goto (pc := 21) (tgt := 25) dX10_isCopy_21 (by decide) (?_))
      exact z_iret (pc := 25) dX10_isCopy_25 rfl rfl
theorem dX10_isLike_0 : decode cX10_isLike 0 = .ok (.aload_n 0, 1) := by decide +kernel
theorem dX10_isLike_1 : decode cX10_isLike 1 = .ok (.getfield 74, 3) := by decide +kernel
theorem dX10_isLike_4 : decode cX10_isLike 4 = .ok (.iload_n 1, 1) := by decide +kernel
theorem dX10_isLike_5 : decode cX10_isLike 5 = .ok (.iaload, 1) := by decide +kernel
theorem dX10_isLike_6 : decode cX10_isLike 6 = .ok (.aload_n 0, 1) := by decide +kernel
theorem dX10_isLike_7 : decode cX10_isLike 7 = .ok (.getfield 74, 3) := by decide +kernel
theorem dX10_isLike_10 : decode cX10_isLike 10 = .ok (.iload_n 2, 1) := by decide +kernel
theorem dX10_isLike_11 : decode cX10_isLike 11 = .ok (.iaload, 1) := by decide +kernel
theorem dX10_isLike_12 : decode cX10_isLike 12 = .ok (.if_icmp .ne 22, 3) := by decide +kernel
theorem dX10_isLike_15 : decode cX10_isLike 15 = .ok (.aload_n 0, 1) := by decide +kernel
theorem dX10_isLike_16 : decode cX10_isLike 16 = .ok (.getfield 71, 3) := by decide +kernel
theorem dX10_isLike_19 : decode cX10_isLike 19 = .ok (.iload_n 1, 1) := by decide +kernel
theorem dX10_isLike_20 : decode cX10_isLike 20 = .ok (.iaload, 1) := by decide +kernel
theorem dX10_isLike_21 : decode cX10_isLike 21 = .ok (.aload_n 0, 1) := by decide +kernel
theorem dX10_isLike_22 : decode cX10_isLike 22 = .ok (.getfield 71, 3) := by decide +kernel
theorem dX10_isLike_25 : decode cX10_isLike 25 = .ok (.iload_n 2, 1) := by decide +kernel
theorem dX10_isLike_26 : decode cX10_isLike 26 = .ok (.iaload, 1) := by decide +kernel
theorem dX10_isLike_27 : decode cX10_isLike 27 = .ok (.if_icmp .ne 7, 3) := by decide +kernel
theorem dX10_isLike_30 : decode cX10_isLike 30 = .ok (.iconst 1, 1) := by decide +kernel
theorem dX10_isLike_31 : decode cX10_isLike 31 = .ok (.goto 4, 3) := by decide +kernel
theorem dX10_isLike_34 : decode cX10_isLike 34 = .ok (.iconst 0, 1) := by decide +kernel
theorem dX10_isLike_35 : decode cX10_isLike 35 = .ok (.ireturn, 1) := by decide +kernel
def c_X10_isLike (F : Nat) (a0 : Nat) (x1 : Int32) (x2 : Int32) (h0 : z_Hp) : Option (Int32 × z_Hp) := (if hT h0 a0 = 10 then (lt_ (hR h0 a0 29) (fun o3 => (nn o3 (fun a4 => (if okA h0 a4 20 x1 = true then (if hT h0 a0 = 10 then (lt_ (hR h0 a0 29) (fun o5 => (nn o5 (fun a6 => (if okA h0 a6 20 x2 = true then (if (hI h0 a4 (ix x1)) = (hI h0 a6 (ix x2)) then (if hT h0 a0 = 10 then (lt_ (hR h0 a0 28) (fun o7 => (nn o7 (fun a8 => (if okA h0 a8 20 x1 = true then (if hT h0 a0 = 10 then (lt_ (hR h0 a0 28) (fun o9 => (nn o9 (fun a10 => (if okA h0 a10 20 x2 = true then (if (hI h0 a8 (ix x1)) = (hI h0 a10 (ix x2)) then (some (1, h0)) else (some (0, h0))) else none))))) else none) else none))))) else none) else (some (0, h0))) else none))))) else none) else none))))) else none)
set_option maxRecDepth 20000 in
set_option maxHeartbeats 4000000 in
theorem t_X10_isLike (F : Nat) (a0 : Nat) (x1 : Int32) (x2 : Int32) (h0 : z_Hp) : z_Ct zi mi_X10_isLike [vr (some a0), vi x1, vi x2] h0 (c_X10_isLike F a0 x1 x2 h0) := by
  refine z_entry (by decide) (Nat.le_of_ble_eq_true rfl) [(0, vr (some a0)), (1, vi x1), (2, vi x2)] rfl ?_
  unfold c_X10_isLike
  refine z_aload_n (pc := 0) dX10_isLike_0 rfl 0 rfl (z_getRl (pc := 1) fl_RX10_74 rfl dX10_isLike_1 (fun o3 => (z_iload_n (pc := 4) dX10_isLike_4 rfl 1 rfl (?_))))
  refine z_nn (fun a4 ea4 => ?_)
  subst ea4
  refine z_iaload (pc := 5) dX10_isLike_5 (z_aload_n (pc := 6) dX10_isLike_6 rfl 0 rfl (z_getRl (pc := 7) fl_RX10_74 rfl dX10_isLike_7 (fun o5 => (z_iload_n (pc := 10) dX10_isLike_10 rfl 2 rfl (?_)))))
  refine z_nn (fun a6 ea6 => ?_)
  subst ea6
  refine z_iaload (pc := 11) dX10_isLike_11 (?_)
  refine z_icmp_ne (pc := 12) (tgt := 34) dX10_isLike_12 (by decide) ?_ ?_
  · refine z_iconst (pc := 34) dX10_isLike_34 ic_0 (?_)
    exact z_iret (pc := 35) dX10_isLike_35 rfl rfl
  · refine z_aload_n (pc := 15) dX10_isLike_15 rfl 0 rfl (z_getRl (pc := 16) fl_RX10_71 rfl dX10_isLike_16 (fun o7 => (z_iload_n (pc := 19) dX10_isLike_19 rfl 1 rfl (?_))))
    refine z_nn (fun a8 ea8 => ?_)
    subst ea8
    refine z_iaload (pc := 20) dX10_isLike_20 (z_aload_n (pc := 21) dX10_isLike_21 rfl 0 rfl (z_getRl (pc := 22) fl_RX10_71 rfl dX10_isLike_22 (fun o9 => (z_iload_n (pc := 25) dX10_isLike_25 rfl 2 rfl (?_)))))
    refine z_nn (fun a10 ea10 => ?_)
    subst ea10
    refine z_iaload (pc := 26) dX10_isLike_26 (?_)
    refine z_icmp_ne (pc := 27) (tgt := 34) dX10_isLike_27 (by decide) ?_ ?_
    · refine z_iconst (pc := 34) dX10_isLike_34 ic_0 (?_)
      exact z_iret (pc := 35) dX10_isLike_35 rfl rfl
    · refine z_iconst (pc := 30) dX10_isLike_30 ic_1 (z_goto (pc := 31) (tgt := 35) dX10_isLike_31 (by decide) (?_))
      exact z_iret (pc := 35) dX10_isLike_35 rfl rfl
theorem dX10_copiesLike_0 : decode cX10_copiesLike 0 = .ok (.iconst 0, 1) := by decide +kernel
theorem dX10_copiesLike_1 : decode cX10_copiesLike 1 = .ok (.istore_n 2, 1) := by decide +kernel
theorem dX10_copiesLike_2 : decode cX10_copiesLike 2 = .ok (.iconst 0, 1) := by decide +kernel
theorem dX10_copiesLike_3 : decode cX10_copiesLike 3 = .ok (.istore_n 3, 1) := by decide +kernel
theorem dX10_copiesLike_4 : decode cX10_copiesLike 4 = .ok (.iload_n 3, 1) := by decide +kernel
theorem dX10_copiesLike_5 : decode cX10_copiesLike 5 = .ok (.aload_n 0, 1) := by decide +kernel
theorem dX10_copiesLike_6 : decode cX10_copiesLike 6 = .ok (.getfield 262, 3) := by decide +kernel
theorem dX10_copiesLike_9 : decode cX10_copiesLike 9 = .ok (.if_icmp .ge 34, 3) := by decide +kernel
theorem dX10_copiesLike_12 : decode cX10_copiesLike 12 = .ok (.iload_n 2, 1) := by decide +kernel
theorem dX10_copiesLike_13 : decode cX10_copiesLike 13 = .ok (.aload_n 0, 1) := by decide +kernel
theorem dX10_copiesLike_14 : decode cX10_copiesLike 14 = .ok (.iload_n 3, 1) := by decide +kernel
theorem dX10_copiesLike_15 : decode cX10_copiesLike 15 = .ok (.invokevirtual 272, 3) := by decide +kernel
theorem dX10_copiesLike_18 : decode cX10_copiesLike 18 = .ok (.ifCond .eq 16, 3) := by decide +kernel
theorem dX10_copiesLike_21 : decode cX10_copiesLike 21 = .ok (.aload_n 0, 1) := by decide +kernel
theorem dX10_copiesLike_22 : decode cX10_copiesLike 22 = .ok (.iload_n 1, 1) := by decide +kernel
theorem dX10_copiesLike_23 : decode cX10_copiesLike 23 = .ok (.iload_n 3, 1) := by decide +kernel
theorem dX10_copiesLike_24 : decode cX10_copiesLike 24 = .ok (.invokevirtual 275, 3) := by decide +kernel
theorem dX10_copiesLike_27 : decode cX10_copiesLike 27 = .ok (.ifCond .eq 7, 3) := by decide +kernel
theorem dX10_copiesLike_30 : decode cX10_copiesLike 30 = .ok (.iconst 1, 1) := by decide +kernel
theorem dX10_copiesLike_31 : decode cX10_copiesLike 31 = .ok (.goto 4, 3) := by decide +kernel
theorem dX10_copiesLike_34 : decode cX10_copiesLike 34 = .ok (.iconst 0, 1) := by decide +kernel
theorem dX10_copiesLike_35 : decode cX10_copiesLike 35 = .ok (.iadd, 1) := by decide +kernel
theorem dX10_copiesLike_36 : decode cX10_copiesLike 36 = .ok (.istore_n 2, 1) := by decide +kernel
theorem dX10_copiesLike_37 : decode cX10_copiesLike 37 = .ok (.iinc 3 1, 3) := by decide +kernel
theorem dX10_copiesLike_40 : decode cX10_copiesLike 40 = .ok (.goto (-36), 3) := by decide +kernel
theorem dX10_copiesLike_43 : decode cX10_copiesLike 43 = .ok (.iload_n 2, 1) := by decide +kernel
theorem dX10_copiesLike_44 : decode cX10_copiesLike 44 = .ok (.ireturn, 1) := by decide +kernel
def c_X10_copiesLike_L4 (F : Nat) (a2 : Nat) (x3 : Int32) : Nat → Int32 → Int32 → z_Hp → Option (Int32 × z_Hp)
  | 0, _, _, _ => none
  | n + 1, x4, x5, h6 => (if hT h6 a2 = 10 then (if (hI h6 a2 26) ≤ x5 then (some (x4, h6)) else (if hT h6 a2 = 10 then (bI (c_X10_isCopy F a2 x5 h6) (fun x8 h7 => (lt_ (fun (x10 : Int32) (h11 : z_Hp) => (lt_ (x4 + x10) (fun x12 => (lt_ (x5 + 1) (fun x13 => (c_X10_copiesLike_L4 F a2 x3 n x12 x13 h11)))))) (fun (j35_9 : Int32 → z_Hp → Option (Int32 × z_Hp)) => (lt_ (fun (h15 : z_Hp) => (j35_9 0 h15)) (fun (j34_14 : z_Hp → Option (Int32 × z_Hp)) => (if x8 = 0 then (j34_14 h7) else (if hT h7 a2 = 10 then (bI (c_X10_isLike F a2 x3 x5 h7) (fun x17 h16 => (if x17 = 0 then (j34_14 h16) else (j35_9 1 h16)))) else none)))))))) else none)) else none)
def c_X10_copiesLike (F : Nat) (a0 : Nat) (x1 : Int32) (h0 : z_Hp) : Option (Int32 × z_Hp) := (c_X10_copiesLike_L4 F a0 x1 F 0 0 h0)
set_option maxRecDepth 20000 in
set_option maxHeartbeats 4000000 in
theorem g_X10_copiesLike_L4 (F : Nat) (a2 : Nat) (x3 : Int32) : ∀ (n : Nat) (x4 : Int32) (x5 : Int32) (h6 : z_Hp), z_G zi mi_X10_copiesLike 4 [(0, vr (some a2)), (1, vi x3), (2, vi x4), (3, vi x5)] [] h6 (c_X10_copiesLike_L4 F a2 x3 n x4 x5 h6) := by
  intro n
  induction n with
  | zero => intro x4 x5 h6; rw [c_X10_copiesLike_L4]; exact z_none
  | succ n ih =>
    intro x4 x5 h6
    rw [c_X10_copiesLike_L4]
    refine z_iload_n (pc := 4) dX10_copiesLike_4 rfl 3 rfl (z_aload_n (pc := 5) dX10_copiesLike_5 rfl 0 rfl (z_getI (pc := 6) fl_RX10_262 rfl dX10_copiesLike_6 (?_)))
    refine z_icmp_ge (pc := 9) (tgt := 43) dX10_copiesLike_9 (by decide) ?_ ?_
    · refine z_iload_n (pc := 43) dX10_copiesLike_43 rfl 2 rfl (?_)
      exact z_iret (pc := 44) dX10_copiesLike_44 rfl rfl
    · refine z_iload_n (pc := 12) dX10_copiesLike_12 rfl 2 rfl (z_aload_n (pc := 13) dX10_copiesLike_13 rfl 0 rfl (z_iload_n (pc := 14) dX10_copiesLike_14 rfl 3 rfl (z_callV_I (pc := 15) (avs := [vi x5]) (st := [vi x4]) rfl (q := (RX10, TX10, 62)) rfl rfl (t_X10_isCopy F a2 x5 h6) ky_X10_isCopy wm_X10_isCopy we_X10_isCopy wz_RX10_272 (rm_X10_copiesLike_X10_isCopy) (Nat.le_of_ble_eq_true rfl) dX10_copiesLike_15 (fun x8 h7 => (?_)))))
      refine z_jn (P := fun (j : Int32 → z_Hp → Option (Int32 × z_Hp)) => ∀ (x10 : Int32) (h11 : z_Hp), z_G zi mi_X10_copiesLike 35 [(0, vr (some a2)), (1, vi x3), (3, vi x5)] [vi x10, vi x4] h11 (j x10 h11)) (fun x10 h11 => ?_) (fun j35_9 qj35_9 => ?_)
      · refine z_iadd (pc := 35) dX10_copiesLike_35 (z_istorel_n (pc := 36) (L' := fun x12 => [(0, vr (some a2)), (1, vi x3), (2, vi x12), (3, vi x5)]) dX10_copiesLike_36 rfl (Nat.le_of_ble_eq_true rfl) (fun _ => rfl) (fun x12 => (z_iincl (pc := 37) (L' := fun x13 => [(0, vr (some a2)), (1, vi x3), (2, vi x12), (3, vi x13)]) dX10_copiesLike_37 3 rfl ic_1 (Nat.le_of_ble_eq_true rfl) (fun _ => rfl) (fun x13 => (z_goto (pc := 40) (tgt := 4) dX10_copiesLike_40 (by decide) (?_))))))
        exact ih x12 x13 h11
      refine z_jn (P := fun (j : z_Hp → Option (Int32 × z_Hp)) => ∀ (h15 : z_Hp), z_G zi mi_X10_copiesLike 34 [(0, vr (some a2)), (1, vi x3), (3, vi x5)] [vi x4] h15 (j h15)) (fun h15 => ?_) (fun j34_14 qj34_14 => ?_)
      · refine z_iconst (pc := 34) dX10_copiesLike_34 ic_0 (?_)
        exact qj35_9 0 h15
      refine z_if_eq (pc := 18) (tgt := 34) dX10_copiesLike_18 (by decide) ?_ ?_
      · exact z_sub [0, 1, 3] rfl (qj34_14 h7)
      · refine z_aload_n (pc := 21) dX10_copiesLike_21 rfl 0 rfl (z_iload_n (pc := 22) dX10_copiesLike_22 rfl 1 rfl (z_iload_n (pc := 23) dX10_copiesLike_23 rfl 3 rfl (z_callV_I (pc := 24) (avs := [vi x3, vi x5]) (st := [vi x4]) rfl (q := (RX10, TX10, 62)) rfl rfl (t_X10_isLike F a2 x3 x5 h7) ky_X10_isLike wm_X10_isLike we_X10_isLike wz_RX10_275 (rm_X10_copiesLike_X10_isLike) (Nat.le_of_ble_eq_true rfl) dX10_copiesLike_24 (fun x17 h16 => (?_)))))
        refine z_if_eq (pc := 27) (tgt := 34) dX10_copiesLike_27 (by decide) ?_ ?_
        · exact z_sub [0, 1, 3] rfl (qj34_14 h16)
        · refine z_iconst (pc := 30) dX10_copiesLike_30 ic_1 (z_goto (pc := 31) (tgt := 35) dX10_copiesLike_31 (by decide) (?_))
          exact z_sub [0, 1, 3] rfl (qj35_9 1 h16)
set_option maxRecDepth 20000 in
set_option maxHeartbeats 4000000 in
theorem t_X10_copiesLike (F : Nat) (a0 : Nat) (x1 : Int32) (h0 : z_Hp) : z_Ct zi mi_X10_copiesLike [vr (some a0), vi x1] h0 (c_X10_copiesLike F a0 x1 h0) := by
  refine z_entry (by decide) (Nat.le_of_ble_eq_true rfl) [(0, vr (some a0)), (1, vi x1)] rfl ?_
  unfold c_X10_copiesLike
  refine z_iconst (pc := 0) dX10_copiesLike_0 ic_0 (z_istore_n (pc := 1) (L' := [(0, vr (some a0)), (1, vi x1), (2, vi 0)]) dX10_copiesLike_1 rfl (Nat.le_of_ble_eq_true rfl) rfl (z_iconst (pc := 2) dX10_copiesLike_2 ic_0 (z_istore_n (pc := 3) (L' := [(0, vr (some a0)), (1, vi x1), (2, vi 0), (3, vi 0)]) dX10_copiesLike_3 rfl (Nat.le_of_ble_eq_true rfl) rfl (?_))))
  refine g_X10_copiesLike_L4 F a0 x1 F 0 0 h0
theorem dX10_areTaken_0 : decode cX10_areTaken 0 = .ok (.aload_n 0, 1) := by decide +kernel
theorem dX10_areTaken_1 : decode cX10_areTaken 1 = .ok (.getfield 86, 3) := by decide +kernel
theorem dX10_areTaken_4 : decode cX10_areTaken 4 = .ok (.iload_n 1, 1) := by decide +kernel
theorem dX10_areTaken_5 : decode cX10_areTaken 5 = .ok (.iaload, 1) := by decide +kernel
theorem dX10_areTaken_6 : decode cX10_areTaken 6 = .ok (.aload_n 0, 1) := by decide +kernel
theorem dX10_areTaken_7 : decode cX10_areTaken 7 = .ok (.getfield 86, 3) := by decide +kernel
theorem dX10_areTaken_10 : decode cX10_areTaken 10 = .ok (.iload_n 2, 1) := by decide +kernel
theorem dX10_areTaken_11 : decode cX10_areTaken 11 = .ok (.iaload, 1) := by decide +kernel
theorem dX10_areTaken_12 : decode cX10_areTaken 12 = .ok (.iand, 1) := by decide +kernel
theorem dX10_areTaken_13 : decode cX10_areTaken 13 = .ok (.invokestatic 279, 3) := by decide +kernel
theorem dX10_areTaken_16 : decode cX10_areTaken 16 = .ok (.aload_n 0, 1) := by decide +kernel
theorem dX10_areTaken_17 : decode cX10_areTaken 17 = .ok (.iconst 2, 1) := by decide +kernel
theorem dX10_areTaken_18 : decode cX10_areTaken 18 = .ok (.invokevirtual 228, 3) := by decide +kernel
theorem dX10_areTaken_21 : decode cX10_areTaken 21 = .ok (.if_icmp .lt 7, 3) := by decide +kernel
theorem dX10_areTaken_24 : decode cX10_areTaken 24 = .ok (.iconst 1, 1) := by decide +kernel
theorem dX10_areTaken_25 : decode cX10_areTaken 25 = .ok (.goto 4, 3) := by decide +kernel
theorem dX10_areTaken_28 : decode cX10_areTaken 28 = .ok (.iconst 0, 1) := by decide +kernel
theorem dX10_areTaken_29 : decode cX10_areTaken 29 = .ok (.ireturn, 1) := by decide +kernel
def c_X10_areTaken (F : Nat) (a0 : Nat) (x1 : Int32) (x2 : Int32) (h0 : z_Hp) : Option (Int32 × z_Hp) := (if hT h0 a0 = 10 then (lt_ (hR h0 a0 33) (fun o3 => (nn o3 (fun a4 => (if okA h0 a4 20 x1 = true then (if hT h0 a0 = 10 then (lt_ (hR h0 a0 33) (fun o5 => (nn o5 (fun a6 => (if okA h0 a6 20 x2 = true then (bI (c_X10_bits F ((hI h0 a4 (ix x1)) &&& (hI h0 a6 (ix x2))) h0) (fun x8 h7 => (if hT h7 a0 = 10 then (bI (c_X10_nowInForce F a0 2 h7) (fun x10 h9 => (if x8 < x10 then (some (0, h9)) else (some (1, h9))))) else none))) else none))))) else none) else none))))) else none)
set_option maxRecDepth 20000 in
set_option maxHeartbeats 4000000 in
theorem t_X10_areTaken (F : Nat) (a0 : Nat) (x1 : Int32) (x2 : Int32) (h0 : z_Hp) : z_Ct zi mi_X10_areTaken [vr (some a0), vi x1, vi x2] h0 (c_X10_areTaken F a0 x1 x2 h0) := by
  refine z_entry (by decide) (Nat.le_of_ble_eq_true rfl) [(0, vr (some a0)), (1, vi x1), (2, vi x2)] rfl ?_
  unfold c_X10_areTaken
  refine z_aload_n (pc := 0) dX10_areTaken_0 rfl 0 rfl (z_getRl (pc := 1) fl_RX10_86 rfl dX10_areTaken_1 (fun o3 => (z_iload_n (pc := 4) dX10_areTaken_4 rfl 1 rfl (?_))))
  refine z_nn (fun a4 ea4 => ?_)
  subst ea4
  refine z_iaload (pc := 5) dX10_areTaken_5 (z_aload_n (pc := 6) dX10_areTaken_6 rfl 0 rfl (z_getRl (pc := 7) fl_RX10_86 rfl dX10_areTaken_7 (fun o5 => (z_iload_n (pc := 10) dX10_areTaken_10 rfl 2 rfl (?_)))))
  refine z_nn (fun a6 ea6 => ?_)
  subst ea6
  refine z_iaload (pc := 11) dX10_areTaken_11 (z_iand (pc := 12) dX10_areTaken_12 (z_callS_I (pc := 13) (avs := [vi ((hI h0 a4 (ix x1)) &&& (hI h0 a6 (ix x2)))]) (st := []) rfl (t_X10_bits F ((hI h0 a4 (ix x1)) &&& (hI h0 a6 (ix x2))) h0) ky_X10_bits ws_X10_bits wz_RX10_279 (rm_X10_areTaken_X10_bits) (Nat.le_of_ble_eq_true rfl) dX10_areTaken_13 (fun x8 h7 => (?_))))
  refine z_aload_n (pc := 16) dX10_areTaken_16 rfl 0 rfl (z_iconst (pc := 17) dX10_areTaken_17 ic_2 (z_callV_I (pc := 18) (avs := [vi 2]) (st := [vi x8]) rfl (q := (RX10, TX10, 62)) rfl rfl (t_X10_nowInForce F a0 2 h7) ky_X10_nowInForce wm_X10_nowInForce we_X10_nowInForce wz_RX10_228 (rm_X10_areTaken_X10_nowInForce) (Nat.le_of_ble_eq_true rfl) dX10_areTaken_18 (fun x10 h9 => (?_))))
  refine z_icmp_lt (pc := 21) (tgt := 28) dX10_areTaken_21 (by decide) ?_ ?_
  · refine z_iconst (pc := 28) dX10_areTaken_28 ic_0 (?_)
    exact z_iret (pc := 29) dX10_areTaken_29 rfl rfl
  · refine z_iconst (pc := 24) dX10_areTaken_24 ic_1 (z_goto (pc := 25) (tgt := 29) dX10_areTaken_25 (by decide) (?_))
    exact z_iret (pc := 29) dX10_areTaken_29 rfl rfl
theorem dX10_placeOf_0 : decode cX10_placeOf 0 = .ok (.aload_n 0, 1) := by decide +kernel
theorem dX10_placeOf_1 : decode cX10_placeOf 1 = .ok (.getfield 141, 3) := by decide +kernel
theorem dX10_placeOf_4 : decode cX10_placeOf 4 = .ok (.iload_n 1, 1) := by decide +kernel
theorem dX10_placeOf_5 : decode cX10_placeOf 5 = .ok (.iaload, 1) := by decide +kernel
theorem dX10_placeOf_6 : decode cX10_placeOf 6 = .ok (.ifCond .ge 8, 3) := by decide +kernel
theorem dX10_placeOf_9 : decode cX10_placeOf 9 = .ok (.bipush (-9), 2) := by decide +kernel
theorem dX10_placeOf_11 : decode cX10_placeOf 11 = .ok (.goto 35, 3) := by decide +kernel
theorem dX10_placeOf_14 : decode cX10_placeOf 14 = .ok (.aload_n 0, 1) := by decide +kernel
theorem dX10_placeOf_15 : decode cX10_placeOf 15 = .ok (.getfield 144, 3) := by decide +kernel
theorem dX10_placeOf_18 : decode cX10_placeOf 18 = .ok (.bipush 40, 2) := by decide +kernel
theorem dX10_placeOf_20 : decode cX10_placeOf 20 = .ok (.iload_n 1, 1) := by decide +kernel
theorem dX10_placeOf_21 : decode cX10_placeOf 21 = .ok (.imul, 1) := by decide +kernel
theorem dX10_placeOf_22 : decode cX10_placeOf 22 = .ok (.iload_n 2, 1) := by decide +kernel
theorem dX10_placeOf_23 : decode cX10_placeOf 23 = .ok (.aload_n 0, 1) := by decide +kernel
theorem dX10_placeOf_24 : decode cX10_placeOf 24 = .ok (.getfield 141, 3) := by decide +kernel
theorem dX10_placeOf_27 : decode cX10_placeOf 27 = .ok (.iload_n 1, 1) := by decide +kernel
theorem dX10_placeOf_28 : decode cX10_placeOf 28 = .ok (.iaload, 1) := by decide +kernel
theorem dX10_placeOf_29 : decode cX10_placeOf 29 = .ok (.if_icmp .ge 7, 3) := by decide +kernel
theorem dX10_placeOf_32 : decode cX10_placeOf 32 = .ok (.iload_n 2, 1) := by decide +kernel
theorem dX10_placeOf_33 : decode cX10_placeOf 33 = .ok (.goto 11, 3) := by decide +kernel
theorem dX10_placeOf_36 : decode cX10_placeOf 36 = .ok (.aload_n 0, 1) := by decide +kernel
theorem dX10_placeOf_37 : decode cX10_placeOf 37 = .ok (.getfield 141, 3) := by decide +kernel
theorem dX10_placeOf_40 : decode cX10_placeOf 40 = .ok (.iload_n 1, 1) := by decide +kernel
theorem dX10_placeOf_41 : decode cX10_placeOf 41 = .ok (.iaload, 1) := by decide +kernel
theorem dX10_placeOf_42 : decode cX10_placeOf 42 = .ok (.iconst 1, 1) := by decide +kernel
theorem dX10_placeOf_43 : decode cX10_placeOf 43 = .ok (.isub, 1) := by decide +kernel
theorem dX10_placeOf_44 : decode cX10_placeOf 44 = .ok (.iadd, 1) := by decide +kernel
theorem dX10_placeOf_45 : decode cX10_placeOf 45 = .ok (.iaload, 1) := by decide +kernel
theorem dX10_placeOf_46 : decode cX10_placeOf 46 = .ok (.ireturn, 1) := by decide +kernel
def c_X10_placeOf (F : Nat) (a0 : Nat) (x1 : Int32) (x2 : Int32) (h0 : z_Hp) : Option (Int32 × z_Hp) := (if hT h0 a0 = 10 then (lt_ (hR h0 a0 53) (fun o3 => (nn o3 (fun a4 => (if okA h0 a4 20 x1 = true then (if 0 ≤ (hI h0 a4 (ix x1)) then (if hT h0 a0 = 10 then (lt_ (hR h0 a0 54) (fun o5 => (if hT h0 a0 = 10 then (lt_ (hR h0 a0 53) (fun o6 => (nn o6 (fun a7 => (if okA h0 a7 20 x1 = true then (if (hI h0 a7 (ix x1)) ≤ x2 then (if hT h0 a0 = 10 then (lt_ (hR h0 a0 53) (fun o8 => (nn o8 (fun a9 => (if okA h0 a9 20 x1 = true then (nn o5 (fun a10 => (if okA h0 a10 20 ((40 * x1) + ((hI h0 a9 (ix x1)) - 1)) = true then (some (hI h0 a10 (ix ((40 * x1) + ((hI h0 a9 (ix x1)) - 1))), h0)) else none))) else none))))) else none) else (nn o5 (fun a11 => (if okA h0 a11 20 ((40 * x1) + x2) = true then (some (hI h0 a11 (ix ((40 * x1) + x2)), h0)) else none)))) else none))))) else none))) else none) else (some ((-9), h0))) else none))))) else none)
set_option maxRecDepth 20000 in
set_option maxHeartbeats 4000000 in
theorem t_X10_placeOf (F : Nat) (a0 : Nat) (x1 : Int32) (x2 : Int32) (h0 : z_Hp) : z_Ct zi mi_X10_placeOf [vr (some a0), vi x1, vi x2] h0 (c_X10_placeOf F a0 x1 x2 h0) := by
  refine z_entry (by decide) (Nat.le_of_ble_eq_true rfl) [(0, vr (some a0)), (1, vi x1), (2, vi x2)] rfl ?_
  unfold c_X10_placeOf
  refine z_aload_n (pc := 0) dX10_placeOf_0 rfl 0 rfl (z_getRl (pc := 1) fl_RX10_141 rfl dX10_placeOf_1 (fun o3 => (z_iload_n (pc := 4) dX10_placeOf_4 rfl 1 rfl (?_))))
  refine z_nn (fun a4 ea4 => ?_)
  subst ea4
  refine z_iaload (pc := 5) dX10_placeOf_5 (?_)
  refine z_if_ge (pc := 6) (tgt := 14) dX10_placeOf_6 (by decide) ?_ ?_
  · refine z_aload_n (pc := 14) dX10_placeOf_14 rfl 0 rfl (z_getRl (pc := 15) fl_RX10_144 rfl dX10_placeOf_15 (fun o5 => (z_bipush (pc := 18) dX10_placeOf_18 bp_40 (z_iload_n (pc := 20) dX10_placeOf_20 rfl 1 rfl (z_imul (pc := 21) dX10_placeOf_21 (z_iload_n (pc := 22) dX10_placeOf_22 rfl 2 rfl (z_aload_n (pc := 23) dX10_placeOf_23 rfl 0 rfl (z_getRl (pc := 24) fl_RX10_141 rfl dX10_placeOf_24 (fun o6 => (?_))))))))))
    refine z_iload_n (pc := 27) dX10_placeOf_27 rfl 1 rfl (?_)
    refine z_nn (fun a7 ea7 => ?_)
    subst ea7
    refine z_iaload (pc := 28) dX10_placeOf_28 (?_)
    refine z_icmp_ge (pc := 29) (tgt := 36) dX10_placeOf_29 (by decide) ?_ ?_
    · refine z_aload_n (pc := 36) dX10_placeOf_36 rfl 0 rfl (z_getRl (pc := 37) fl_RX10_141 rfl dX10_placeOf_37 (fun o8 => (z_iload_n (pc := 40) dX10_placeOf_40 rfl 1 rfl (?_))))
      refine z_nn (fun a9 ea9 => ?_)
      subst ea9
      refine z_iaload (pc := 41) dX10_placeOf_41 (z_iconst (pc := 42) dX10_placeOf_42 ic_1 (z_isub (pc := 43) dX10_placeOf_43 (z_iadd (pc := 44) dX10_placeOf_44 (?_))))
      refine z_nn (fun a10 ea10 => ?_)
      subst ea10
      refine z_iaload (pc := 45) dX10_placeOf_45 (?_)
      exact z_iret (pc := 46) dX10_placeOf_46 rfl rfl
    · refine z_iload_n (pc := 32) dX10_placeOf_32 rfl 2 rfl (z_goto (pc := 33) (tgt := 44) dX10_placeOf_33 (by decide) (z_iadd (pc := 44) dX10_placeOf_44 (?_)))
      refine z_nn (fun a11 ea11 => ?_)
      subst ea11
      refine z_iaload (pc := 45) dX10_placeOf_45 (?_)
      exact z_iret (pc := 46) dX10_placeOf_46 rfl rfl
  · refine z_bipush (pc := 9) dX10_placeOf_9 bp_m9 (z_goto (pc := 11) (tgt := 46) dX10_placeOf_11 (by decide) (?_))
    exact z_iret (pc := 46) dX10_placeOf_46 rfl rfl
theorem dX10_whoCan_0 : decode cX10_whoCan 0 = .ok (.iconst 0, 1) := by decide +kernel
theorem dX10_whoCan_1 : decode cX10_whoCan 1 = .ok (.istore 4, 2) := by decide +kernel
theorem dX10_whoCan_3 : decode cX10_whoCan 3 = .ok (.aload_n 0, 1) := by decide +kernel
theorem dX10_whoCan_4 : decode cX10_whoCan 4 = .ok (.bipush (-9), 2) := by decide +kernel
theorem dX10_whoCan_6 : decode cX10_whoCan 6 = .ok (.putfield 364, 3) := by decide +kernel
theorem dX10_whoCan_9 : decode cX10_whoCan 9 = .ok (.iconst 0, 1) := by decide +kernel
theorem dX10_whoCan_10 : decode cX10_whoCan 10 = .ok (.istore 5, 2) := by decide +kernel
theorem dX10_whoCan_12 : decode cX10_whoCan 12 = .ok (.iload 5, 2) := by decide +kernel
theorem dX10_whoCan_14 : decode cX10_whoCan 14 = .ok (.iload_n 2, 1) := by decide +kernel
theorem dX10_whoCan_15 : decode cX10_whoCan 15 = .ok (.if_icmp .gt 240, 3) := by decide +kernel
theorem dX10_whoCan_18 : decode cX10_whoCan 18 = .ok (.iconst 0, 1) := by decide +kernel
theorem dX10_whoCan_19 : decode cX10_whoCan 19 = .ok (.istore 6, 2) := by decide +kernel
theorem dX10_whoCan_21 : decode cX10_whoCan 21 = .ok (.iload 6, 2) := by decide +kernel
theorem dX10_whoCan_23 : decode cX10_whoCan 23 = .ok (.aload_n 0, 1) := by decide +kernel
theorem dX10_whoCan_24 : decode cX10_whoCan 24 = .ok (.getfield 361, 3) := by decide +kernel
theorem dX10_whoCan_27 : decode cX10_whoCan 27 = .ok (.if_icmp .ge 78, 3) := by decide +kernel
theorem dX10_whoCan_30 : decode cX10_whoCan 30 = .ok (.iconst 0, 1) := by decide +kernel
theorem dX10_whoCan_31 : decode cX10_whoCan 31 = .ok (.istore 7, 2) := by decide +kernel
theorem dX10_whoCan_33 : decode cX10_whoCan 33 = .ok (.iload 7, 2) := by decide +kernel
theorem dX10_whoCan_35 : decode cX10_whoCan 35 = .ok (.iconst 4, 1) := by decide +kernel
theorem dX10_whoCan_36 : decode cX10_whoCan 36 = .ok (.if_icmp .ge 63, 3) := by decide +kernel
theorem dX10_whoCan_39 : decode cX10_whoCan 39 = .ok (.iload 4, 2) := by decide +kernel
theorem dX10_whoCan_41 : decode cX10_whoCan 41 = .ok (.aload_n 0, 1) := by decide +kernel
theorem dX10_whoCan_42 : decode cX10_whoCan 42 = .ok (.getfield 147, 3) := by decide +kernel
theorem dX10_whoCan_45 : decode cX10_whoCan 45 = .ok (.iload 6, 2) := by decide +kernel
theorem dX10_whoCan_47 : decode cX10_whoCan 47 = .ok (.iaload, 1) := by decide +kernel
theorem dX10_whoCan_48 : decode cX10_whoCan 48 = .ok (.iload_n 1, 1) := by decide +kernel
theorem dX10_whoCan_49 : decode cX10_whoCan 49 = .ok (.if_icmp .ne 40, 3) := by decide +kernel
theorem dX10_whoCan_52 : decode cX10_whoCan 52 = .ok (.aload_n 0, 1) := by decide +kernel
theorem dX10_whoCan_53 : decode cX10_whoCan 53 = .ok (.getfield 153, 3) := by decide +kernel
theorem dX10_whoCan_56 : decode cX10_whoCan 56 = .ok (.iload 6, 2) := by decide +kernel
theorem dX10_whoCan_58 : decode cX10_whoCan 58 = .ok (.iaload, 1) := by decide +kernel
theorem dX10_whoCan_59 : decode cX10_whoCan 59 = .ok (.iload 5, 2) := by decide +kernel
theorem dX10_whoCan_61 : decode cX10_whoCan 61 = .ok (.if_icmp .gt 28, 3) := by decide +kernel
theorem dX10_whoCan_64 : decode cX10_whoCan 64 = .ok (.aload_n 0, 1) := by decide +kernel
theorem dX10_whoCan_65 : decode cX10_whoCan 65 = .ok (.iload 7, 2) := by decide +kernel
theorem dX10_whoCan_67 : decode cX10_whoCan 67 = .ok (.iload 5, 2) := by decide +kernel
theorem dX10_whoCan_69 : decode cX10_whoCan 69 = .ok (.invokevirtual 367, 3) := by decide +kernel
theorem dX10_whoCan_72 : decode cX10_whoCan 72 = .ok (.aload_n 0, 1) := by decide +kernel
theorem dX10_whoCan_73 : decode cX10_whoCan 73 = .ok (.getfield 150, 3) := by decide +kernel
theorem dX10_whoCan_76 : decode cX10_whoCan 76 = .ok (.iload 6, 2) := by decide +kernel
theorem dX10_whoCan_78 : decode cX10_whoCan 78 = .ok (.iaload, 1) := by decide +kernel
theorem dX10_whoCan_79 : decode cX10_whoCan 79 = .ok (.if_icmp .ne 10, 3) := by decide +kernel
theorem dX10_whoCan_82 : decode cX10_whoCan 82 = .ok (.iconst 1, 1) := by decide +kernel
theorem dX10_whoCan_83 : decode cX10_whoCan 83 = .ok (.iload 7, 2) := by decide +kernel
theorem dX10_whoCan_85 : decode cX10_whoCan 85 = .ok (.ishl, 1) := by decide +kernel
theorem dX10_whoCan_86 : decode cX10_whoCan 86 = .ok (.goto 4, 3) := by decide +kernel
theorem dX10_whoCan_89 : decode cX10_whoCan 89 = .ok (.iconst 0, 1) := by decide +kernel
theorem dX10_whoCan_90 : decode cX10_whoCan 90 = .ok (.ior, 1) := by decide +kernel
theorem dX10_whoCan_91 : decode cX10_whoCan 91 = .ok (.istore 4, 2) := by decide +kernel
theorem dX10_whoCan_93 : decode cX10_whoCan 93 = .ok (.iinc 7 1, 3) := by decide +kernel
theorem dX10_whoCan_96 : decode cX10_whoCan 96 = .ok (.goto (-63), 3) := by decide +kernel
theorem dX10_whoCan_99 : decode cX10_whoCan 99 = .ok (.iinc 6 1, 3) := by decide +kernel
theorem dX10_whoCan_102 : decode cX10_whoCan 102 = .ok (.goto (-81), 3) := by decide +kernel
theorem dX10_whoCan_105 : decode cX10_whoCan 105 = .ok (.aload_n 0, 1) := by decide +kernel
theorem dX10_whoCan_106 : decode cX10_whoCan 106 = .ok (.iconst 0, 1) := by decide +kernel
theorem dX10_whoCan_107 : decode cX10_whoCan 107 = .ok (.putfield 370, 3) := by decide +kernel
theorem dX10_whoCan_110 : decode cX10_whoCan 110 = .ok (.iconst 0, 1) := by decide +kernel
theorem dX10_whoCan_111 : decode cX10_whoCan 111 = .ok (.istore 6, 2) := by decide +kernel
theorem dX10_whoCan_113 : decode cX10_whoCan 113 = .ok (.iload 6, 2) := by decide +kernel
theorem dX10_whoCan_115 : decode cX10_whoCan 115 = .ok (.iconst 4, 1) := by decide +kernel
theorem dX10_whoCan_116 : decode cX10_whoCan 116 = .ok (.if_icmp .ge 42, 3) := by decide +kernel
theorem dX10_whoCan_119 : decode cX10_whoCan 119 = .ok (.aload_n 0, 1) := by decide +kernel
theorem dX10_whoCan_120 : decode cX10_whoCan 120 = .ok (.dup, 1) := by decide +kernel
theorem dX10_whoCan_121 : decode cX10_whoCan 121 = .ok (.getfield 370, 3) := by decide +kernel
theorem dX10_whoCan_124 : decode cX10_whoCan 124 = .ok (.iload 4, 2) := by decide +kernel
theorem dX10_whoCan_126 : decode cX10_whoCan 126 = .ok (.iload 6, 2) := by decide +kernel
theorem dX10_whoCan_128 : decode cX10_whoCan 128 = .ok (.invokestatic 312, 3) := by decide +kernel
theorem dX10_whoCan_131 : decode cX10_whoCan 131 = .ok (.ifCond .eq 16, 3) := by decide +kernel
theorem dX10_whoCan_134 : decode cX10_whoCan 134 = .ok (.iconst 1, 1) := by decide +kernel
theorem dX10_whoCan_135 : decode cX10_whoCan 135 = .ok (.aload_n 0, 1) := by decide +kernel
theorem dX10_whoCan_136 : decode cX10_whoCan 136 = .ok (.iload 6, 2) := by decide +kernel
theorem dX10_whoCan_138 : decode cX10_whoCan 138 = .ok (.iload 5, 2) := by decide +kernel
theorem dX10_whoCan_140 : decode cX10_whoCan 140 = .ok (.invokevirtual 367, 3) := by decide +kernel
theorem dX10_whoCan_143 : decode cX10_whoCan 143 = .ok (.ishl, 1) := by decide +kernel
theorem dX10_whoCan_144 : decode cX10_whoCan 144 = .ok (.goto 4, 3) := by decide +kernel
theorem dX10_whoCan_147 : decode cX10_whoCan 147 = .ok (.iconst 0, 1) := by decide +kernel
theorem dX10_whoCan_148 : decode cX10_whoCan 148 = .ok (.ior, 1) := by decide +kernel
theorem dX10_whoCan_149 : decode cX10_whoCan 149 = .ok (.putfield 370, 3) := by decide +kernel
theorem dX10_whoCan_152 : decode cX10_whoCan 152 = .ok (.iinc 6 1, 3) := by decide +kernel
theorem dX10_whoCan_155 : decode cX10_whoCan 155 = .ok (.goto (-42), 3) := by decide +kernel
theorem dX10_whoCan_158 : decode cX10_whoCan 158 = .ok (.iconst 0, 1) := by decide +kernel
theorem dX10_whoCan_159 : decode cX10_whoCan 159 = .ok (.istore 6, 2) := by decide +kernel
theorem dX10_whoCan_161 : decode cX10_whoCan 161 = .ok (.iload 6, 2) := by decide +kernel
theorem dX10_whoCan_163 : decode cX10_whoCan 163 = .ok (.iconst 4, 1) := by decide +kernel
theorem dX10_whoCan_164 : decode cX10_whoCan 164 = .ok (.if_icmp .ge 50, 3) := by decide +kernel
theorem dX10_whoCan_167 : decode cX10_whoCan 167 = .ok (.iload 4, 2) := by decide +kernel
theorem dX10_whoCan_169 : decode cX10_whoCan 169 = .ok (.aload_n 0, 1) := by decide +kernel
theorem dX10_whoCan_170 : decode cX10_whoCan 170 = .ok (.getfield 141, 3) := by decide +kernel
theorem dX10_whoCan_173 : decode cX10_whoCan 173 = .ok (.iload 6, 2) := by decide +kernel
theorem dX10_whoCan_175 : decode cX10_whoCan 175 = .ok (.iaload, 1) := by decide +kernel
theorem dX10_whoCan_176 : decode cX10_whoCan 176 = .ok (.ifCond .lt 28, 3) := by decide +kernel
theorem dX10_whoCan_179 : decode cX10_whoCan 179 = .ok (.aload_n 0, 1) := by decide +kernel
theorem dX10_whoCan_180 : decode cX10_whoCan 180 = .ok (.getfield 370, 3) := by decide +kernel
theorem dX10_whoCan_183 : decode cX10_whoCan 183 = .ok (.aload_n 0, 1) := by decide +kernel
theorem dX10_whoCan_184 : decode cX10_whoCan 184 = .ok (.iload 6, 2) := by decide +kernel
theorem dX10_whoCan_186 : decode cX10_whoCan 186 = .ok (.iload 5, 2) := by decide +kernel
theorem dX10_whoCan_188 : decode cX10_whoCan 188 = .ok (.invokevirtual 367, 3) := by decide +kernel
theorem dX10_whoCan_191 : decode cX10_whoCan 191 = .ok (.invokestatic 312, 3) := by decide +kernel
theorem dX10_whoCan_194 : decode cX10_whoCan 194 = .ok (.ifCond .eq 10, 3) := by decide +kernel
theorem dX10_whoCan_197 : decode cX10_whoCan 197 = .ok (.iconst 1, 1) := by decide +kernel
theorem dX10_whoCan_198 : decode cX10_whoCan 198 = .ok (.iload 6, 2) := by decide +kernel
theorem dX10_whoCan_200 : decode cX10_whoCan 200 = .ok (.ishl, 1) := by decide +kernel
theorem dX10_whoCan_201 : decode cX10_whoCan 201 = .ok (.goto 4, 3) := by decide +kernel
theorem dX10_whoCan_204 : decode cX10_whoCan 204 = .ok (.iconst 0, 1) := by decide +kernel
theorem dX10_whoCan_205 : decode cX10_whoCan 205 = .ok (.ior, 1) := by decide +kernel
theorem dX10_whoCan_206 : decode cX10_whoCan 206 = .ok (.istore 4, 2) := by decide +kernel
theorem dX10_whoCan_208 : decode cX10_whoCan 208 = .ok (.iinc 6 1, 3) := by decide +kernel
theorem dX10_whoCan_211 : decode cX10_whoCan 211 = .ok (.goto (-50), 3) := by decide +kernel
theorem dX10_whoCan_214 : decode cX10_whoCan 214 = .ok (.aload_n 0, 1) := by decide +kernel
theorem dX10_whoCan_215 : decode cX10_whoCan 215 = .ok (.aload_n 0, 1) := by decide +kernel
theorem dX10_whoCan_216 : decode cX10_whoCan 216 = .ok (.getfield 364, 3) := by decide +kernel
theorem dX10_whoCan_219 : decode cX10_whoCan 219 = .ok (.ifCond .ge 23, 3) := by decide +kernel
theorem dX10_whoCan_222 : decode cX10_whoCan 222 = .ok (.iload_n 3, 1) := by decide +kernel
theorem dX10_whoCan_223 : decode cX10_whoCan 223 = .ok (.ifCond .lt 19, 3) := by decide +kernel
theorem dX10_whoCan_226 : decode cX10_whoCan 226 = .ok (.aload_n 0, 1) := by decide +kernel
theorem dX10_whoCan_227 : decode cX10_whoCan 227 = .ok (.getfield 370, 3) := by decide +kernel
theorem dX10_whoCan_230 : decode cX10_whoCan 230 = .ok (.iload_n 3, 1) := by decide +kernel
theorem dX10_whoCan_231 : decode cX10_whoCan 231 = .ok (.invokestatic 312, 3) := by decide +kernel
theorem dX10_whoCan_234 : decode cX10_whoCan 234 = .ok (.ifCond .eq 8, 3) := by decide +kernel
theorem dX10_whoCan_237 : decode cX10_whoCan 237 = .ok (.iload 5, 2) := by decide +kernel
theorem dX10_whoCan_239 : decode cX10_whoCan 239 = .ok (.goto 7, 3) := by decide +kernel
theorem dX10_whoCan_242 : decode cX10_whoCan 242 = .ok (.aload_n 0, 1) := by decide +kernel
theorem dX10_whoCan_243 : decode cX10_whoCan 243 = .ok (.getfield 364, 3) := by decide +kernel
theorem dX10_whoCan_246 : decode cX10_whoCan 246 = .ok (.putfield 364, 3) := by decide +kernel
theorem dX10_whoCan_249 : decode cX10_whoCan 249 = .ok (.iinc 5 1, 3) := by decide +kernel
theorem dX10_whoCan_252 : decode cX10_whoCan 252 = .ok (.goto (-240), 3) := by decide +kernel
theorem dX10_whoCan_255 : decode cX10_whoCan 255 = .ok (.iload 4, 2) := by decide +kernel
theorem dX10_whoCan_257 : decode cX10_whoCan 257 = .ok (.ireturn, 1) := by decide +kernel
def c_X10_whoCan_L33 (F : Nat) (a22 : Nat) (x23 : Int32) (x24 : Int32) (x25 : Int32) (x26 : Int32) (x27 : Int32) (k99 : Int32 → z_Hp → Option (Int32 × z_Hp)) : Nat → Int32 → Int32 → z_Hp → Option (Int32 × z_Hp)
  | 0, _, _, _ => none
  | n + 1, x28, x29, h30 => (if 4 ≤ x29 then (k99 x28 h30) else (if hT h30 a22 = 10 then (lt_ (hR h30 a22 56) (fun o33 => (nn o33 (fun a34 => (if okA h30 a34 20 x27 = true then (lt_ (fun (x36 : Int32) (h37 : z_Hp) => (lt_ (x28 ||| x36) (fun x38 => (lt_ (x29 + 1) (fun x39 => (c_X10_whoCan_L33 F a22 x23 x24 x25 x26 x27 k99 n x38 x39 h37)))))) (fun (j90_35 : Int32 → z_Hp → Option (Int32 × z_Hp)) => (lt_ (fun (h41 : z_Hp) => (j90_35 0 h41)) (fun (j89_40 : z_Hp → Option (Int32 × z_Hp)) => (if (hI h30 a34 (ix x27)) = x23 then (if hT h30 a22 = 10 then (lt_ (hR h30 a22 58) (fun o42 => (nn o42 (fun a43 => (if okA h30 a43 20 x27 = true then (if x26 < (hI h30 a43 (ix x27)) then (j89_40 h30) else (if hT h30 a22 = 10 then (bI (c_X10_placeOf F a22 x29 x26 h30) (fun x45 h44 => (if hT h44 a22 = 10 then (lt_ (hR h44 a22 57) (fun o46 => (nn o46 (fun a47 => (if okA h44 a47 20 x27 = true then (if x45 = (hI h44 a47 (ix x27)) then (j90_35 (1 <<< (x29 &&& 31)) h44) else (j89_40 h44)) else none))))) else none))) else none)) else none))))) else none) else (j89_40 h30)))))) else none))))) else none))
def c_X10_whoCan_L21 (F : Nat) (a12 : Nat) (x13 : Int32) (x14 : Int32) (x15 : Int32) (x16 : Int32) (k105 : Int32 → z_Hp → Option (Int32 × z_Hp)) : Nat → Int32 → Int32 → z_Hp → Option (Int32 × z_Hp)
  | 0, _, _, _ => none
  | n + 1, x17, x18, h19 => (if hT h19 a12 = 10 then (if (hI h19 a12 55) ≤ x18 then (k105 x17 h19) else (c_X10_whoCan_L33 F a12 x13 x14 x15 x16 x18 (fun x48 h49 => (lt_ (x18 + 1) (fun x50 => (c_X10_whoCan_L21 F a12 x13 x14 x15 x16 k105 n x48 x50 h49)))) F x17 0 h19)) else none)
def c_X10_whoCan_L113 (F : Nat) (a54 : Nat) (x55 : Int32) (x56 : Int32) (x57 : Int32) (x58 : Int32) (x59 : Int32) (k158 : z_Hp → Option (Int32 × z_Hp)) : Nat → Int32 → z_Hp → Option (Int32 × z_Hp)
  | 0, _, _ => none
  | n + 1, x60, h61 => (if 4 ≤ x60 then (k158 h61) else (if hT h61 a54 = 10 then (bI (c_X10_has F x58 x60 h61) (fun x64 h63 => (lt_ (fun (x66 : Int32) (h67 : z_Hp) => (if hT h67 a54 = 10 then (lt_ (sI h67 a54 59 ((hI h61 a54 59) ||| x66)) (fun h68 => (lt_ (x60 + 1) (fun x69 => (c_X10_whoCan_L113 F a54 x55 x56 x57 x58 x59 k158 n x69 h68))))) else none)) (fun (j148_65 : Int32 → z_Hp → Option (Int32 × z_Hp)) => (if x64 = 0 then (j148_65 0 h63) else (if hT h63 a54 = 10 then (bI (c_X10_placeOf F a54 x60 x59 h63) (fun x71 h70 => (j148_65 (1 <<< (x71 &&& 31)) h70))) else none)))))) else none))
def c_X10_whoCan_L161 (F : Nat) (a73 : Nat) (x74 : Int32) (x75 : Int32) (x76 : Int32) (x77 : Int32) (k214 : Int32 → z_Hp → Option (Int32 × z_Hp)) : Nat → Int32 → Int32 → z_Hp → Option (Int32 × z_Hp)
  | 0, _, _, _ => none
  | n + 1, x78, x79, h80 => (if 4 ≤ x79 then (k214 x78 h80) else (if hT h80 a73 = 10 then (lt_ (hR h80 a73 53) (fun o83 => (nn o83 (fun a84 => (if okA h80 a84 20 x79 = true then (lt_ (fun (x86 : Int32) (h87 : z_Hp) => (lt_ (x78 ||| x86) (fun x88 => (lt_ (x79 + 1) (fun x89 => (c_X10_whoCan_L161 F a73 x74 x75 x76 x77 k214 n x88 x89 h87)))))) (fun (j205_85 : Int32 → z_Hp → Option (Int32 × z_Hp)) => (lt_ (fun (h91 : z_Hp) => (j205_85 0 h91)) (fun (j204_90 : z_Hp → Option (Int32 × z_Hp)) => (if (hI h80 a84 (ix x79)) < 0 then (j204_90 h80) else (if hT h80 a73 = 10 then (if hT h80 a73 = 10 then (bI (c_X10_placeOf F a73 x79 x77 h80) (fun x93 h92 => (bI (c_X10_has F (hI h80 a73 59) x93 h92) (fun x95 h94 => (if x95 = 0 then (j204_90 h94) else (j205_85 (1 <<< (x79 &&& 31)) h94)))))) else none) else none)))))) else none))))) else none))
def c_X10_whoCan_L12 (F : Nat) (a5 : Nat) (x6 : Int32) (x7 : Int32) (x8 : Int32) : Nat → Int32 → Int32 → z_Hp → Option (Int32 × z_Hp)
  | 0, _, _, _ => none
  | n + 1, x9, x10, h11 => (if x7 < x10 then (some (x9, h11)) else (c_X10_whoCan_L21 F a5 x6 x7 x8 x10 (fun x51 h52 => (if hT h52 a5 = 10 then (lt_ (sI h52 a5 59 0) (fun h53 => (c_X10_whoCan_L113 F a5 x6 x7 x8 x51 x10 (fun h72 => (c_X10_whoCan_L161 F a5 x6 x7 x8 x10 (fun x96 h97 => (if hT h97 a5 = 10 then (lt_ (fun (x99 : Int32) (h100 : z_Hp) => (if hT h100 a5 = 10 then (lt_ (sI h100 a5 60 x99) (fun h101 => (lt_ (x10 + 1) (fun x102 => (c_X10_whoCan_L12 F a5 x6 x7 x8 n x96 x102 h101))))) else none)) (fun (j246_98 : Int32 → z_Hp → Option (Int32 × z_Hp)) => (lt_ (fun (h104 : z_Hp) => (if hT h104 a5 = 10 then (j246_98 (hI h104 a5 60) h104) else none)) (fun (j242_103 : z_Hp → Option (Int32 × z_Hp)) => (if 0 ≤ (hI h97 a5 60) then (j242_103 h97) else (if x8 < 0 then (j242_103 h97) else (if hT h97 a5 = 10 then (bI (c_X10_has F (hI h97 a5 59) x8 h97) (fun x106 h105 => (if x106 = 0 then (j242_103 h105) else (j246_98 x10 h105)))) else none))))))) else none)) F x51 0 h72)) F 0 h53))) else none)) F x9 0 h11))
def c_X10_whoCan (F : Nat) (a0 : Nat) (x1 : Int32) (x2 : Int32) (x3 : Int32) (h0 : z_Hp) : Option (Int32 × z_Hp) := (if hT h0 a0 = 10 then (lt_ (sI h0 a0 60 (-9)) (fun h4 => (c_X10_whoCan_L12 F a0 x1 x2 x3 F 0 0 h4))) else none)
set_option maxRecDepth 20000 in
set_option maxHeartbeats 4000000 in
theorem g_X10_whoCan_L33 (F : Nat) (a22 : Nat) (x23 : Int32) (x24 : Int32) (x25 : Int32) (x26 : Int32) (x27 : Int32) (k99 : Int32 → z_Hp → Option (Int32 × z_Hp)) (qk99 : ∀ (x31 : Int32) (h32 : z_Hp), z_G zi mi_X10_whoCan 99 [(0, vr (some a22)), (1, vi x23), (2, vi x24), (3, vi x25), (4, vi x31), (5, vi x26), (6, vi x27)] [] h32 (k99 x31 h32)) : ∀ (n : Nat) (x28 : Int32) (x29 : Int32) (h30 : z_Hp), z_G zi mi_X10_whoCan 33 [(0, vr (some a22)), (1, vi x23), (2, vi x24), (3, vi x25), (4, vi x28), (5, vi x26), (6, vi x27), (7, vi x29)] [] h30 (c_X10_whoCan_L33 F a22 x23 x24 x25 x26 x27 k99 n x28 x29 h30) := by
  intro n
  induction n with
  | zero => intro x28 x29 h30; rw [c_X10_whoCan_L33]; exact z_none
  | succ n ih =>
    intro x28 x29 h30
    rw [c_X10_whoCan_L33]
    refine z_iload (pc := 33) dX10_whoCan_33 7 rfl (z_iconst (pc := 35) dX10_whoCan_35 ic_4 (?_))
    refine z_icmp_ge (pc := 36) (tgt := 99) dX10_whoCan_36 (by decide) ?_ ?_
    · exact z_sub [0, 1, 2, 3, 4, 5, 6] rfl (qk99 x28 h30)
    · refine z_iload (pc := 39) dX10_whoCan_39 4 rfl (z_aload_n (pc := 41) dX10_whoCan_41 rfl 0 rfl (z_getRl (pc := 42) fl_RX10_147 rfl dX10_whoCan_42 (fun o33 => (z_iload (pc := 45) dX10_whoCan_45 6 rfl (?_)))))
      refine z_nn (fun a34 ea34 => ?_)
      subst ea34
      refine z_iaload (pc := 47) dX10_whoCan_47 (z_iload_n (pc := 48) dX10_whoCan_48 rfl 1 rfl (?_))
      refine z_jn (P := fun (j : Int32 → z_Hp → Option (Int32 × z_Hp)) => ∀ (x36 : Int32) (h37 : z_Hp), z_G zi mi_X10_whoCan 90 [(0, vr (some a22)), (1, vi x23), (2, vi x24), (3, vi x25), (5, vi x26), (6, vi x27), (7, vi x29)] [vi x36, vi x28] h37 (j x36 h37)) (fun x36 h37 => ?_) (fun j90_35 qj90_35 => ?_)
      · refine z_ior (pc := 90) dX10_whoCan_90 (z_istorel (pc := 91) (L' := fun x38 => [(0, vr (some a22)), (1, vi x23), (2, vi x24), (3, vi x25), (4, vi x38), (5, vi x26), (6, vi x27), (7, vi x29)]) dX10_whoCan_91 (Nat.le_of_ble_eq_true rfl) (fun _ => rfl) (fun x38 => (z_iincl (pc := 93) (L' := fun x39 => [(0, vr (some a22)), (1, vi x23), (2, vi x24), (3, vi x25), (4, vi x38), (5, vi x26), (6, vi x27), (7, vi x39)]) dX10_whoCan_93 7 rfl ic_1 (Nat.le_of_ble_eq_true rfl) (fun _ => rfl) (fun x39 => (z_goto (pc := 96) (tgt := 33) dX10_whoCan_96 (by decide) (?_))))))
        exact ih x38 x39 h37
      refine z_jn (P := fun (j : z_Hp → Option (Int32 × z_Hp)) => ∀ (h41 : z_Hp), z_G zi mi_X10_whoCan 89 [(0, vr (some a22)), (1, vi x23), (2, vi x24), (3, vi x25), (5, vi x26), (6, vi x27), (7, vi x29)] [vi x28] h41 (j h41)) (fun h41 => ?_) (fun j89_40 qj89_40 => ?_)
      · refine z_iconst (pc := 89) dX10_whoCan_89 ic_0 (?_)
        exact qj90_35 0 h41
      refine z_icmp_ne (pc := 49) (tgt := 89) dX10_whoCan_49 (by decide) ?_ ?_
      · exact z_sub [0, 1, 2, 3, 5, 6, 7] rfl (qj89_40 h30)
      · refine z_aload_n (pc := 52) dX10_whoCan_52 rfl 0 rfl (z_getRl (pc := 53) fl_RX10_153 rfl dX10_whoCan_53 (fun o42 => (z_iload (pc := 56) dX10_whoCan_56 6 rfl (?_))))
        refine z_nn (fun a43 ea43 => ?_)
        subst ea43
        refine z_iaload (pc := 58) dX10_whoCan_58 (z_iload (pc := 59) dX10_whoCan_59 5 rfl (?_))
        refine z_icmp_gt (pc := 61) (tgt := 89) dX10_whoCan_61 (by decide) ?_ ?_
        · exact z_sub [0, 1, 2, 3, 5, 6, 7] rfl (qj89_40 h30)
        · refine z_aload_n (pc := 64) dX10_whoCan_64 rfl 0 rfl (z_iload (pc := 65) dX10_whoCan_65 7 rfl (z_iload (pc := 67) dX10_whoCan_67 5 rfl (z_callV_I (pc := 69) (avs := [vi x29, vi x26]) (st := [vi x28]) rfl (q := (RX10, TX10, 62)) rfl rfl (t_X10_placeOf F a22 x29 x26 h30) ky_X10_placeOf wm_X10_placeOf we_X10_placeOf wz_RX10_367 (rm_X10_whoCan_X10_placeOf) (Nat.le_of_ble_eq_true rfl) dX10_whoCan_69 (fun x45 h44 => (?_)))))
          refine z_aload_n (pc := 72) dX10_whoCan_72 rfl 0 rfl (z_getRl (pc := 73) fl_RX10_150 rfl dX10_whoCan_73 (fun o46 => (z_iload (pc := 76) dX10_whoCan_76 6 rfl (?_))))
          refine z_nn (fun a47 ea47 => ?_)
          subst ea47
          refine z_iaload (pc := 78) dX10_whoCan_78 (?_)
          refine z_icmp_ne (pc := 79) (tgt := 89) dX10_whoCan_79 (by decide) ?_ ?_
          · exact z_sub [0, 1, 2, 3, 5, 6, 7] rfl (qj89_40 h44)
          · refine z_iconst (pc := 82) dX10_whoCan_82 ic_1 (z_iload (pc := 83) dX10_whoCan_83 7 rfl (z_ishl (pc := 85) dX10_whoCan_85 (z_goto (pc := 86) (tgt := 90) dX10_whoCan_86 (by decide) (?_))))
            exact z_sub [0, 1, 2, 3, 5, 6, 7] rfl (qj90_35 (1 <<< (x29 &&& 31)) h44)
set_option maxRecDepth 20000 in
set_option maxHeartbeats 4000000 in
theorem g_X10_whoCan_L21 (F : Nat) (a12 : Nat) (x13 : Int32) (x14 : Int32) (x15 : Int32) (x16 : Int32) (k105 : Int32 → z_Hp → Option (Int32 × z_Hp)) (qk105 : ∀ (x20 : Int32) (h21 : z_Hp), z_G zi mi_X10_whoCan 105 [(0, vr (some a12)), (1, vi x13), (2, vi x14), (3, vi x15), (4, vi x20), (5, vi x16)] [] h21 (k105 x20 h21)) : ∀ (n : Nat) (x17 : Int32) (x18 : Int32) (h19 : z_Hp), z_G zi mi_X10_whoCan 21 [(0, vr (some a12)), (1, vi x13), (2, vi x14), (3, vi x15), (4, vi x17), (5, vi x16), (6, vi x18)] [] h19 (c_X10_whoCan_L21 F a12 x13 x14 x15 x16 k105 n x17 x18 h19) := by
  intro n
  induction n with
  | zero => intro x17 x18 h19; rw [c_X10_whoCan_L21]; exact z_none
  | succ n ih =>
    intro x17 x18 h19
    rw [c_X10_whoCan_L21]
    refine z_iload (pc := 21) dX10_whoCan_21 6 rfl (z_aload_n (pc := 23) dX10_whoCan_23 rfl 0 rfl (z_getI (pc := 24) fl_RX10_361 rfl dX10_whoCan_24 (?_)))
    refine z_icmp_ge (pc := 27) (tgt := 105) dX10_whoCan_27 (by decide) ?_ ?_
    · exact z_sub [0, 1, 2, 3, 4, 5] rfl (qk105 x17 h19)
    · refine z_iconst (pc := 30) dX10_whoCan_30 ic_0 (z_istore (pc := 31) (L' := [(0, vr (some a12)), (1, vi x13), (2, vi x14), (3, vi x15), (4, vi x17), (5, vi x16), (6, vi x18), (7, vi 0)]) dX10_whoCan_31 (Nat.le_of_ble_eq_true rfl) rfl (?_))
      refine g_X10_whoCan_L33 F a12 x13 x14 x15 x16 x18 _ (fun x48 h49 => ?_) F x17 0 h19
      refine z_iincl (pc := 99) (L' := fun x50 => [(0, vr (some a12)), (1, vi x13), (2, vi x14), (3, vi x15), (4, vi x48), (5, vi x16), (6, vi x50)]) dX10_whoCan_99 6 rfl ic_1 (Nat.le_of_ble_eq_true rfl) (fun _ => rfl) (fun x50 => (z_goto (pc := 102) (tgt := 21) dX10_whoCan_102 (by decide) (?_)))
      exact ih x48 x50 h49
set_option maxRecDepth 20000 in
set_option maxHeartbeats 4000000 in
theorem g_X10_whoCan_L113 (F : Nat) (a54 : Nat) (x55 : Int32) (x56 : Int32) (x57 : Int32) (x58 : Int32) (x59 : Int32) (k158 : z_Hp → Option (Int32 × z_Hp)) (qk158 : ∀ (h62 : z_Hp), z_G zi mi_X10_whoCan 158 [(0, vr (some a54)), (1, vi x55), (2, vi x56), (3, vi x57), (4, vi x58), (5, vi x59)] [] h62 (k158 h62)) : ∀ (n : Nat) (x60 : Int32) (h61 : z_Hp), z_G zi mi_X10_whoCan 113 [(0, vr (some a54)), (1, vi x55), (2, vi x56), (3, vi x57), (4, vi x58), (5, vi x59), (6, vi x60)] [] h61 (c_X10_whoCan_L113 F a54 x55 x56 x57 x58 x59 k158 n x60 h61) := by
  intro n
  induction n with
  | zero => intro x60 h61; rw [c_X10_whoCan_L113]; exact z_none
  | succ n ih =>
    intro x60 h61
    rw [c_X10_whoCan_L113]
    refine z_iload (pc := 113) dX10_whoCan_113 6 rfl (z_iconst (pc := 115) dX10_whoCan_115 ic_4 (?_))
    refine z_icmp_ge (pc := 116) (tgt := 158) dX10_whoCan_116 (by decide) ?_ ?_
    · exact z_sub [0, 1, 2, 3, 4, 5] rfl (qk158 h61)
    · refine z_aload_n (pc := 119) dX10_whoCan_119 rfl 0 rfl (z_dup (pc := 120) dX10_whoCan_120 rfl (z_getI (pc := 121) fl_RX10_370 rfl dX10_whoCan_121 (z_iload (pc := 124) dX10_whoCan_124 4 rfl (z_iload (pc := 126) dX10_whoCan_126 6 rfl (z_callS_I (pc := 128) (avs := [vi x58, vi x60]) (st := [vi (hI h61 a54 59), vr (some a54)]) rfl (t_X10_has F x58 x60 h61) ky_X10_has ws_X10_has wz_RX10_312 (rm_X10_whoCan_X10_has) (Nat.le_of_ble_eq_true rfl) dX10_whoCan_128 (fun x64 h63 => (?_)))))))
      refine z_jn (P := fun (j : Int32 → z_Hp → Option (Int32 × z_Hp)) => ∀ (x66 : Int32) (h67 : z_Hp), z_G zi mi_X10_whoCan 148 [(0, vr (some a54)), (1, vi x55), (2, vi x56), (3, vi x57), (4, vi x58), (5, vi x59), (6, vi x60)] [vi x66, vi (hI h61 a54 59), vr (some a54)] h67 (j x66 h67)) (fun x66 h67 => ?_) (fun j148_65 qj148_65 => ?_)
      · refine z_ior (pc := 148) dX10_whoCan_148 (z_putIl (pc := 149) fl_RX10_370 (fin_X_10_59 _) rfl dX10_whoCan_149 (fun h68 => (z_iincl (pc := 152) (L' := fun x69 => [(0, vr (some a54)), (1, vi x55), (2, vi x56), (3, vi x57), (4, vi x58), (5, vi x59), (6, vi x69)]) dX10_whoCan_152 6 rfl ic_1 (Nat.le_of_ble_eq_true rfl) (fun _ => rfl) (fun x69 => (z_goto (pc := 155) (tgt := 113) dX10_whoCan_155 (by decide) (?_))))))
        exact ih x69 h68
      refine z_if_eq (pc := 131) (tgt := 147) dX10_whoCan_131 (by decide) ?_ ?_
      · refine z_iconst (pc := 147) dX10_whoCan_147 ic_0 (?_)
        exact qj148_65 0 h63
      · refine z_iconst (pc := 134) dX10_whoCan_134 ic_1 (z_aload_n (pc := 135) dX10_whoCan_135 rfl 0 rfl (z_iload (pc := 136) dX10_whoCan_136 6 rfl (z_iload (pc := 138) dX10_whoCan_138 5 rfl (z_callV_I (pc := 140) (avs := [vi x60, vi x59]) (st := [vi 1, vi (hI h61 a54 59), vr (some a54)]) rfl (q := (RX10, TX10, 62)) rfl rfl (t_X10_placeOf F a54 x60 x59 h63) ky_X10_placeOf wm_X10_placeOf we_X10_placeOf wz_RX10_367 (rm_X10_whoCan_X10_placeOf) (Nat.le_of_ble_eq_true rfl) dX10_whoCan_140 (fun x71 h70 => (?_))))))
        refine z_ishl (pc := 143) dX10_whoCan_143 (z_goto (pc := 144) (tgt := 148) dX10_whoCan_144 (by decide) (?_))
        exact qj148_65 (1 <<< (x71 &&& 31)) h70
set_option maxRecDepth 20000 in
set_option maxHeartbeats 4000000 in
theorem g_X10_whoCan_L161 (F : Nat) (a73 : Nat) (x74 : Int32) (x75 : Int32) (x76 : Int32) (x77 : Int32) (k214 : Int32 → z_Hp → Option (Int32 × z_Hp)) (qk214 : ∀ (x81 : Int32) (h82 : z_Hp), z_G zi mi_X10_whoCan 214 [(0, vr (some a73)), (1, vi x74), (2, vi x75), (3, vi x76), (4, vi x81), (5, vi x77)] [] h82 (k214 x81 h82)) : ∀ (n : Nat) (x78 : Int32) (x79 : Int32) (h80 : z_Hp), z_G zi mi_X10_whoCan 161 [(0, vr (some a73)), (1, vi x74), (2, vi x75), (3, vi x76), (4, vi x78), (5, vi x77), (6, vi x79)] [] h80 (c_X10_whoCan_L161 F a73 x74 x75 x76 x77 k214 n x78 x79 h80) := by
  intro n
  induction n with
  | zero => intro x78 x79 h80; rw [c_X10_whoCan_L161]; exact z_none
  | succ n ih =>
    intro x78 x79 h80
    rw [c_X10_whoCan_L161]
    refine z_iload (pc := 161) dX10_whoCan_161 6 rfl (z_iconst (pc := 163) dX10_whoCan_163 ic_4 (?_))
    refine z_icmp_ge (pc := 164) (tgt := 214) dX10_whoCan_164 (by decide) ?_ ?_
    · exact z_sub [0, 1, 2, 3, 4, 5] rfl (qk214 x78 h80)
    · refine z_iload (pc := 167) dX10_whoCan_167 4 rfl (z_aload_n (pc := 169) dX10_whoCan_169 rfl 0 rfl (z_getRl (pc := 170) fl_RX10_141 rfl dX10_whoCan_170 (fun o83 => (z_iload (pc := 173) dX10_whoCan_173 6 rfl (?_)))))
      refine z_nn (fun a84 ea84 => ?_)
      subst ea84
      refine z_iaload (pc := 175) dX10_whoCan_175 (?_)
      refine z_jn (P := fun (j : Int32 → z_Hp → Option (Int32 × z_Hp)) => ∀ (x86 : Int32) (h87 : z_Hp), z_G zi mi_X10_whoCan 205 [(0, vr (some a73)), (1, vi x74), (2, vi x75), (3, vi x76), (5, vi x77), (6, vi x79)] [vi x86, vi x78] h87 (j x86 h87)) (fun x86 h87 => ?_) (fun j205_85 qj205_85 => ?_)
      · refine z_ior (pc := 205) dX10_whoCan_205 (z_istorel (pc := 206) (L' := fun x88 => [(0, vr (some a73)), (1, vi x74), (2, vi x75), (3, vi x76), (4, vi x88), (5, vi x77), (6, vi x79)]) dX10_whoCan_206 (Nat.le_of_ble_eq_true rfl) (fun _ => rfl) (fun x88 => (z_iincl (pc := 208) (L' := fun x89 => [(0, vr (some a73)), (1, vi x74), (2, vi x75), (3, vi x76), (4, vi x88), (5, vi x77), (6, vi x89)]) dX10_whoCan_208 6 rfl ic_1 (Nat.le_of_ble_eq_true rfl) (fun _ => rfl) (fun x89 => (z_goto (pc := 211) (tgt := 161) dX10_whoCan_211 (by decide) (?_))))))
        exact ih x88 x89 h87
      refine z_jn (P := fun (j : z_Hp → Option (Int32 × z_Hp)) => ∀ (h91 : z_Hp), z_G zi mi_X10_whoCan 204 [(0, vr (some a73)), (1, vi x74), (2, vi x75), (3, vi x76), (5, vi x77), (6, vi x79)] [vi x78] h91 (j h91)) (fun h91 => ?_) (fun j204_90 qj204_90 => ?_)
      · refine z_iconst (pc := 204) dX10_whoCan_204 ic_0 (?_)
        exact qj205_85 0 h91
      refine z_if_lt (pc := 176) (tgt := 204) dX10_whoCan_176 (by decide) ?_ ?_
      · exact z_sub [0, 1, 2, 3, 5, 6] rfl (qj204_90 h80)
      · refine z_aload_n (pc := 179) dX10_whoCan_179 rfl 0 rfl (z_getI (pc := 180) fl_RX10_370 rfl dX10_whoCan_180 (z_aload_n (pc := 183) dX10_whoCan_183 rfl 0 rfl (z_iload (pc := 184) dX10_whoCan_184 6 rfl (z_iload (pc := 186) dX10_whoCan_186 5 rfl (z_callV_I (pc := 188) (avs := [vi x79, vi x77]) (st := [vi (hI h80 a73 59), vi x78]) rfl (q := (RX10, TX10, 62)) rfl rfl (t_X10_placeOf F a73 x79 x77 h80) ky_X10_placeOf wm_X10_placeOf we_X10_placeOf wz_RX10_367 (rm_X10_whoCan_X10_placeOf) (Nat.le_of_ble_eq_true rfl) dX10_whoCan_188 (fun x93 h92 => (?_)))))))
        refine z_callS_I (pc := 191) (avs := [vi (hI h80 a73 59), vi x93]) (st := [vi x78]) rfl (t_X10_has F (hI h80 a73 59) x93 h92) ky_X10_has ws_X10_has wz_RX10_312 (rm_X10_whoCan_X10_has) (Nat.le_of_ble_eq_true rfl) dX10_whoCan_191 (fun x95 h94 => (?_))
        refine z_if_eq (pc := 194) (tgt := 204) dX10_whoCan_194 (by decide) ?_ ?_
        · exact z_sub [0, 1, 2, 3, 5, 6] rfl (qj204_90 h94)
        · refine z_iconst (pc := 197) dX10_whoCan_197 ic_1 (z_iload (pc := 198) dX10_whoCan_198 6 rfl (z_ishl (pc := 200) dX10_whoCan_200 (z_goto (pc := 201) (tgt := 205) dX10_whoCan_201 (by decide) (?_))))
          exact z_sub [0, 1, 2, 3, 5, 6] rfl (qj205_85 (1 <<< (x79 &&& 31)) h94)
set_option maxRecDepth 20000 in
set_option maxHeartbeats 4000000 in
theorem g_X10_whoCan_L12 (F : Nat) (a5 : Nat) (x6 : Int32) (x7 : Int32) (x8 : Int32) : ∀ (n : Nat) (x9 : Int32) (x10 : Int32) (h11 : z_Hp), z_G zi mi_X10_whoCan 12 [(0, vr (some a5)), (1, vi x6), (2, vi x7), (3, vi x8), (4, vi x9), (5, vi x10)] [] h11 (c_X10_whoCan_L12 F a5 x6 x7 x8 n x9 x10 h11) := by
  intro n
  induction n with
  | zero => intro x9 x10 h11; rw [c_X10_whoCan_L12]; exact z_none
  | succ n ih =>
    intro x9 x10 h11
    rw [c_X10_whoCan_L12]
    refine z_iload (pc := 12) dX10_whoCan_12 5 rfl (z_iload_n (pc := 14) dX10_whoCan_14 rfl 2 rfl (?_))
    refine z_icmp_gt (pc := 15) (tgt := 255) dX10_whoCan_15 (by decide) ?_ ?_
    · refine z_iload (pc := 255) dX10_whoCan_255 4 rfl (?_)
      exact z_iret (pc := 257) dX10_whoCan_257 rfl rfl
    · refine z_iconst (pc := 18) dX10_whoCan_18 ic_0 (z_istore (pc := 19) (L' := [(0, vr (some a5)), (1, vi x6), (2, vi x7), (3, vi x8), (4, vi x9), (5, vi x10), (6, vi 0)]) dX10_whoCan_19 (Nat.le_of_ble_eq_true rfl) rfl (?_))
      refine g_X10_whoCan_L21 F a5 x6 x7 x8 x10 _ (fun x51 h52 => ?_) F x9 0 h11
      refine z_aload_n (pc := 105) dX10_whoCan_105 rfl 0 rfl (z_iconst (pc := 106) dX10_whoCan_106 ic_0 (z_putIl (pc := 107) fl_RX10_370 (fin_X_10_59 _) rfl dX10_whoCan_107 (fun h53 => (z_iconst (pc := 110) dX10_whoCan_110 ic_0 (z_istore (pc := 111) (L' := [(0, vr (some a5)), (1, vi x6), (2, vi x7), (3, vi x8), (4, vi x51), (5, vi x10), (6, vi 0)]) dX10_whoCan_111 (Nat.le_of_ble_eq_true rfl) rfl (?_))))))
      refine g_X10_whoCan_L113 F a5 x6 x7 x8 x51 x10 _ (fun h72 => ?_) F 0 h53
      refine z_iconst (pc := 158) dX10_whoCan_158 ic_0 (z_istore (pc := 159) (L' := [(0, vr (some a5)), (1, vi x6), (2, vi x7), (3, vi x8), (4, vi x51), (5, vi x10), (6, vi 0)]) dX10_whoCan_159 (Nat.le_of_ble_eq_true rfl) rfl (?_))
      refine g_X10_whoCan_L161 F a5 x6 x7 x8 x10 _ (fun x96 h97 => ?_) F x51 0 h72
      refine z_aload_n (pc := 214) dX10_whoCan_214 rfl 0 rfl (z_aload_n (pc := 215) dX10_whoCan_215 rfl 0 rfl (z_getI (pc := 216) fl_RX10_364 rfl dX10_whoCan_216 (?_)))
      refine z_jn (P := fun (j : Int32 → z_Hp → Option (Int32 × z_Hp)) => ∀ (x99 : Int32) (h100 : z_Hp), z_G zi mi_X10_whoCan 246 [(0, vr (some a5)), (1, vi x6), (2, vi x7), (3, vi x8), (4, vi x96), (5, vi x10)] [vi x99, vr (some a5)] h100 (j x99 h100)) (fun x99 h100 => ?_) (fun j246_98 qj246_98 => ?_)
      · refine z_putIl (pc := 246) fl_RX10_364 (fin_X_10_60 _) rfl dX10_whoCan_246 (fun h101 => (z_iincl (pc := 249) (L' := fun x102 => [(0, vr (some a5)), (1, vi x6), (2, vi x7), (3, vi x8), (4, vi x96), (5, vi x102)]) dX10_whoCan_249 5 rfl ic_1 (Nat.le_of_ble_eq_true rfl) (fun _ => rfl) (fun x102 => (z_goto (pc := 252) (tgt := 12) dX10_whoCan_252 (by decide) (?_)))))
        exact ih x96 x102 h101
      refine z_jn (P := fun (j : z_Hp → Option (Int32 × z_Hp)) => ∀ (h104 : z_Hp), z_G zi mi_X10_whoCan 242 [(0, vr (some a5)), (1, vi x6), (2, vi x7), (3, vi x8), (4, vi x96), (5, vi x10)] [vr (some a5)] h104 (j h104)) (fun h104 => ?_) (fun j242_103 qj242_103 => ?_)
      · refine z_aload_n (pc := 242) dX10_whoCan_242 rfl 0 rfl (z_getI (pc := 243) fl_RX10_364 rfl dX10_whoCan_243 (?_))
        exact qj246_98 (hI h104 a5 60) h104
      refine z_if_ge (pc := 219) (tgt := 242) dX10_whoCan_219 (by decide) ?_ ?_
      · exact qj242_103 h97
      · refine z_iload_n (pc := 222) dX10_whoCan_222 rfl 3 rfl (?_)
        refine z_if_lt (pc := 223) (tgt := 242) dX10_whoCan_223 (by decide) ?_ ?_
        · exact qj242_103 h97
        · refine z_aload_n (pc := 226) dX10_whoCan_226 rfl 0 rfl (z_getI (pc := 227) fl_RX10_370 rfl dX10_whoCan_227 (z_iload_n (pc := 230) dX10_whoCan_230 rfl 3 rfl (z_callS_I (pc := 231) (avs := [vi (hI h97 a5 59), vi x8]) (st := [vr (some a5)]) rfl (t_X10_has F (hI h97 a5 59) x8 h97) ky_X10_has ws_X10_has wz_RX10_312 (rm_X10_whoCan_X10_has) (Nat.le_of_ble_eq_true rfl) dX10_whoCan_231 (fun x106 h105 => (?_)))))
          refine z_if_eq (pc := 234) (tgt := 242) dX10_whoCan_234 (by decide) ?_ ?_
          · exact qj242_103 h105
          · refine z_iload (pc := 237) dX10_whoCan_237 5 rfl (z_goto (pc := 239) (tgt := 246) dX10_whoCan_239 (by decide) (?_))
            exact qj246_98 x10 h105
set_option maxRecDepth 20000 in
set_option maxHeartbeats 4000000 in
theorem t_X10_whoCan (F : Nat) (a0 : Nat) (x1 : Int32) (x2 : Int32) (x3 : Int32) (h0 : z_Hp) : z_Ct zi mi_X10_whoCan [vr (some a0), vi x1, vi x2, vi x3] h0 (c_X10_whoCan F a0 x1 x2 x3 h0) := by
  refine z_entry (by decide) (Nat.le_of_ble_eq_true rfl) [(0, vr (some a0)), (1, vi x1), (2, vi x2), (3, vi x3)] rfl ?_
  unfold c_X10_whoCan
  refine z_iconst (pc := 0) dX10_whoCan_0 ic_0 (z_istore (pc := 1) (L' := [(0, vr (some a0)), (1, vi x1), (2, vi x2), (3, vi x3), (4, vi 0)]) dX10_whoCan_1 (Nat.le_of_ble_eq_true rfl) rfl (z_aload_n (pc := 3) dX10_whoCan_3 rfl 0 rfl (z_bipush (pc := 4) dX10_whoCan_4 bp_m9 (z_putIl (pc := 6) fl_RX10_364 (fin_X_10_60 _) rfl dX10_whoCan_6 (fun h4 => (z_iconst (pc := 9) dX10_whoCan_9 ic_0 (z_istore (pc := 10) (L' := [(0, vr (some a0)), (1, vi x1), (2, vi x2), (3, vi x3), (4, vi 0), (5, vi 0)]) dX10_whoCan_10 (Nat.le_of_ble_eq_true rfl) rfl (?_))))))))
  refine g_X10_whoCan_L12 F a0 x1 x2 x3 F 0 0 h4
theorem dX10_sellersWith_0 : decode cX10_sellersWith 0 = .ok (.aload_n 0, 1) := by decide +kernel
theorem dX10_sellersWith_1 : decode cX10_sellersWith 1 = .ok (.iload_n 1, 1) := by decide +kernel
theorem dX10_sellersWith_2 : decode cX10_sellersWith 2 = .ok (.iload_n 2, 1) := by decide +kernel
theorem dX10_sellersWith_3 : decode cX10_sellersWith 3 = .ok (.bipush (-9), 2) := by decide +kernel
theorem dX10_sellersWith_5 : decode cX10_sellersWith 5 = .ok (.invokevirtual 373, 3) := by decide +kernel
theorem dX10_sellersWith_8 : decode cX10_sellersWith 8 = .ok (.invokestatic 279, 3) := by decide +kernel
theorem dX10_sellersWith_11 : decode cX10_sellersWith 11 = .ok (.ireturn, 1) := by decide +kernel
def c_X10_sellersWith (F : Nat) (a0 : Nat) (x1 : Int32) (x2 : Int32) (h0 : z_Hp) : Option (Int32 × z_Hp) := (if hT h0 a0 = 10 then (bI (c_X10_whoCan F a0 x1 x2 (-9) h0) (fun x4 h3 => (bI (c_X10_bits F x4 h3) (fun x6 h5 => (some (x6, h5)))))) else none)
set_option maxRecDepth 20000 in
set_option maxHeartbeats 4000000 in
theorem t_X10_sellersWith (F : Nat) (a0 : Nat) (x1 : Int32) (x2 : Int32) (h0 : z_Hp) : z_Ct zi mi_X10_sellersWith [vr (some a0), vi x1, vi x2] h0 (c_X10_sellersWith F a0 x1 x2 h0) := by
  refine z_entry (by decide) (Nat.le_of_ble_eq_true rfl) [(0, vr (some a0)), (1, vi x1), (2, vi x2)] rfl ?_
  unfold c_X10_sellersWith
  refine z_aload_n (pc := 0) dX10_sellersWith_0 rfl 0 rfl (z_iload_n (pc := 1) dX10_sellersWith_1 rfl 1 rfl (z_iload_n (pc := 2) dX10_sellersWith_2 rfl 2 rfl (z_bipush (pc := 3) dX10_sellersWith_3 bp_m9 (z_callV_I (pc := 5) (avs := [vi x1, vi x2, vi (-9)]) (st := []) rfl (q := (RX10, TX10, 62)) rfl rfl (t_X10_whoCan F a0 x1 x2 (-9) h0) ky_X10_whoCan wm_X10_whoCan we_X10_whoCan wz_RX10_373 (rm_X10_sellersWith_X10_whoCan) (Nat.le_of_ble_eq_true rfl) dX10_sellersWith_5 (fun x4 h3 => (?_))))))
  refine z_callS_I (pc := 8) (avs := [vi x4]) (st := []) rfl (t_X10_bits F x4 h3) ky_X10_bits ws_X10_bits wz_RX10_279 (rm_X10_sellersWith_X10_bits) (Nat.le_of_ble_eq_true rfl) dX10_sellersWith_8 (fun x6 h5 => (?_))
  exact z_iret (pc := 11) dX10_sellersWith_11 rfl rfl
theorem dX10_mark_0 : decode cX10_mark 0 = .ok (.aload_n 0, 1) := by decide +kernel
theorem dX10_mark_1 : decode cX10_mark 1 = .ok (.iload_n 1, 1) := by decide +kernel
theorem dX10_mark_2 : decode cX10_mark 2 = .ok (.invokevirtual 265, 3) := by decide +kernel
theorem dX10_mark_5 : decode cX10_mark 5 = .ok (.ifCond .eq 13, 3) := by decide +kernel
theorem dX10_mark_8 : decode cX10_mark 8 = .ok (.iload_n 2, 1) := by decide +kernel
theorem dX10_mark_9 : decode cX10_mark 9 = .ok (.iconst 1, 1) := by decide +kernel
theorem dX10_mark_10 : decode cX10_mark 10 = .ok (.bipush 6, 2) := by decide +kernel
theorem dX10_mark_12 : decode cX10_mark 12 = .ok (.invokestatic 166, 3) := by decide +kernel
theorem dX10_mark_15 : decode cX10_mark 15 = .ok (.ifCond .ne 5, 3) := by decide +kernel
theorem dX10_mark_18 : decode cX10_mark 18 = .ok (.iconst (-1), 1) := by decide +kernel
theorem dX10_mark_19 : decode cX10_mark 19 = .ok (.ireturn, 1) := by decide +kernel
theorem dX10_mark_20 : decode cX10_mark 20 = .ok (.aload_n 0, 1) := by decide +kernel
theorem dX10_mark_21 : decode cX10_mark 21 = .ok (.getfield 68, 3) := by decide +kernel
theorem dX10_mark_24 : decode cX10_mark 24 = .ok (.iload_n 1, 1) := by decide +kernel
theorem dX10_mark_25 : decode cX10_mark 25 = .ok (.iaload, 1) := by decide +kernel
theorem dX10_mark_26 : decode cX10_mark 26 = .ok (.iload_n 2, 1) := by decide +kernel
theorem dX10_mark_27 : decode cX10_mark 27 = .ok (.if_icmp .eq 34, 3) := by decide +kernel
theorem dX10_mark_30 : decode cX10_mark 30 = .ok (.iload_n 2, 1) := by decide +kernel
theorem dX10_mark_31 : decode cX10_mark 31 = .ok (.iconst 1, 1) := by decide +kernel
theorem dX10_mark_32 : decode cX10_mark 32 = .ok (.if_icmp .ne 13, 3) := by decide +kernel
theorem dX10_mark_35 : decode cX10_mark 35 = .ok (.aload_n 0, 1) := by decide +kernel
theorem dX10_mark_36 : decode cX10_mark 36 = .ok (.getfield 68, 3) := by decide +kernel
theorem dX10_mark_39 : decode cX10_mark 39 = .ok (.iload_n 1, 1) := by decide +kernel
theorem dX10_mark_40 : decode cX10_mark 40 = .ok (.iaload, 1) := by decide +kernel
theorem dX10_mark_41 : decode cX10_mark 41 = .ok (.iconst 2, 1) := by decide +kernel
theorem dX10_mark_42 : decode cX10_mark 42 = .ok (.if_icmp .eq 19, 3) := by decide +kernel
theorem dX10_mark_45 : decode cX10_mark 45 = .ok (.iload_n 2, 1) := by decide +kernel
theorem dX10_mark_46 : decode cX10_mark 46 = .ok (.iconst 5, 1) := by decide +kernel
theorem dX10_mark_47 : decode cX10_mark 47 = .ok (.if_icmp .ne 18, 3) := by decide +kernel
theorem dX10_mark_50 : decode cX10_mark 50 = .ok (.aload_n 0, 1) := by decide +kernel
theorem dX10_mark_51 : decode cX10_mark 51 = .ok (.getfield 68, 3) := by decide +kernel
theorem dX10_mark_54 : decode cX10_mark 54 = .ok (.iload_n 1, 1) := by decide +kernel
theorem dX10_mark_55 : decode cX10_mark 55 = .ok (.iaload, 1) := by decide +kernel
theorem dX10_mark_56 : decode cX10_mark 56 = .ok (.bipush 6, 2) := by decide +kernel
theorem dX10_mark_58 : decode cX10_mark 58 = .ok (.if_icmp .ne 7, 3) := by decide +kernel
theorem dX10_mark_61 : decode cX10_mark 61 = .ok (.iconst 1, 1) := by decide +kernel
theorem dX10_mark_62 : decode cX10_mark 62 = .ok (.goto 4, 3) := by decide +kernel
theorem dX10_mark_65 : decode cX10_mark 65 = .ok (.iconst 0, 1) := by decide +kernel
theorem dX10_mark_66 : decode cX10_mark 66 = .ok (.istore_n 3, 1) := by decide +kernel
theorem dX10_mark_67 : decode cX10_mark 67 = .ok (.iload_n 3, 1) := by decide +kernel
theorem dX10_mark_68 : decode cX10_mark 68 = .ok (.ifCond .ne 9, 3) := by decide +kernel
theorem dX10_mark_71 : decode cX10_mark 71 = .ok (.aload_n 0, 1) := by decide +kernel
theorem dX10_mark_72 : decode cX10_mark 72 = .ok (.iconst 3, 1) := by decide +kernel
theorem dX10_mark_73 : decode cX10_mark 73 = .ok (.invokevirtual 174, 3) := by decide +kernel
theorem dX10_mark_76 : decode cX10_mark 76 = .ok (.ireturn, 1) := by decide +kernel
theorem dX10_mark_77 : decode cX10_mark 77 = .ok (.iconst 0, 1) := by decide +kernel
theorem dX10_mark_78 : decode cX10_mark 78 = .ok (.istore 4, 2) := by decide +kernel
theorem dX10_mark_80 : decode cX10_mark 80 = .ok (.iload_n 2, 1) := by decide +kernel
theorem dX10_mark_81 : decode cX10_mark 81 = .ok (.tableswitch 131 1 5 #[35, 41, 48, 95, 102], 35) := by decide +kernel
theorem dX10_mark_116 : decode cX10_mark 116 = .ok (.aload_n 0, 1) := by decide +kernel
theorem dX10_mark_117 : decode cX10_mark 117 = .ok (.iload_n 1, 1) := by decide +kernel
theorem dX10_mark_118 : decode cX10_mark 118 = .ok (.invokevirtual 282, 3) := by decide +kernel
theorem dX10_mark_121 : decode cX10_mark 121 = .ok (.ireturn, 1) := by decide +kernel
theorem dX10_mark_122 : decode cX10_mark 122 = .ok (.aload_n 0, 1) := by decide +kernel
theorem dX10_mark_123 : decode cX10_mark 123 = .ok (.getfield 98, 3) := by decide +kernel
theorem dX10_mark_126 : decode cX10_mark 126 = .ok (.iload_n 1, 1) := by decide +kernel
theorem dX10_mark_127 : decode cX10_mark 127 = .ok (.iaload, 1) := by decide +kernel
theorem dX10_mark_128 : decode cX10_mark 128 = .ok (.ireturn, 1) := by decide +kernel
theorem dX10_mark_129 : decode cX10_mark 129 = .ok (.iconst 0, 1) := by decide +kernel
theorem dX10_mark_130 : decode cX10_mark 130 = .ok (.istore 5, 2) := by decide +kernel
theorem dX10_mark_132 : decode cX10_mark 132 = .ok (.iload 5, 2) := by decide +kernel
theorem dX10_mark_134 : decode cX10_mark 134 = .ok (.aload_n 0, 1) := by decide +kernel
theorem dX10_mark_135 : decode cX10_mark 135 = .ok (.getfield 262, 3) := by decide +kernel
theorem dX10_mark_138 : decode cX10_mark 138 = .ok (.if_icmp .ge 35, 3) := by decide +kernel
theorem dX10_mark_141 : decode cX10_mark 141 = .ok (.iload 4, 2) := by decide +kernel
theorem dX10_mark_143 : decode cX10_mark 143 = .ok (.iload 5, 2) := by decide +kernel
theorem dX10_mark_145 : decode cX10_mark 145 = .ok (.iload_n 1, 1) := by decide +kernel
theorem dX10_mark_146 : decode cX10_mark 146 = .ok (.if_icmp .eq 17, 3) := by decide +kernel
theorem dX10_mark_149 : decode cX10_mark 149 = .ok (.aload_n 0, 1) := by decide +kernel
theorem dX10_mark_150 : decode cX10_mark 150 = .ok (.iload_n 1, 1) := by decide +kernel
theorem dX10_mark_151 : decode cX10_mark 151 = .ok (.iload 5, 2) := by decide +kernel
theorem dX10_mark_153 : decode cX10_mark 153 = .ok (.invokevirtual 285, 3) := by decide +kernel
theorem dX10_mark_156 : decode cX10_mark 156 = .ok (.ifCond .eq 7, 3) := by decide +kernel
theorem dX10_mark_159 : decode cX10_mark 159 = .ok (.iconst 1, 1) := by decide +kernel
theorem dX10_mark_160 : decode cX10_mark 160 = .ok (.goto 4, 3) := by decide +kernel
theorem dX10_mark_163 : decode cX10_mark 163 = .ok (.iconst 0, 1) := by decide +kernel
theorem dX10_mark_164 : decode cX10_mark 164 = .ok (.iadd, 1) := by decide +kernel
theorem dX10_mark_165 : decode cX10_mark 165 = .ok (.istore 4, 2) := by decide +kernel
theorem dX10_mark_167 : decode cX10_mark 167 = .ok (.iinc 5 1, 3) := by decide +kernel
theorem dX10_mark_170 : decode cX10_mark 170 = .ok (.goto (-38), 3) := by decide +kernel
theorem dX10_mark_173 : decode cX10_mark 173 = .ok (.iload 4, 2) := by decide +kernel
theorem dX10_mark_175 : decode cX10_mark 175 = .ok (.ireturn, 1) := by decide +kernel
theorem dX10_mark_176 : decode cX10_mark 176 = .ok (.aload_n 0, 1) := by decide +kernel
theorem dX10_mark_177 : decode cX10_mark 177 = .ok (.getfield 95, 3) := by decide +kernel
theorem dX10_mark_180 : decode cX10_mark 180 = .ok (.iload_n 1, 1) := by decide +kernel
theorem dX10_mark_181 : decode cX10_mark 181 = .ok (.iaload, 1) := by decide +kernel
theorem dX10_mark_182 : decode cX10_mark 182 = .ok (.ireturn, 1) := by decide +kernel
theorem dX10_mark_183 : decode cX10_mark 183 = .ok (.aload_n 0, 1) := by decide +kernel
theorem dX10_mark_184 : decode cX10_mark 184 = .ok (.aload_n 0, 1) := by decide +kernel
theorem dX10_mark_185 : decode cX10_mark 185 = .ok (.getfield 74, 3) := by decide +kernel
theorem dX10_mark_188 : decode cX10_mark 188 = .ok (.iload_n 1, 1) := by decide +kernel
theorem dX10_mark_189 : decode cX10_mark 189 = .ok (.iaload, 1) := by decide +kernel
theorem dX10_mark_190 : decode cX10_mark 190 = .ok (.aload_n 0, 1) := by decide +kernel
theorem dX10_mark_191 : decode cX10_mark 191 = .ok (.getfield 191, 3) := by decide +kernel
theorem dX10_mark_194 : decode cX10_mark 194 = .ok (.bipush 100, 2) := by decide +kernel
theorem dX10_mark_196 : decode cX10_mark 196 = .ok (.if_icmp .ge 10, 3) := by decide +kernel
theorem dX10_mark_199 : decode cX10_mark 199 = .ok (.aload_n 0, 1) := by decide +kernel
theorem dX10_mark_200 : decode cX10_mark 200 = .ok (.getfield 191, 3) := by decide +kernel
theorem dX10_mark_203 : decode cX10_mark 203 = .ok (.goto 5, 3) := by decide +kernel
theorem dX10_mark_206 : decode cX10_mark 206 = .ok (.bipush 99, 2) := by decide +kernel
theorem dX10_mark_208 : decode cX10_mark 208 = .ok (.invokevirtual 288, 3) := by decide +kernel
theorem dX10_mark_211 : decode cX10_mark 211 = .ok (.ireturn, 1) := by decide +kernel
theorem dX10_mark_212 : decode cX10_mark 212 = .ok (.iconst 0, 1) := by decide +kernel
theorem dX10_mark_213 : decode cX10_mark 213 = .ok (.istore 5, 2) := by decide +kernel
theorem dX10_mark_215 : decode cX10_mark 215 = .ok (.iload 5, 2) := by decide +kernel
theorem dX10_mark_217 : decode cX10_mark 217 = .ok (.aload_n 0, 1) := by decide +kernel
theorem dX10_mark_218 : decode cX10_mark 218 = .ok (.getfield 291, 3) := by decide +kernel
theorem dX10_mark_221 : decode cX10_mark 221 = .ok (.if_icmp .ge 51, 3) := by decide +kernel
theorem dX10_mark_224 : decode cX10_mark 224 = .ok (.iload 4, 2) := by decide +kernel
theorem dX10_mark_226 : decode cX10_mark 226 = .ok (.aload_n 0, 1) := by decide +kernel
theorem dX10_mark_227 : decode cX10_mark 227 = .ok (.getfield 132, 3) := by decide +kernel
theorem dX10_mark_230 : decode cX10_mark 230 = .ok (.iload 5, 2) := by decide +kernel
theorem dX10_mark_232 : decode cX10_mark 232 = .ok (.iaload, 1) := by decide +kernel
theorem dX10_mark_233 : decode cX10_mark 233 = .ok (.aload_n 0, 1) := by decide +kernel
theorem dX10_mark_234 : decode cX10_mark 234 = .ok (.getfield 74, 3) := by decide +kernel
theorem dX10_mark_237 : decode cX10_mark 237 = .ok (.iload_n 1, 1) := by decide +kernel
theorem dX10_mark_238 : decode cX10_mark 238 = .ok (.iaload, 1) := by decide +kernel
theorem dX10_mark_239 : decode cX10_mark 239 = .ok (.if_icmp .ne 23, 3) := by decide +kernel
theorem dX10_mark_242 : decode cX10_mark 242 = .ok (.aload_n 0, 1) := by decide +kernel
theorem dX10_mark_243 : decode cX10_mark 243 = .ok (.getfield 135, 3) := by decide +kernel
theorem dX10_mark_246 : decode cX10_mark 246 = .ok (.iload 5, 2) := by decide +kernel
theorem dX10_mark_248 : decode cX10_mark 248 = .ok (.iaload, 1) := by decide +kernel
theorem dX10_mark_249 : decode cX10_mark 249 = .ok (.aload_n 0, 1) := by decide +kernel
theorem dX10_mark_250 : decode cX10_mark 250 = .ok (.getfield 71, 3) := by decide +kernel
theorem dX10_mark_253 : decode cX10_mark 253 = .ok (.iload_n 1, 1) := by decide +kernel
theorem dX10_mark_254 : decode cX10_mark 254 = .ok (.iaload, 1) := by decide +kernel
theorem dX10_mark_255 : decode cX10_mark 255 = .ok (.if_icmp .ne 7, 3) := by decide +kernel
theorem dX10_mark_258 : decode cX10_mark 258 = .ok (.iconst 1, 1) := by decide +kernel
theorem dX10_mark_259 : decode cX10_mark 259 = .ok (.goto 4, 3) := by decide +kernel
theorem dX10_mark_262 : decode cX10_mark 262 = .ok (.iconst 0, 1) := by decide +kernel
theorem dX10_mark_263 : decode cX10_mark 263 = .ok (.iadd, 1) := by decide +kernel
theorem dX10_mark_264 : decode cX10_mark 264 = .ok (.istore 4, 2) := by decide +kernel
theorem dX10_mark_266 : decode cX10_mark 266 = .ok (.iinc 5 1, 3) := by decide +kernel
theorem dX10_mark_269 : decode cX10_mark 269 = .ok (.goto (-54), 3) := by decide +kernel
theorem dX10_mark_272 : decode cX10_mark 272 = .ok (.iload 4, 2) := by decide +kernel
theorem dX10_mark_274 : decode cX10_mark 274 = .ok (.ireturn, 1) := by decide +kernel
def c_X10_mark_L215 (F : Nat) (a12 : Nat) (x13 : Int32) : Nat → Int32 → Int32 → z_Hp → Option (Int32 × z_Hp)
  | 0, _, _, _ => none
  | n + 1, x14, x15, h16 => (if hT h16 a12 = 10 then (if (hI h16 a12 49) ≤ x15 then (some (x14, h16)) else (if hT h16 a12 = 10 then (lt_ (hR h16 a12 50) (fun o17 => (nn o17 (fun a18 => (if okA h16 a18 20 x15 = true then (if hT h16 a12 = 10 then (lt_ (hR h16 a12 29) (fun o19 => (nn o19 (fun a20 => (if okA h16 a20 20 x13 = true then (lt_ (fun (x22 : Int32) (h23 : z_Hp) => (lt_ (x14 + x22) (fun x24 => (lt_ (x15 + 1) (fun x25 => (c_X10_mark_L215 F a12 x13 n x24 x25 h23)))))) (fun (j263_21 : Int32 → z_Hp → Option (Int32 × z_Hp)) => (lt_ (fun (h27 : z_Hp) => (j263_21 0 h27)) (fun (j262_26 : z_Hp → Option (Int32 × z_Hp)) => (if (hI h16 a18 (ix x15)) = (hI h16 a20 (ix x13)) then (if hT h16 a12 = 10 then (lt_ (hR h16 a12 51) (fun o28 => (nn o28 (fun a29 => (if okA h16 a29 20 x15 = true then (if hT h16 a12 = 10 then (lt_ (hR h16 a12 28) (fun o30 => (nn o30 (fun a31 => (if okA h16 a31 20 x13 = true then (if (hI h16 a29 (ix x15)) = (hI h16 a31 (ix x13)) then (j263_21 1 h16) else (j262_26 h16)) else none))))) else none) else none))))) else none) else (j262_26 h16)))))) else none))))) else none) else none))))) else none)) else none)
def c_X10_mark_L132 (F : Nat) (a36 : Nat) (x37 : Int32) : Nat → Int32 → Int32 → z_Hp → Option (Int32 × z_Hp)
  | 0, _, _, _ => none
  | n + 1, x38, x39, h40 => (if hT h40 a36 = 10 then (if (hI h40 a36 26) ≤ x39 then (some (x38, h40)) else (lt_ (fun (x42 : Int32) (h43 : z_Hp) => (lt_ (x38 + x42) (fun x44 => (lt_ (x39 + 1) (fun x45 => (c_X10_mark_L132 F a36 x37 n x44 x45 h43)))))) (fun (j164_41 : Int32 → z_Hp → Option (Int32 × z_Hp)) => (lt_ (fun (h47 : z_Hp) => (j164_41 0 h47)) (fun (j163_46 : z_Hp → Option (Int32 × z_Hp)) => (if x39 = x37 then (j163_46 h40) else (if hT h40 a36 = 10 then (bI (c_X10_areTaken F a36 x37 x39 h40) (fun x49 h48 => (if x49 = 0 then (j163_46 h48) else (j164_41 1 h48)))) else none))))))) else none)
set_option maxRecDepth 20000 in
def c_X10_mark (F : Nat) (a0 : Nat) (x1 : Int32) (x2 : Int32) (h0 : z_Hp) : Option (Int32 × z_Hp) := (if hT h0 a0 = 10 then (bI (c_X10_isSheet F a0 x1 h0) (fun x4 h3 => (if x4 = 0 then (some ((-1), h3)) else (bI (c_X10_in F x2 1 6 h3) (fun x6 h5 => (if x6 = 0 then (some ((-1), h5)) else (if hT h5 a0 = 10 then (lt_ (hR h5 a0 27) (fun o7 => (nn o7 (fun a8 => (if okA h5 a8 20 x1 = true then (lt_ (fun (x10 : Int32) (h11 : z_Hp) => (if x10 = 0 then (if hT h11 a0 = 10 then (bI (c_X10_meets F a0 3 h11) (fun x60 h59 => (some (x60, h59)))) else none) else (if (x2 : Int32).toInt < 1 ∨ 5 < (x2 : Int32).toInt then (c_X10_mark_L215 F a0 x1 F 0 0 h11) else (if x2 = 1 then (if hT h11 a0 = 10 then (bI (c_X10_copiesLike F a0 x1 h11) (fun x33 h32 => (some (x33, h32)))) else none) else (if x2 = 2 then (if hT h11 a0 = 10 then (lt_ (hR h11 a0 37) (fun o34 => (nn o34 (fun a35 => (if okA h11 a35 20 x1 = true then (some (hI h11 a35 (ix x1), h11)) else none))))) else none) else (if x2 = 3 then (c_X10_mark_L132 F a0 x1 F 0 0 h11) else (if x2 = 4 then (if hT h11 a0 = 10 then (lt_ (hR h11 a0 36) (fun o50 => (nn o50 (fun a51 => (if okA h11 a51 20 x1 = true then (some (hI h11 a51 (ix x1), h11)) else none))))) else none) else (if x2 = 5 then (if hT h11 a0 = 10 then (lt_ (hR h11 a0 29) (fun o52 => (nn o52 (fun a53 => (if okA h11 a53 20 x1 = true then (if hT h11 a0 = 10 then (lt_ (fun (x55 : Int32) (h56 : z_Hp) => (if hT h56 a0 = 10 then (bI (c_X10_sellersWith F a0 (hI h11 a53 (ix x1)) x55 h56) (fun x58 h57 => (some (x58, h57)))) else none)) (fun (j208_54 : Int32 → z_Hp → Option (Int32 × z_Hp)) => (if 100 ≤ (hI h11 a0 6) then (j208_54 99 h11) else (if hT h11 a0 = 10 then (j208_54 (hI h11 a0 6) h11) else none)))) else none) else none))))) else none) else none)))))))) (fun (j66_9 : Int32 → z_Hp → Option (Int32 × z_Hp)) => (lt_ (fun (h62 : z_Hp) => (j66_9 1 h62)) (fun (j61_61 : z_Hp → Option (Int32 × z_Hp)) => (if (hI h5 a8 (ix x1)) = x2 then (j61_61 h5) else (lt_ (fun (h64 : z_Hp) => (lt_ (fun (h66 : z_Hp) => (j66_9 0 h66)) (fun (j65_65 : z_Hp → Option (Int32 × z_Hp)) => (if x2 = 5 then (if hT h64 a0 = 10 then (lt_ (hR h64 a0 27) (fun o67 => (nn o67 (fun a68 => (if okA h64 a68 20 x1 = true then (if (hI h64 a68 (ix x1)) = 6 then (j61_61 h64) else (j65_65 h64)) else none))))) else none) else (j65_65 h64))))) (fun (j45_63 : z_Hp → Option (Int32 × z_Hp)) => (if x2 = 1 then (if hT h5 a0 = 10 then (lt_ (hR h5 a0 27) (fun o69 => (nn o69 (fun a70 => (if okA h5 a70 20 x1 = true then (if (hI h5 a70 (ix x1)) = 2 then (j61_61 h5) else (j45_63 h5)) else none))))) else none) else (j45_63 h5))))))))) else none))))) else none))))))) else none)
set_option maxRecDepth 20000 in
set_option maxHeartbeats 4000000 in
theorem g_X10_mark_L215 (F : Nat) (a12 : Nat) (x13 : Int32) : ∀ (n : Nat) (x14 : Int32) (x15 : Int32) (h16 : z_Hp), z_G zi mi_X10_mark 215 [(0, vr (some a12)), (1, vi x13), (4, vi x14), (5, vi x15)] [] h16 (c_X10_mark_L215 F a12 x13 n x14 x15 h16) := by
  intro n
  induction n with
  | zero => intro x14 x15 h16; rw [c_X10_mark_L215]; exact z_none
  | succ n ih =>
    intro x14 x15 h16
    rw [c_X10_mark_L215]
    refine z_iload (pc := 215) dX10_mark_215 3 rfl (z_aload_n (pc := 217) dX10_mark_217 rfl 0 rfl (z_getI (pc := 218) fl_RX10_291 rfl dX10_mark_218 (?_)))
    refine z_icmp_ge (pc := 221) (tgt := 272) dX10_mark_221 (by decide) ?_ ?_
    · refine z_iload (pc := 272) dX10_mark_272 2 rfl (?_)
      exact z_iret (pc := 274) dX10_mark_274 rfl rfl
    · refine z_iload (pc := 224) dX10_mark_224 2 rfl (z_aload_n (pc := 226) dX10_mark_226 rfl 0 rfl (z_getRl (pc := 227) fl_RX10_132 rfl dX10_mark_227 (fun o17 => (z_iload (pc := 230) dX10_mark_230 3 rfl (?_)))))
      refine z_nn (fun a18 ea18 => ?_)
      subst ea18
      refine z_iaload (pc := 232) dX10_mark_232 (z_aload_n (pc := 233) dX10_mark_233 rfl 0 rfl (z_getRl (pc := 234) fl_RX10_74 rfl dX10_mark_234 (fun o19 => (z_iload_n (pc := 237) dX10_mark_237 rfl 1 rfl (?_)))))
      refine z_nn (fun a20 ea20 => ?_)
      subst ea20
      refine z_iaload (pc := 238) dX10_mark_238 (?_)
      refine z_jn (P := fun (j : Int32 → z_Hp → Option (Int32 × z_Hp)) => ∀ (x22 : Int32) (h23 : z_Hp), z_G zi mi_X10_mark 263 [(0, vr (some a12)), (1, vi x13), (5, vi x15)] [vi x22, vi x14] h23 (j x22 h23)) (fun x22 h23 => ?_) (fun j263_21 qj263_21 => ?_)
      · refine z_iadd (pc := 263) dX10_mark_263 (z_istorel (pc := 264) (L' := fun x24 => [(0, vr (some a12)), (1, vi x13), (4, vi x24), (5, vi x15)]) dX10_mark_264 (Nat.le_of_ble_eq_true rfl) (fun _ => rfl) (fun x24 => (z_iincl (pc := 266) (L' := fun x25 => [(0, vr (some a12)), (1, vi x13), (4, vi x24), (5, vi x25)]) dX10_mark_266 3 rfl ic_1 (Nat.le_of_ble_eq_true rfl) (fun _ => rfl) (fun x25 => (z_goto (pc := 269) (tgt := 215) dX10_mark_269 (by decide) (?_))))))
        exact ih x24 x25 h23
      refine z_jn (P := fun (j : z_Hp → Option (Int32 × z_Hp)) => ∀ (h27 : z_Hp), z_G zi mi_X10_mark 262 [(0, vr (some a12)), (1, vi x13), (5, vi x15)] [vi x14] h27 (j h27)) (fun h27 => ?_) (fun j262_26 qj262_26 => ?_)
      · refine z_iconst (pc := 262) dX10_mark_262 ic_0 (?_)
        exact qj263_21 0 h27
      refine z_icmp_ne (pc := 239) (tgt := 262) dX10_mark_239 (by decide) ?_ ?_
      · exact z_sub [0, 1, 3] rfl (qj262_26 h16)
      · refine z_aload_n (pc := 242) dX10_mark_242 rfl 0 rfl (z_getRl (pc := 243) fl_RX10_135 rfl dX10_mark_243 (fun o28 => (z_iload (pc := 246) dX10_mark_246 3 rfl (?_))))
        refine z_nn (fun a29 ea29 => ?_)
        subst ea29
        refine z_iaload (pc := 248) dX10_mark_248 (z_aload_n (pc := 249) dX10_mark_249 rfl 0 rfl (z_getRl (pc := 250) fl_RX10_71 rfl dX10_mark_250 (fun o30 => (z_iload_n (pc := 253) dX10_mark_253 rfl 1 rfl (?_)))))
        refine z_nn (fun a31 ea31 => ?_)
        subst ea31
        refine z_iaload (pc := 254) dX10_mark_254 (?_)
        refine z_icmp_ne (pc := 255) (tgt := 262) dX10_mark_255 (by decide) ?_ ?_
        · exact z_sub [0, 1, 3] rfl (qj262_26 h16)
        · refine z_iconst (pc := 258) dX10_mark_258 ic_1 (z_goto (pc := 259) (tgt := 263) dX10_mark_259 (by decide) (?_))
          exact z_sub [0, 1, 3] rfl (qj263_21 1 h16)
set_option maxRecDepth 20000 in
set_option maxHeartbeats 4000000 in
theorem g_X10_mark_L132 (F : Nat) (a36 : Nat) (x37 : Int32) : ∀ (n : Nat) (x38 : Int32) (x39 : Int32) (h40 : z_Hp), z_G zi mi_X10_mark 132 [(0, vr (some a36)), (1, vi x37), (4, vi x38), (5, vi x39)] [] h40 (c_X10_mark_L132 F a36 x37 n x38 x39 h40) := by
  intro n
  induction n with
  | zero => intro x38 x39 h40; rw [c_X10_mark_L132]; exact z_none
  | succ n ih =>
    intro x38 x39 h40
    rw [c_X10_mark_L132]
    refine z_iload (pc := 132) dX10_mark_132 3 rfl (z_aload_n (pc := 134) dX10_mark_134 rfl 0 rfl (z_getI (pc := 135) fl_RX10_262 rfl dX10_mark_135 (?_)))
    refine z_icmp_ge (pc := 138) (tgt := 173) dX10_mark_138 (by decide) ?_ ?_
    · refine z_iload (pc := 173) dX10_mark_173 2 rfl (?_)
      exact z_iret (pc := 175) dX10_mark_175 rfl rfl
    · refine z_iload (pc := 141) dX10_mark_141 2 rfl (z_iload (pc := 143) dX10_mark_143 3 rfl (z_iload_n (pc := 145) dX10_mark_145 rfl 1 rfl (?_)))
      refine z_jn (P := fun (j : Int32 → z_Hp → Option (Int32 × z_Hp)) => ∀ (x42 : Int32) (h43 : z_Hp), z_G zi mi_X10_mark 164 [(0, vr (some a36)), (1, vi x37), (5, vi x39)] [vi x42, vi x38] h43 (j x42 h43)) (fun x42 h43 => ?_) (fun j164_41 qj164_41 => ?_)
      · refine z_iadd (pc := 164) dX10_mark_164 (z_istorel (pc := 165) (L' := fun x44 => [(0, vr (some a36)), (1, vi x37), (4, vi x44), (5, vi x39)]) dX10_mark_165 (Nat.le_of_ble_eq_true rfl) (fun _ => rfl) (fun x44 => (z_iincl (pc := 167) (L' := fun x45 => [(0, vr (some a36)), (1, vi x37), (4, vi x44), (5, vi x45)]) dX10_mark_167 3 rfl ic_1 (Nat.le_of_ble_eq_true rfl) (fun _ => rfl) (fun x45 => (z_goto (pc := 170) (tgt := 132) dX10_mark_170 (by decide) (?_))))))
        exact ih x44 x45 h43
      refine z_jn (P := fun (j : z_Hp → Option (Int32 × z_Hp)) => ∀ (h47 : z_Hp), z_G zi mi_X10_mark 163 [(0, vr (some a36)), (1, vi x37), (5, vi x39)] [vi x38] h47 (j h47)) (fun h47 => ?_) (fun j163_46 qj163_46 => ?_)
      · refine z_iconst (pc := 163) dX10_mark_163 ic_0 (?_)
        exact qj164_41 0 h47
      refine z_icmp_eq (pc := 146) (tgt := 163) dX10_mark_146 (by decide) ?_ ?_
      · exact z_sub [0, 1, 3] rfl (qj163_46 h40)
      · refine z_aload_n (pc := 149) dX10_mark_149 rfl 0 rfl (z_iload_n (pc := 150) dX10_mark_150 rfl 1 rfl (z_iload (pc := 151) dX10_mark_151 3 rfl (z_callV_I (pc := 153) (avs := [vi x37, vi x39]) (st := [vi x38]) rfl (q := (RX10, TX10, 62)) rfl rfl (t_X10_areTaken F a36 x37 x39 h40) ky_X10_areTaken wm_X10_areTaken we_X10_areTaken wz_RX10_285 (rm_X10_mark_X10_areTaken) (Nat.le_of_ble_eq_true rfl) dX10_mark_153 (fun x49 h48 => (?_)))))
        refine z_if_eq (pc := 156) (tgt := 163) dX10_mark_156 (by decide) ?_ ?_
        · exact z_sub [0, 1, 3] rfl (qj163_46 h48)
        · refine z_iconst (pc := 159) dX10_mark_159 ic_1 (z_goto (pc := 160) (tgt := 164) dX10_mark_160 (by decide) (?_))
          exact z_sub [0, 1, 3] rfl (qj164_41 1 h48)
set_option maxRecDepth 20000 in
set_option maxHeartbeats 4000000 in
theorem t_X10_mark (F : Nat) (a0 : Nat) (x1 : Int32) (x2 : Int32) (h0 : z_Hp) : z_Ct zi mi_X10_mark [vr (some a0), vi x1, vi x2] h0 (c_X10_mark F a0 x1 x2 h0) := by
  refine z_entry (by decide) (Nat.le_of_ble_eq_true rfl) [(0, vr (some a0)), (1, vi x1), (2, vi x2)] rfl ?_
  unfold c_X10_mark
  refine z_aload_n (pc := 0) dX10_mark_0 rfl 0 rfl (z_iload_n (pc := 1) dX10_mark_1 rfl 1 rfl (z_callV_I (pc := 2) (avs := [vi x1]) (st := []) rfl (q := (RX10, TX10, 62)) rfl rfl (t_X10_isSheet F a0 x1 h0) ky_X10_isSheet wm_X10_isSheet we_X10_isSheet wz_RX10_265 (rm_X10_mark_X10_isSheet) (Nat.le_of_ble_eq_true rfl) dX10_mark_2 (fun x4 h3 => (?_))))
  refine z_if_eq (pc := 5) (tgt := 18) dX10_mark_5 (by decide) ?_ ?_
  · refine z_iconst (pc := 18) dX10_mark_18 ic_m1 (?_)
    exact z_iret (pc := 19) dX10_mark_19 rfl rfl
  · refine z_iload_n (pc := 8) dX10_mark_8 rfl 2 rfl (z_iconst (pc := 9) dX10_mark_9 ic_1 (z_bipush (pc := 10) dX10_mark_10 bp_6 (z_callS_I (pc := 12) (avs := [vi x2, vi 1, vi 6]) (st := []) rfl (t_X10_in F x2 1 6 h3) ky_X10_in ws_X10_in wz_RX10_166 (rm_X10_mark_X10_in) (Nat.le_of_ble_eq_true rfl) dX10_mark_12 (fun x6 h5 => (?_)))))
    refine z_if_ne (pc := 15) (tgt := 20) dX10_mark_15 (by decide) ?_ ?_
    · refine z_aload_n (pc := 20) dX10_mark_20 rfl 0 rfl (z_getRl (pc := 21) fl_RX10_68 rfl dX10_mark_21 (fun o7 => (z_iload_n (pc := 24) dX10_mark_24 rfl 1 rfl (?_))))
      refine z_nn (fun a8 ea8 => ?_)
      subst ea8
      refine z_iaload (pc := 25) dX10_mark_25 (z_iload_n (pc := 26) dX10_mark_26 rfl 2 rfl (?_))
      refine z_jn (P := fun (j : Int32 → z_Hp → Option (Int32 × z_Hp)) => ∀ (x10 : Int32) (h11 : z_Hp), z_G zi mi_X10_mark 66 [(0, vr (some a0)), (1, vi x1), (2, vi x2)] [vi x10] h11 (j x10 h11)) (fun x10 h11 => ?_) (fun j66_9 qj66_9 => ?_)
      · refine z_istore_n (pc := 66) (L' := [(0, vr (some a0)), (1, vi x1), (2, vi x2), (3, vi x10)]) dX10_mark_66 rfl (Nat.le_of_ble_eq_true rfl) rfl (z_iload_n (pc := 67) dX10_mark_67 rfl 3 rfl (?_))
        refine z_if_ne (pc := 68) (tgt := 77) dX10_mark_68 (by decide) ?_ ?_
        · refine z_iconst (pc := 77) dX10_mark_77 ic_0 (z_istore (pc := 78) (L' := [(0, vr (some a0)), (1, vi x1), (2, vi x2), (3, vi x10), (4, vi 0)]) dX10_mark_78 (Nat.le_of_ble_eq_true rfl) rfl (z_iload_n (pc := 80) dX10_mark_80 rfl 2 rfl (?_)))
          refine z_ite (fun e => z_tblOut (tgt := 212) dX10_mark_81 e (by decide) ?_) (fun e => ?_)
          · refine z_iconst (pc := 212) dX10_mark_212 ic_0 (z_istore (pc := 213) (L' := [(0, vr (some a0)), (1, vi x1), (2, vi x2), (3, vi x10), (4, vi 0), (5, vi 0)]) dX10_mark_213 (Nat.le_of_ble_eq_true rfl) rfl (?_))
            refine z_sub [0, 1, 4, 5] rfl (g_X10_mark_L215 F a0 x1 F 0 0 h11)
          refine z_ite (fun e => z_tblC (tgt := 116) (off := 35) e dX10_mark_81 (by decide) (by decide) (by decide) (by decide) ?_) (fun _ => ?_)
          · refine z_aload_n (pc := 116) dX10_mark_116 rfl 0 rfl (z_iload_n (pc := 117) dX10_mark_117 rfl 1 rfl (z_callV_I (pc := 118) (avs := [vi x1]) (st := []) rfl (q := (RX10, TX10, 62)) rfl rfl (t_X10_copiesLike F a0 x1 h11) ky_X10_copiesLike wm_X10_copiesLike we_X10_copiesLike wz_RX10_282 (rm_X10_mark_X10_copiesLike) (Nat.le_of_ble_eq_true rfl) dX10_mark_118 (fun x33 h32 => (?_))))
            exact z_iret (pc := 121) dX10_mark_121 rfl rfl
          refine z_ite (fun e => z_tblC (tgt := 122) (off := 41) e dX10_mark_81 (by decide) (by decide) (by decide) (by decide) ?_) (fun _ => ?_)
          · refine z_aload_n (pc := 122) dX10_mark_122 rfl 0 rfl (z_getRl (pc := 123) fl_RX10_98 rfl dX10_mark_123 (fun o34 => (z_iload_n (pc := 126) dX10_mark_126 rfl 1 rfl (?_))))
            refine z_nn (fun a35 ea35 => ?_)
            subst ea35
            refine z_iaload (pc := 127) dX10_mark_127 (?_)
            exact z_iret (pc := 128) dX10_mark_128 rfl rfl
          refine z_ite (fun e => z_tblC (tgt := 129) (off := 48) e dX10_mark_81 (by decide) (by decide) (by decide) (by decide) ?_) (fun _ => ?_)
          · refine z_iconst (pc := 129) dX10_mark_129 ic_0 (z_istore (pc := 130) (L' := [(0, vr (some a0)), (1, vi x1), (2, vi x2), (3, vi x10), (4, vi 0), (5, vi 0)]) dX10_mark_130 (Nat.le_of_ble_eq_true rfl) rfl (?_))
            refine z_sub [0, 1, 4, 5] rfl (g_X10_mark_L132 F a0 x1 F 0 0 h11)
          refine z_ite (fun e => z_tblC (tgt := 176) (off := 95) e dX10_mark_81 (by decide) (by decide) (by decide) (by decide) ?_) (fun _ => ?_)
          · refine z_aload_n (pc := 176) dX10_mark_176 rfl 0 rfl (z_getRl (pc := 177) fl_RX10_95 rfl dX10_mark_177 (fun o50 => (z_iload_n (pc := 180) dX10_mark_180 rfl 1 rfl (?_))))
            refine z_nn (fun a51 ea51 => ?_)
            subst ea51
            refine z_iaload (pc := 181) dX10_mark_181 (?_)
            exact z_iret (pc := 182) dX10_mark_182 rfl rfl
          refine z_ite (fun e => z_tblC (tgt := 183) (off := 102) e dX10_mark_81 (by decide) (by decide) (by decide) (by decide) ?_) (fun _ => ?_)
          · refine z_aload_n (pc := 183) dX10_mark_183 rfl 0 rfl (z_aload_n (pc := 184) dX10_mark_184 rfl 0 rfl (z_getRl (pc := 185) fl_RX10_74 rfl dX10_mark_185 (fun o52 => (z_iload_n (pc := 188) dX10_mark_188 rfl 1 rfl (?_)))))
            refine z_nn (fun a53 ea53 => ?_)
            subst ea53
            refine z_iaload (pc := 189) dX10_mark_189 (z_aload_n (pc := 190) dX10_mark_190 rfl 0 rfl (z_getI (pc := 191) fl_RX10_191 rfl dX10_mark_191 (z_bipush (pc := 194) dX10_mark_194 bp_100 (?_))))
            refine z_jn (P := fun (j : Int32 → z_Hp → Option (Int32 × z_Hp)) => ∀ (x55 : Int32) (h56 : z_Hp), z_G zi mi_X10_mark 208 [] [vi x55, vi (hI h11 a53 (ix x1)), vr (some a0)] h56 (j x55 h56)) (fun x55 h56 => ?_) (fun j208_54 qj208_54 => ?_)
            · refine z_callV_I (pc := 208) (avs := [vi (hI h11 a53 (ix x1)), vi x55]) (st := []) rfl (q := (RX10, TX10, 62)) rfl rfl (t_X10_sellersWith F a0 (hI h11 a53 (ix x1)) x55 h56) ky_X10_sellersWith wm_X10_sellersWith we_X10_sellersWith wz_RX10_288 (rm_X10_mark_X10_sellersWith) (Nat.le_of_ble_eq_true rfl) dX10_mark_208 (fun x58 h57 => (?_))
              exact z_iret (pc := 211) dX10_mark_211 rfl rfl
            refine z_icmp_ge (pc := 196) (tgt := 206) dX10_mark_196 (by decide) ?_ ?_
            · refine z_bipush (pc := 206) dX10_mark_206 bp_99 (?_)
              exact z_sub [] rfl (qj208_54 99 h11)
            · refine z_aload_n (pc := 199) dX10_mark_199 rfl 0 rfl (z_getI (pc := 200) fl_RX10_191 rfl dX10_mark_200 (z_goto (pc := 203) (tgt := 208) dX10_mark_203 (by decide) (?_)))
              exact z_sub [] rfl (qj208_54 (hI h11 a0 6) h11)
          exact z_none
        · refine z_aload_n (pc := 71) dX10_mark_71 rfl 0 rfl (z_iconst (pc := 72) dX10_mark_72 ic_3 (z_callV_I (pc := 73) (avs := [vi 3]) (st := []) rfl (q := (RX10, TX10, 62)) rfl rfl (t_X10_meets F a0 3 h11) ky_X10_meets wm_X10_meets we_X10_meets wz_RX10_174 (rm_X10_mark_X10_meets) (Nat.le_of_ble_eq_true rfl) dX10_mark_73 (fun x60 h59 => (?_))))
          exact z_iret (pc := 76) dX10_mark_76 rfl rfl
      refine z_jn (P := fun (j : z_Hp → Option (Int32 × z_Hp)) => ∀ (h62 : z_Hp), z_G zi mi_X10_mark 61 [(0, vr (some a0)), (1, vi x1), (2, vi x2)] [] h62 (j h62)) (fun h62 => ?_) (fun j61_61 qj61_61 => ?_)
      · refine z_iconst (pc := 61) dX10_mark_61 ic_1 (z_goto (pc := 62) (tgt := 66) dX10_mark_62 (by decide) (?_))
        exact qj66_9 1 h62
      refine z_icmp_eq (pc := 27) (tgt := 61) dX10_mark_27 (by decide) ?_ ?_
      · exact qj61_61 h5
      · refine z_iload_n (pc := 30) dX10_mark_30 rfl 2 rfl (z_iconst (pc := 31) dX10_mark_31 ic_1 (?_))
        refine z_jn (P := fun (j : z_Hp → Option (Int32 × z_Hp)) => ∀ (h64 : z_Hp), z_G zi mi_X10_mark 45 [(0, vr (some a0)), (1, vi x1), (2, vi x2)] [] h64 (j h64)) (fun h64 => ?_) (fun j45_63 qj45_63 => ?_)
        · refine z_iload_n (pc := 45) dX10_mark_45 rfl 2 rfl (z_iconst (pc := 46) dX10_mark_46 ic_5 (?_))
          refine z_jn (P := fun (j : z_Hp → Option (Int32 × z_Hp)) => ∀ (h66 : z_Hp), z_G zi mi_X10_mark 65 [(0, vr (some a0)), (1, vi x1), (2, vi x2)] [] h66 (j h66)) (fun h66 => ?_) (fun j65_65 qj65_65 => ?_)
          · refine z_iconst (pc := 65) dX10_mark_65 ic_0 (?_)
            exact qj66_9 0 h66
          refine z_icmp_ne (pc := 47) (tgt := 65) dX10_mark_47 (by decide) ?_ ?_
          · exact qj65_65 h64
          · refine z_aload_n (pc := 50) dX10_mark_50 rfl 0 rfl (z_getRl (pc := 51) fl_RX10_68 rfl dX10_mark_51 (fun o67 => (z_iload_n (pc := 54) dX10_mark_54 rfl 1 rfl (?_))))
            refine z_nn (fun a68 ea68 => ?_)
            subst ea68
            refine z_iaload (pc := 55) dX10_mark_55 (z_bipush (pc := 56) dX10_mark_56 bp_6 (?_))
            refine z_icmp_ne (pc := 58) (tgt := 65) dX10_mark_58 (by decide) ?_ ?_
            · exact qj65_65 h64
            · exact qj61_61 h64
        refine z_icmp_ne (pc := 32) (tgt := 45) dX10_mark_32 (by decide) ?_ ?_
        · exact qj45_63 h5
        · refine z_aload_n (pc := 35) dX10_mark_35 rfl 0 rfl (z_getRl (pc := 36) fl_RX10_68 rfl dX10_mark_36 (fun o69 => (z_iload_n (pc := 39) dX10_mark_39 rfl 1 rfl (?_))))
          refine z_nn (fun a70 ea70 => ?_)
          subst ea70
          refine z_iaload (pc := 40) dX10_mark_40 (z_iconst (pc := 41) dX10_mark_41 ic_2 (?_))
          refine z_icmp_eq (pc := 42) (tgt := 61) dX10_mark_42 (by decide) ?_ ?_
          · exact qj61_61 h5
          · exact qj45_63 h5
    · refine z_iconst (pc := 18) dX10_mark_18 ic_m1 (?_)
      exact z_iret (pc := 19) dX10_mark_19 rfl rfl
