theorem dX3_numberOf_0 : decode cX3_numberOf 0 = .ok (.aload_n 0, 1) := by decide +kernel
theorem dX3_numberOf_1 : decode cX3_numberOf 1 = .ok (.getfield 21, 3) := by decide +kernel
theorem dX3_numberOf_4 : decode cX3_numberOf 4 = .ok (.iload_n 1, 1) := by decide +kernel
theorem dX3_numberOf_5 : decode cX3_numberOf 5 = .ok (.getstatic 18, 3) := by decide +kernel
theorem dX3_numberOf_8 : decode cX3_numberOf 8 = .ok (.arraylength, 1) := by decide +kernel
theorem dX3_numberOf_9 : decode cX3_numberOf 9 = .ok (.imul, 1) := by decide +kernel
theorem dX3_numberOf_10 : decode cX3_numberOf 10 = .ok (.iload_n 2, 1) := by decide +kernel
theorem dX3_numberOf_11 : decode cX3_numberOf 11 = .ok (.iadd, 1) := by decide +kernel
theorem dX3_numberOf_12 : decode cX3_numberOf 12 = .ok (.iaload, 1) := by decide +kernel
theorem dX3_numberOf_13 : decode cX3_numberOf 13 = .ok (.ireturn, 1) := by decide +kernel
def c_X3_numberOf (F : Nat) (a0 : Nat) (x1 : Int32) (x2 : Int32) (h0 : z_Hp) : Option (Int32 × z_Hp) := (if hT h0 a0 = 3 then (lt_ (hR h0 a0 2) (fun o3 => (if okL h0 2 = true then (nn o3 (fun a4 => (if okA h0 a4 20 ((x1 * (nI (hN h0 2))) + x2) = true then (some (hI h0 a4 (ix ((x1 * (nI (hN h0 2))) + x2)), h0)) else none))) else none))) else none)
set_option maxRecDepth 20000 in
set_option maxHeartbeats 4000000 in
theorem t_X3_numberOf (F : Nat) (a0 : Nat) (x1 : Int32) (x2 : Int32) (h0 : z_Hp) : z_Ct zi mi_X3_numberOf [vr (some a0), vi x1, vi x2] h0 (c_X3_numberOf F a0 x1 x2 h0) := by
  refine z_entry (by decide) (Nat.le_of_ble_eq_true rfl) [(0, vr (some a0)), (1, vi x1), (2, vi x2)] rfl ?_
  unfold c_X3_numberOf
  refine z_aload_n (pc := 0) dX3_numberOf_0 rfl 0 rfl (z_getRl (pc := 1) fl_RX3_21 rfl dX3_numberOf_1 (fun o3 => (z_iload_n (pc := 4) dX3_numberOf_4 rfl 1 rfl (z_getsN (pc := 5) (k := 2) (by decide) (by decide +kernel) dX3_numberOf_5 (z_alen (pc := 8) dX3_numberOf_8 (z_imul (pc := 9) dX3_numberOf_9 (z_iload_n (pc := 10) dX3_numberOf_10 rfl 2 rfl (z_iadd (pc := 11) dX3_numberOf_11 (?_)))))))))
  refine z_nn (fun a4 ea4 => ?_)
  subst ea4
  refine z_iaload (pc := 12) dX3_numberOf_12 (?_)
  exact z_iret (pc := 13) dX3_numberOf_13 rfl rfl
theorem dX3_governing_0 : decode cX3_governing 0 = .ok (.bipush (-9), 2) := by decide +kernel
theorem dX3_governing_2 : decode cX3_governing 2 = .ok (.istore 4, 2) := by decide +kernel
theorem dX3_governing_4 : decode cX3_governing 4 = .ok (.iconst 0, 1) := by decide +kernel
theorem dX3_governing_5 : decode cX3_governing 5 = .ok (.istore 5, 2) := by decide +kernel
theorem dX3_governing_7 : decode cX3_governing 7 = .ok (.iload 5, 2) := by decide +kernel
theorem dX3_governing_9 : decode cX3_governing 9 = .ok (.aload_n 0, 1) := by decide +kernel
theorem dX3_governing_10 : decode cX3_governing 10 = .ok (.getfield 32, 3) := by decide +kernel
theorem dX3_governing_13 : decode cX3_governing 13 = .ok (.if_icmp .ge 74, 3) := by decide +kernel
theorem dX3_governing_16 : decode cX3_governing 16 = .ok (.aload_n 0, 1) := by decide +kernel
theorem dX3_governing_17 : decode cX3_governing 17 = .ok (.getfield 9, 3) := by decide +kernel
theorem dX3_governing_20 : decode cX3_governing 20 = .ok (.iload 5, 2) := by decide +kernel
theorem dX3_governing_22 : decode cX3_governing 22 = .ok (.iaload, 1) := by decide +kernel
theorem dX3_governing_23 : decode cX3_governing 23 = .ok (.iload_n 3, 1) := by decide +kernel
theorem dX3_governing_24 : decode cX3_governing 24 = .ok (.if_icmp .gt 57, 3) := by decide +kernel
theorem dX3_governing_27 : decode cX3_governing 27 = .ok (.aload_n 0, 1) := by decide +kernel
theorem dX3_governing_28 : decode cX3_governing 28 = .ok (.getfield 15, 3) := by decide +kernel
theorem dX3_governing_31 : decode cX3_governing 31 = .ok (.iload 5, 2) := by decide +kernel
theorem dX3_governing_33 : decode cX3_governing 33 = .ok (.iaload, 1) := by decide +kernel
theorem dX3_governing_34 : decode cX3_governing 34 = .ok (.iload_n 2, 1) := by decide +kernel
theorem dX3_governing_35 : decode cX3_governing 35 = .ok (.if_icmp .gt 46, 3) := by decide +kernel
theorem dX3_governing_38 : decode cX3_governing 38 = .ok (.aload_n 0, 1) := by decide +kernel
theorem dX3_governing_39 : decode cX3_governing 39 = .ok (.iload 5, 2) := by decide +kernel
theorem dX3_governing_41 : decode cX3_governing 41 = .ok (.iload_n 1, 1) := by decide +kernel
theorem dX3_governing_42 : decode cX3_governing 42 = .ok (.invokevirtual 36, 3) := by decide +kernel
theorem dX3_governing_45 : decode cX3_governing 45 = .ok (.bipush (-9), 2) := by decide +kernel
theorem dX3_governing_47 : decode cX3_governing 47 = .ok (.if_icmp .ne 6, 3) := by decide +kernel
theorem dX3_governing_50 : decode cX3_governing 50 = .ok (.goto 31, 3) := by decide +kernel
theorem dX3_governing_53 : decode cX3_governing 53 = .ok (.iload 4, 2) := by decide +kernel
theorem dX3_governing_55 : decode cX3_governing 55 = .ok (.bipush (-9), 2) := by decide +kernel
theorem dX3_governing_57 : decode cX3_governing 57 = .ok (.if_icmp .eq 20, 3) := by decide +kernel
theorem dX3_governing_60 : decode cX3_governing 60 = .ok (.aload_n 0, 1) := by decide +kernel
theorem dX3_governing_61 : decode cX3_governing 61 = .ok (.getfield 15, 3) := by decide +kernel
theorem dX3_governing_64 : decode cX3_governing 64 = .ok (.iload 5, 2) := by decide +kernel
theorem dX3_governing_66 : decode cX3_governing 66 = .ok (.iaload, 1) := by decide +kernel
theorem dX3_governing_67 : decode cX3_governing 67 = .ok (.aload_n 0, 1) := by decide +kernel
theorem dX3_governing_68 : decode cX3_governing 68 = .ok (.getfield 15, 3) := by decide +kernel
theorem dX3_governing_71 : decode cX3_governing 71 = .ok (.iload 4, 2) := by decide +kernel
theorem dX3_governing_73 : decode cX3_governing 73 = .ok (.iaload, 1) := by decide +kernel
theorem dX3_governing_74 : decode cX3_governing 74 = .ok (.if_icmp .lt 7, 3) := by decide +kernel
theorem dX3_governing_77 : decode cX3_governing 77 = .ok (.iload 5, 2) := by decide +kernel
theorem dX3_governing_79 : decode cX3_governing 79 = .ok (.istore 4, 2) := by decide +kernel
theorem dX3_governing_81 : decode cX3_governing 81 = .ok (.iinc 5 1, 3) := by decide +kernel
theorem dX3_governing_84 : decode cX3_governing 84 = .ok (.goto (-77), 3) := by decide +kernel
theorem dX3_governing_87 : decode cX3_governing 87 = .ok (.iload 4, 2) := by decide +kernel
theorem dX3_governing_89 : decode cX3_governing 89 = .ok (.ireturn, 1) := by decide +kernel
def c_X3_governing_L7 (F : Nat) (a4 : Nat) (x5 : Int32) (x6 : Int32) (x7 : Int32) : Nat → Int32 → Int32 → z_Hp → Option (Int32 × z_Hp)
  | 0, _, _, _ => none
  | n + 1, x8, x9, h10 => (if hT h10 a4 = 3 then (if (hI h10 a4 3) ≤ x9 then (some (x8, h10)) else (if hT h10 a4 = 3 then (lt_ (hR h10 a4 0) (fun o11 => (nn o11 (fun a12 => (if okA h10 a12 20 x9 = true then (lt_ (fun (x14 : Int32) (h15 : z_Hp) => (lt_ (x9 + 1) (fun x16 => (c_X3_governing_L7 F a4 x5 x6 x7 n x14 x16 h15)))) (fun (j81_13 : Int32 → z_Hp → Option (Int32 × z_Hp)) => (if x7 < (hI h10 a12 (ix x9)) then (j81_13 x8 h10) else (if hT h10 a4 = 3 then (lt_ (hR h10 a4 1) (fun o17 => (nn o17 (fun a18 => (if okA h10 a18 20 x9 = true then (if x6 < (hI h10 a18 (ix x9)) then (j81_13 x8 h10) else (if hT h10 a4 = 3 then (bI (c_X3_numberOf F a4 x9 x5 h10) (fun x20 h19 => (if x20 = (-9) then (j81_13 x8 h19) else (lt_ (fun (h22 : z_Hp) => (j81_13 x9 h22)) (fun (j77_21 : z_Hp → Option (Int32 × z_Hp)) => (if x8 = (-9) then (j77_21 h19) else (if hT h19 a4 = 3 then (lt_ (hR h19 a4 1) (fun o23 => (nn o23 (fun a24 => (if okA h19 a24 20 x9 = true then (if hT h19 a4 = 3 then (lt_ (hR h19 a4 1) (fun o25 => (nn o25 (fun a26 => (if okA h19 a26 20 x8 = true then (if (hI h19 a24 (ix x9)) < (hI h19 a26 (ix x8)) then (j81_13 x8 h19) else (j77_21 h19)) else none))))) else none) else none))))) else none))))))) else none)) else none))))) else none)))) else none))))) else none)) else none)
def c_X3_governing (F : Nat) (a0 : Nat) (x1 : Int32) (x2 : Int32) (x3 : Int32) (h0 : z_Hp) : Option (Int32 × z_Hp) := (c_X3_governing_L7 F a0 x1 x2 x3 F (-9) 0 h0)
set_option maxRecDepth 20000 in
set_option maxHeartbeats 4000000 in
theorem g_X3_governing_L7 (F : Nat) (a4 : Nat) (x5 : Int32) (x6 : Int32) (x7 : Int32) : ∀ (n : Nat) (x8 : Int32) (x9 : Int32) (h10 : z_Hp), z_G zi mi_X3_governing 7 [(0, vr (some a4)), (1, vi x5), (2, vi x6), (3, vi x7), (4, vi x8), (5, vi x9)] [] h10 (c_X3_governing_L7 F a4 x5 x6 x7 n x8 x9 h10) := by
  intro n
  induction n with
  | zero => intro x8 x9 h10; rw [c_X3_governing_L7]; exact z_none
  | succ n ih =>
    intro x8 x9 h10
    rw [c_X3_governing_L7]
    refine z_iload (pc := 7) dX3_governing_7 5 rfl (z_aload_n (pc := 9) dX3_governing_9 rfl 0 rfl (z_getI (pc := 10) fl_RX3_32 rfl dX3_governing_10 (?_)))
    refine z_icmp_ge (pc := 13) (tgt := 87) dX3_governing_13 (by decide) ?_ ?_
    · refine z_iload (pc := 87) dX3_governing_87 4 rfl (?_)
      exact z_iret (pc := 89) dX3_governing_89 rfl rfl
    · refine z_aload_n (pc := 16) dX3_governing_16 rfl 0 rfl (z_getRl (pc := 17) fl_RX3_9 rfl dX3_governing_17 (fun o11 => (z_iload (pc := 20) dX3_governing_20 5 rfl (?_))))
      refine z_nn (fun a12 ea12 => ?_)
      subst ea12
      refine z_iaload (pc := 22) dX3_governing_22 (z_iload_n (pc := 23) dX3_governing_23 rfl 3 rfl (?_))
      refine z_jn (P := fun (j : Int32 → z_Hp → Option (Int32 × z_Hp)) => ∀ (x14 : Int32) (h15 : z_Hp), z_G zi mi_X3_governing 81 [(0, vr (some a4)), (1, vi x5), (2, vi x6), (3, vi x7), (4, vi x14), (5, vi x9)] [] h15 (j x14 h15)) (fun x14 h15 => ?_) (fun j81_13 qj81_13 => ?_)
      · refine z_iincl (pc := 81) (L' := fun x16 => [(0, vr (some a4)), (1, vi x5), (2, vi x6), (3, vi x7), (4, vi x14), (5, vi x16)]) dX3_governing_81 5 rfl ic_1 (Nat.le_of_ble_eq_true rfl) (fun _ => rfl) (fun x16 => (z_goto (pc := 84) (tgt := 7) dX3_governing_84 (by decide) (?_)))
        exact ih x14 x16 h15
      refine z_icmp_gt (pc := 24) (tgt := 81) dX3_governing_24 (by decide) ?_ ?_
      · exact qj81_13 x8 h10
      · refine z_aload_n (pc := 27) dX3_governing_27 rfl 0 rfl (z_getRl (pc := 28) fl_RX3_15 rfl dX3_governing_28 (fun o17 => (z_iload (pc := 31) dX3_governing_31 5 rfl (?_))))
        refine z_nn (fun a18 ea18 => ?_)
        subst ea18
        refine z_iaload (pc := 33) dX3_governing_33 (z_iload_n (pc := 34) dX3_governing_34 rfl 2 rfl (?_))
        refine z_icmp_gt (pc := 35) (tgt := 81) dX3_governing_35 (by decide) ?_ ?_
        · exact qj81_13 x8 h10
        · refine z_aload_n (pc := 38) dX3_governing_38 rfl 0 rfl (z_iload (pc := 39) dX3_governing_39 5 rfl (z_iload_n (pc := 41) dX3_governing_41 rfl 1 rfl (z_callV_I (pc := 42) (avs := [vi x9, vi x5]) (st := []) rfl (q := (RX3, TX3, 4)) rfl rfl (t_X3_numberOf F a4 x9 x5 h10) ky_X3_numberOf wm_X3_numberOf we_X3_numberOf wz_RX3_36 (rm_X3_governing_X3_numberOf) (Nat.le_of_ble_eq_true rfl) dX3_governing_42 (fun x20 h19 => (?_)))))
          refine z_bipush (pc := 45) dX3_governing_45 bp_m9 (?_)
          refine z_icmp_ne (pc := 47) (tgt := 53) dX3_governing_47 (by decide) ?_ ?_
          · refine z_iload (pc := 53) dX3_governing_53 4 rfl (z_bipush (pc := 55) dX3_governing_55 bp_m9 (?_))
            refine z_jn (P := fun (j : z_Hp → Option (Int32 × z_Hp)) => ∀ (h22 : z_Hp), z_G zi mi_X3_governing 77 [(0, vr (some a4)), (1, vi x5), (2, vi x6), (3, vi x7), (5, vi x9)] [] h22 (j h22)) (fun h22 => ?_) (fun j77_21 qj77_21 => ?_)
            · refine z_iload (pc := 77) dX3_governing_77 4 rfl (z_istore (pc := 79) (L' := [(0, vr (some a4)), (1, vi x5), (2, vi x6), (3, vi x7), (4, vi x9), (5, vi x9)]) dX3_governing_79 (Nat.le_of_ble_eq_true rfl) rfl (?_))
              exact qj81_13 x9 h22
            refine z_icmp_eq (pc := 57) (tgt := 77) dX3_governing_57 (by decide) ?_ ?_
            · exact z_sub [0, 1, 2, 3, 5] rfl (qj77_21 h19)
            · refine z_aload_n (pc := 60) dX3_governing_60 rfl 0 rfl (z_getRl (pc := 61) fl_RX3_15 rfl dX3_governing_61 (fun o23 => (z_iload (pc := 64) dX3_governing_64 5 rfl (?_))))
              refine z_nn (fun a24 ea24 => ?_)
              subst ea24
              refine z_iaload (pc := 66) dX3_governing_66 (z_aload_n (pc := 67) dX3_governing_67 rfl 0 rfl (z_getRl (pc := 68) fl_RX3_15 rfl dX3_governing_68 (fun o25 => (z_iload (pc := 71) dX3_governing_71 4 rfl (?_)))))
              refine z_nn (fun a26 ea26 => ?_)
              subst ea26
              refine z_iaload (pc := 73) dX3_governing_73 (?_)
              refine z_icmp_lt (pc := 74) (tgt := 81) dX3_governing_74 (by decide) ?_ ?_
              · exact qj81_13 x8 h19
              · exact z_sub [0, 1, 2, 3, 5] rfl (qj77_21 h19)
          · refine z_goto (pc := 50) (tgt := 81) dX3_governing_50 (by decide) (?_)
            exact qj81_13 x8 h19
set_option maxRecDepth 20000 in
set_option maxHeartbeats 4000000 in
theorem t_X3_governing (F : Nat) (a0 : Nat) (x1 : Int32) (x2 : Int32) (x3 : Int32) (h0 : z_Hp) : z_Ct zi mi_X3_governing [vr (some a0), vi x1, vi x2, vi x3] h0 (c_X3_governing F a0 x1 x2 x3 h0) := by
  refine z_entry (by decide) (Nat.le_of_ble_eq_true rfl) [(0, vr (some a0)), (1, vi x1), (2, vi x2), (3, vi x3)] rfl ?_
  unfold c_X3_governing
  refine z_bipush (pc := 0) dX3_governing_0 bp_m9 (z_istore (pc := 2) (L' := [(0, vr (some a0)), (1, vi x1), (2, vi x2), (3, vi x3), (4, vi (-9))]) dX3_governing_2 (Nat.le_of_ble_eq_true rfl) rfl (z_iconst (pc := 4) dX3_governing_4 ic_0 (z_istore (pc := 5) (L' := [(0, vr (some a0)), (1, vi x1), (2, vi x2), (3, vi x3), (4, vi (-9)), (5, vi 0)]) dX3_governing_5 (Nat.le_of_ble_eq_true rfl) rfl (?_))))
  refine g_X3_governing_L7 F a0 x1 x2 x3 F (-9) 0 h0
theorem dX3_inForce_0 : decode cX3_inForce 0 = .ok (.aload_n 0, 1) := by decide +kernel
theorem dX3_inForce_1 : decode cX3_inForce 1 = .ok (.iload_n 1, 1) := by decide +kernel
theorem dX3_inForce_2 : decode cX3_inForce 2 = .ok (.iload_n 2, 1) := by decide +kernel
theorem dX3_inForce_3 : decode cX3_inForce 3 = .ok (.iload_n 3, 1) := by decide +kernel
theorem dX3_inForce_4 : decode cX3_inForce 4 = .ok (.invokevirtual 40, 3) := by decide +kernel
theorem dX3_inForce_7 : decode cX3_inForce 7 = .ok (.istore 4, 2) := by decide +kernel
theorem dX3_inForce_9 : decode cX3_inForce 9 = .ok (.iload 4, 2) := by decide +kernel
theorem dX3_inForce_11 : decode cX3_inForce 11 = .ok (.bipush (-9), 2) := by decide +kernel
theorem dX3_inForce_13 : decode cX3_inForce 13 = .ok (.if_icmp .ne 11, 3) := by decide +kernel
theorem dX3_inForce_16 : decode cX3_inForce 16 = .ok (.getstatic 44, 3) := by decide +kernel
theorem dX3_inForce_19 : decode cX3_inForce 19 = .ok (.iload_n 1, 1) := by decide +kernel
theorem dX3_inForce_20 : decode cX3_inForce 20 = .ok (.iaload, 1) := by decide +kernel
theorem dX3_inForce_21 : decode cX3_inForce 21 = .ok (.goto 10, 3) := by decide +kernel
theorem dX3_inForce_24 : decode cX3_inForce 24 = .ok (.aload_n 0, 1) := by decide +kernel
theorem dX3_inForce_25 : decode cX3_inForce 25 = .ok (.iload 4, 2) := by decide +kernel
theorem dX3_inForce_27 : decode cX3_inForce 27 = .ok (.iload_n 1, 1) := by decide +kernel
theorem dX3_inForce_28 : decode cX3_inForce 28 = .ok (.invokevirtual 36, 3) := by decide +kernel
theorem dX3_inForce_31 : decode cX3_inForce 31 = .ok (.ireturn, 1) := by decide +kernel
def c_X3_inForce (F : Nat) (a0 : Nat) (x1 : Int32) (x2 : Int32) (x3 : Int32) (h0 : z_Hp) : Option (Int32 × z_Hp) := (if hT h0 a0 = 3 then (bI (c_X3_governing F a0 x1 x2 x3 h0) (fun x5 h4 => (if x5 = (-9) then (if inb x1 (hN h4 3) = true then (some (hI h4 3 (ix x1), h4)) else none) else (if hT h4 a0 = 3 then (bI (c_X3_numberOf F a0 x5 x1 h4) (fun x7 h6 => (some (x7, h6)))) else none)))) else none)
set_option maxRecDepth 20000 in
set_option maxHeartbeats 4000000 in
theorem t_X3_inForce (F : Nat) (a0 : Nat) (x1 : Int32) (x2 : Int32) (x3 : Int32) (h0 : z_Hp) : z_Ct zi mi_X3_inForce [vr (some a0), vi x1, vi x2, vi x3] h0 (c_X3_inForce F a0 x1 x2 x3 h0) := by
  refine z_entry (by decide) (Nat.le_of_ble_eq_true rfl) [(0, vr (some a0)), (1, vi x1), (2, vi x2), (3, vi x3)] rfl ?_
  unfold c_X3_inForce
  refine z_aload_n (pc := 0) dX3_inForce_0 rfl 0 rfl (z_iload_n (pc := 1) dX3_inForce_1 rfl 1 rfl (z_iload_n (pc := 2) dX3_inForce_2 rfl 2 rfl (z_iload_n (pc := 3) dX3_inForce_3 rfl 3 rfl (z_callV_I (pc := 4) (avs := [vi x1, vi x2, vi x3]) (st := []) rfl (q := (RX3, TX3, 4)) rfl rfl (t_X3_governing F a0 x1 x2 x3 h0) ky_X3_governing wm_X3_governing we_X3_governing wz_RX3_40 (rm_X3_inForce_X3_governing) (Nat.le_of_ble_eq_true rfl) dX3_inForce_4 (fun x5 h4 => (?_))))))
  refine z_istore (pc := 7) (L' := [(0, vr (some a0)), (1, vi x1), (2, vi x2), (3, vi x3), (4, vi x5)]) dX3_inForce_7 (Nat.le_of_ble_eq_true rfl) rfl (z_iload (pc := 9) dX3_inForce_9 4 rfl (z_bipush (pc := 11) dX3_inForce_11 bp_m9 (?_)))
  refine z_icmp_ne (pc := 13) (tgt := 24) dX3_inForce_13 (by decide) ?_ ?_
  · refine z_aload_n (pc := 24) dX3_inForce_24 rfl 0 rfl (z_iload (pc := 25) dX3_inForce_25 4 rfl (z_iload_n (pc := 27) dX3_inForce_27 rfl 1 rfl (z_callV_I (pc := 28) (avs := [vi x5, vi x1]) (st := []) rfl (q := (RX3, TX3, 4)) rfl rfl (t_X3_numberOf F a0 x5 x1 h4) ky_X3_numberOf wm_X3_numberOf we_X3_numberOf wz_RX3_36 (rm_X3_inForce_X3_numberOf) (Nat.le_of_ble_eq_true rfl) dX3_inForce_28 (fun x7 h6 => (?_)))))
    exact z_iret (pc := 31) dX3_inForce_31 rfl rfl
  · refine z_getsN (pc := 16) (k := 3) (by decide) (by decide +kernel) dX3_inForce_16 (z_iload_n (pc := 19) dX3_inForce_19 rfl 1 rfl (z_iald0 (pc := 20) (by decide) dX3_inForce_20 (z_goto (pc := 21) (tgt := 31) dX3_inForce_21 (by decide) (?_))))
    exact z_iret (pc := 31) dX3_inForce_31 rfl rfl
theorem dX3_mixAll_0 : decode cX3_mixAll 0 = .ok (.lload_n 1, 1) := by decide +kernel
theorem dX3_mixAll_1 : decode cX3_mixAll 1 = .ok (.lstore_n 3, 1) := by decide +kernel
theorem dX3_mixAll_2 : decode cX3_mixAll 2 = .ok (.iconst 0, 1) := by decide +kernel
theorem dX3_mixAll_3 : decode cX3_mixAll 3 = .ok (.istore 5, 2) := by decide +kernel
theorem dX3_mixAll_5 : decode cX3_mixAll 5 = .ok (.iload 5, 2) := by decide +kernel
theorem dX3_mixAll_7 : decode cX3_mixAll 7 = .ok (.aload_n 0, 1) := by decide +kernel
theorem dX3_mixAll_8 : decode cX3_mixAll 8 = .ok (.getfield 32, 3) := by decide +kernel
theorem dX3_mixAll_11 : decode cX3_mixAll 11 = .ok (.if_icmp .ge 31, 3) := by decide +kernel
theorem dX3_mixAll_14 : decode cX3_mixAll 14 = .ok (.lload_n 3, 1) := by decide +kernel
theorem dX3_mixAll_15 : decode cX3_mixAll 15 = .ok (.aload_n 0, 1) := by decide +kernel
theorem dX3_mixAll_16 : decode cX3_mixAll 16 = .ok (.getfield 9, 3) := by decide +kernel
theorem dX3_mixAll_19 : decode cX3_mixAll 19 = .ok (.iload 5, 2) := by decide +kernel
theorem dX3_mixAll_21 : decode cX3_mixAll 21 = .ok (.iaload, 1) := by decide +kernel
theorem dX3_mixAll_22 : decode cX3_mixAll 22 = .ok (.invokestatic 47, 3) := by decide +kernel
theorem dX3_mixAll_25 : decode cX3_mixAll 25 = .ok (.aload_n 0, 1) := by decide +kernel
theorem dX3_mixAll_26 : decode cX3_mixAll 26 = .ok (.getfield 15, 3) := by decide +kernel
theorem dX3_mixAll_29 : decode cX3_mixAll 29 = .ok (.iload 5, 2) := by decide +kernel
theorem dX3_mixAll_31 : decode cX3_mixAll 31 = .ok (.iaload, 1) := by decide +kernel
theorem dX3_mixAll_32 : decode cX3_mixAll 32 = .ok (.invokestatic 47, 3) := by decide +kernel
theorem dX3_mixAll_35 : decode cX3_mixAll 35 = .ok (.lstore_n 3, 1) := by decide +kernel
theorem dX3_mixAll_36 : decode cX3_mixAll 36 = .ok (.iinc 5 1, 3) := by decide +kernel
theorem dX3_mixAll_39 : decode cX3_mixAll 39 = .ok (.goto (-34), 3) := by decide +kernel
theorem dX3_mixAll_42 : decode cX3_mixAll 42 = .ok (.lload_n 3, 1) := by decide +kernel
theorem dX3_mixAll_43 : decode cX3_mixAll 43 = .ok (.lreturn, 1) := by decide +kernel
def c_X3_mixAll_L5 (F : Nat) (a2 : Nat) : Nat → Int64 → Int32 → z_Hp → Option (Int64 × z_Hp)
  | 0, _, _, _ => none
  | n + 1, y3, x4, h5 => (if hT h5 a2 = 3 then (if (hI h5 a2 3) ≤ x4 then (some (y3, h5)) else (if hT h5 a2 = 3 then (lt_ (hR h5 a2 0) (fun o6 => (nn o6 (fun a7 => (if okA h5 a7 20 x4 = true then (bL (c_X9_mix F y3 (hI h5 a7 (ix x4)) h5) (fun y9 h8 => (if hT h8 a2 = 3 then (lt_ (hR h8 a2 1) (fun o10 => (nn o10 (fun a11 => (if okA h8 a11 20 x4 = true then (bL (c_X9_mix F y9 (hI h8 a11 (ix x4)) h8) (fun y13 h12 => (lt_ (x4 + 1) (fun x14 => (c_X3_mixAll_L5 F a2 n y13 x14 h12))))) else none))))) else none))) else none))))) else none)) else none)
def c_X3_mixAll (F : Nat) (a0 : Nat) (y1 : Int64) (h0 : z_Hp) : Option (Int64 × z_Hp) := (c_X3_mixAll_L5 F a0 F y1 0 h0)
set_option maxRecDepth 20000 in
set_option maxHeartbeats 4000000 in
theorem g_X3_mixAll_L5 (F : Nat) (a2 : Nat) : ∀ (n : Nat) (y3 : Int64) (x4 : Int32) (h5 : z_Hp), z_G zl mi_X3_mixAll 5 [(0, vr (some a2)), (3, vl y3), (5, vi x4)] [] h5 (c_X3_mixAll_L5 F a2 n y3 x4 h5) := by
  intro n
  induction n with
  | zero => intro y3 x4 h5; rw [c_X3_mixAll_L5]; exact z_none
  | succ n ih =>
    intro y3 x4 h5
    rw [c_X3_mixAll_L5]
    refine z_iload (pc := 5) dX3_mixAll_5 2 rfl (z_aload_n (pc := 7) dX3_mixAll_7 rfl 0 rfl (z_getI (pc := 8) fl_RX3_32 rfl dX3_mixAll_8 (?_)))
    refine z_icmp_ge (pc := 11) (tgt := 42) dX3_mixAll_11 (by decide) ?_ ?_
    · refine z_lload_n (pc := 42) dX3_mixAll_42 rfl 1 rfl (?_)
      exact z_lret (pc := 43) dX3_mixAll_43 rfl
    · refine z_lload_n (pc := 14) dX3_mixAll_14 rfl 1 rfl (z_aload_n (pc := 15) dX3_mixAll_15 rfl 0 rfl (z_getRl (pc := 16) fl_RX3_9 rfl dX3_mixAll_16 (fun o6 => (z_iload (pc := 19) dX3_mixAll_19 2 rfl (?_)))))
      refine z_nn (fun a7 ea7 => ?_)
      subst ea7
      refine z_iaload (pc := 21) dX3_mixAll_21 (z_callSN_L (pc := 22) (host := "BalladSheets") (avs := [vl y3, vi (hI h5 a7 (ix x4))]) (st := []) rfl (t_X9_mix F y3 (hI h5 a7 (ix x4)) h5) ky_X9_mix ws_X9_mix (by decide +kernel) (rm_X3_mixAll_X9_mix) (Nat.le_of_ble_eq_true rfl) dX3_mixAll_22 (fun y9 h8 => (?_)))
      refine z_aload_n (pc := 25) dX3_mixAll_25 rfl 0 rfl (z_getRl (pc := 26) fl_RX3_15 rfl dX3_mixAll_26 (fun o10 => (z_iload (pc := 29) dX3_mixAll_29 2 rfl (?_))))
      refine z_nn (fun a11 ea11 => ?_)
      subst ea11
      refine z_iaload (pc := 31) dX3_mixAll_31 (z_callSN_L (pc := 32) (host := "BalladSheets") (avs := [vl y9, vi (hI h8 a11 (ix x4))]) (st := []) rfl (t_X9_mix F y9 (hI h8 a11 (ix x4)) h8) ky_X9_mix ws_X9_mix (by decide +kernel) (rm_X3_mixAll_X9_mix) (Nat.le_of_ble_eq_true rfl) dX3_mixAll_32 (fun y13 h12 => (?_)))
      refine z_lstore_n (pc := 35) (L' := [(0, vr (some a2)), (3, vl y13), (5, vi x4)]) dX3_mixAll_35 rfl (Nat.le_of_ble_eq_true rfl) rfl (z_iincl (pc := 36) (L' := fun x14 => [(0, vr (some a2)), (3, vl y13), (5, vi x14)]) dX3_mixAll_36 2 rfl ic_1 (Nat.le_of_ble_eq_true rfl) (fun _ => rfl) (fun x14 => (z_goto (pc := 39) (tgt := 5) dX3_mixAll_39 (by decide) (?_))))
      exact ih y13 x14 h12
set_option maxRecDepth 20000 in
set_option maxHeartbeats 4000000 in
theorem t_X3_mixAll (F : Nat) (a0 : Nat) (y1 : Int64) (h0 : z_Hp) : z_Ct zl mi_X3_mixAll [vr (some a0), vl y1] h0 (c_X3_mixAll F a0 y1 h0) := by
  refine z_entry (by decide) (Nat.le_of_ble_eq_true rfl) [(0, vr (some a0)), (1, vl y1)] rfl ?_
  unfold c_X3_mixAll
  refine z_lload_n (pc := 0) dX3_mixAll_0 rfl 1 rfl (z_lstore_n (pc := 1) (L' := [(0, vr (some a0)), (1, vl y1), (3, vl y1)]) dX3_mixAll_1 rfl (Nat.le_of_ble_eq_true rfl) rfl (z_iconst (pc := 2) dX3_mixAll_2 ic_0 (z_istore (pc := 3) (L' := [(0, vr (some a0)), (1, vl y1), (3, vl y1), (5, vi 0)]) dX3_mixAll_3 (Nat.le_of_ble_eq_true rfl) rfl (?_))))
  refine z_sub [0, 2, 3] rfl (g_X3_mixAll_L5 F a0 F y1 0 h0)
theorem dX4_init_0 : decode cX4_init 0 = .ok (.aload_n 0, 1) := by decide +kernel
theorem dX4_init_1 : decode cX4_init 1 = .ok (.invokespecial 3, 3) := by decide +kernel
theorem dX4_init_4 : decode cX4_init 4 = .ok (.aload_n 0, 1) := by decide +kernel
theorem dX4_init_5 : decode cX4_init 5 = .ok (.iconst 4, 1) := by decide +kernel
theorem dX4_init_6 : decode cX4_init 6 = .ok (.anewarray 9, 3) := by decide +kernel
theorem dX4_init_9 : decode cX4_init 9 = .ok (.putfield 11, 3) := by decide +kernel
theorem dX4_init_12 : decode cX4_init 12 = .ok (.aload_n 0, 1) := by decide +kernel
theorem dX4_init_13 : decode cX4_init 13 = .ok (.bipush 30, 2) := by decide +kernel
theorem dX4_init_15 : decode cX4_init 15 = .ok (.newarray .int, 2) := by decide +kernel
theorem dX4_init_17 : decode cX4_init 17 = .ok (.putfield 17, 3) := by decide +kernel
theorem dX4_init_20 : decode cX4_init 20 = .ok (.aload_n 0, 1) := by decide +kernel
theorem dX4_init_21 : decode cX4_init 21 = .ok (.bipush 30, 2) := by decide +kernel
theorem dX4_init_23 : decode cX4_init 23 = .ok (.newarray .int, 2) := by decide +kernel
theorem dX4_init_25 : decode cX4_init 25 = .ok (.putfield 20, 3) := by decide +kernel
theorem dX4_init_28 : decode cX4_init 28 = .ok (.aload_n 0, 1) := by decide +kernel
theorem dX4_init_29 : decode cX4_init 29 = .ok (.bipush 30, 2) := by decide +kernel
theorem dX4_init_31 : decode cX4_init 31 = .ok (.newarray .int, 2) := by decide +kernel
theorem dX4_init_33 : decode cX4_init 33 = .ok (.putfield 23, 3) := by decide +kernel
theorem dX4_init_36 : decode cX4_init 36 = .ok (.aload_n 0, 1) := by decide +kernel
theorem dX4_init_37 : decode cX4_init 37 = .ok (.bipush 10, 2) := by decide +kernel
theorem dX4_init_39 : decode cX4_init 39 = .ok (.newarray .int, 2) := by decide +kernel
theorem dX4_init_41 : decode cX4_init 41 = .ok (.putfield 26, 3) := by decide +kernel
theorem dX4_init_44 : decode cX4_init 44 = .ok (.return_, 1) := by decide +kernel
def c_X4_init (F : Nat) (a0 : Nat) (h0 : z_Hp) : Option (z_Hp) := (if inb 4 100000 = true then (nwo h0 23 (ix 4) (fun a1 h2 => (if hT h2 a0 = 4 then (lt_ (sR h2 a0 0 (some a1)) (fun h3 => (if inb 30 100000 = true then (nwo h3 20 (ix 30) (fun a4 h5 => (if hT h5 a0 = 4 then (lt_ (sR h5 a0 1 (some a4)) (fun h6 => (if inb 30 100000 = true then (nwo h6 20 (ix 30) (fun a7 h8 => (if hT h8 a0 = 4 then (lt_ (sR h8 a0 2 (some a7)) (fun h9 => (if inb 30 100000 = true then (nwo h9 20 (ix 30) (fun a10 h11 => (if hT h11 a0 = 4 then (lt_ (sR h11 a0 3 (some a10)) (fun h12 => (if inb 10 100000 = true then (nwo h12 20 (ix 10) (fun a13 h14 => (if hT h14 a0 = 4 then (lt_ (sR h14 a0 4 (some a13)) (fun h15 => (some h15))) else none))) else none))) else none))) else none))) else none))) else none))) else none))) else none))) else none))) else none)
set_option maxRecDepth 20000 in
set_option maxHeartbeats 4000000 in
theorem t_X4_init (F : Nat) (a0 : Nat) (h0 : z_Hp) : z_Ct zv mi_X4_init [vr (some a0)] h0 (c_X4_init F a0 h0) := by
  refine z_entry (by decide) (Nat.le_of_ble_eq_true rfl) [(0, vr (some a0))] rfl ?_
  unfold c_X4_init
  refine z_aload_n (pc := 0) dX4_init_0 rfl 0 rfl (z_objinit (pc := 1) wo_RX4_3 wo_im wo_cd (Nat.le_of_ble_eq_true rfl) (Nat.le_of_ble_eq_true rfl) (Nat.le_of_ble_eq_true rfl) dX4_init_1 (z_aload_n (pc := 4) dX4_init_4 rfl 0 rfl (z_iconst (pc := 5) dX4_init_5 ic_4 (z_anewarrl (pc := 6) 23 (by decide) wl_RX4_9 dX4_init_6 (fun a1 h2 => (z_putRl (pc := 9) fl_RX4_11 fin_X4_init_4_0 rfl dX4_init_9 (fun h3 => (z_aload_n (pc := 12) dX4_init_12 rfl 0 rfl (z_bipush (pc := 13) dX4_init_13 bp_30 (?_))))))))))
  refine z_newarrl (pc := 15) 20 (by decide) rfl wa_20 dX4_init_15 (fun a4 h5 => (z_putRl (pc := 17) fl_RX4_17 fin_X4_init_4_1 rfl dX4_init_17 (fun h6 => (z_aload_n (pc := 20) dX4_init_20 rfl 0 rfl (z_bipush (pc := 21) dX4_init_21 bp_30 (z_newarrl (pc := 23) 20 (by decide) rfl wa_20 dX4_init_23 (fun a7 h8 => (z_putRl (pc := 25) fl_RX4_20 fin_X4_init_4_2 rfl dX4_init_25 (fun h9 => (z_aload_n (pc := 28) dX4_init_28 rfl 0 rfl (z_bipush (pc := 29) dX4_init_29 bp_30 (?_))))))))))))
  refine z_newarrl (pc := 31) 20 (by decide) rfl wa_20 dX4_init_31 (fun a10 h11 => (z_putRl (pc := 33) fl_RX4_23 fin_X4_init_4_3 rfl dX4_init_33 (fun h12 => (z_aload_n (pc := 36) dX4_init_36 rfl 0 rfl (z_bipush (pc := 37) dX4_init_37 bp_10 (z_newarrl (pc := 39) 20 (by decide) rfl wa_20 dX4_init_39 (fun a13 h14 => (z_putRl (pc := 41) fl_RX4_26 fin_X4_init_4_4 rfl dX4_init_41 (fun h15 => (?_))))))))))
  exact z_vret (pc := 44) dX4_init_44 rfl
theorem dX4_add_0 : decode cX4_add 0 = .ok (.aload_n 0, 1) := by decide +kernel
theorem dX4_add_1 : decode cX4_add 1 = .ok (.getfield 17, 3) := by decide +kernel
theorem dX4_add_4 : decode cX4_add 4 = .ok (.aload_n 0, 1) := by decide +kernel
theorem dX4_add_5 : decode cX4_add 5 = .ok (.getfield 29, 3) := by decide +kernel
theorem dX4_add_8 : decode cX4_add 8 = .ok (.iload_n 1, 1) := by decide +kernel
theorem dX4_add_9 : decode cX4_add 9 = .ok (.iastore, 1) := by decide +kernel
theorem dX4_add_10 : decode cX4_add 10 = .ok (.aload_n 0, 1) := by decide +kernel
theorem dX4_add_11 : decode cX4_add 11 = .ok (.getfield 20, 3) := by decide +kernel
theorem dX4_add_14 : decode cX4_add 14 = .ok (.aload_n 0, 1) := by decide +kernel
theorem dX4_add_15 : decode cX4_add 15 = .ok (.getfield 29, 3) := by decide +kernel
theorem dX4_add_18 : decode cX4_add 18 = .ok (.iload_n 2, 1) := by decide +kernel
theorem dX4_add_19 : decode cX4_add 19 = .ok (.iastore, 1) := by decide +kernel
theorem dX4_add_20 : decode cX4_add 20 = .ok (.aload_n 0, 1) := by decide +kernel
theorem dX4_add_21 : decode cX4_add 21 = .ok (.getfield 23, 3) := by decide +kernel
theorem dX4_add_24 : decode cX4_add 24 = .ok (.aload_n 0, 1) := by decide +kernel
theorem dX4_add_25 : decode cX4_add 25 = .ok (.getfield 29, 3) := by decide +kernel
theorem dX4_add_28 : decode cX4_add 28 = .ok (.iload_n 3, 1) := by decide +kernel
theorem dX4_add_29 : decode cX4_add 29 = .ok (.iastore, 1) := by decide +kernel
theorem dX4_add_30 : decode cX4_add 30 = .ok (.aload_n 0, 1) := by decide +kernel
theorem dX4_add_31 : decode cX4_add 31 = .ok (.dup, 1) := by decide +kernel
theorem dX4_add_32 : decode cX4_add 32 = .ok (.getfield 29, 3) := by decide +kernel
theorem dX4_add_35 : decode cX4_add 35 = .ok (.iconst 1, 1) := by decide +kernel
theorem dX4_add_36 : decode cX4_add 36 = .ok (.iadd, 1) := by decide +kernel
theorem dX4_add_37 : decode cX4_add 37 = .ok (.putfield 29, 3) := by decide +kernel
theorem dX4_add_40 : decode cX4_add 40 = .ok (.return_, 1) := by decide +kernel
def c_X4_add (F : Nat) (a0 : Nat) (x1 : Int32) (x2 : Int32) (x3 : Int32) (h0 : z_Hp) : Option (z_Hp) := (if hT h0 a0 = 4 then (lt_ (hR h0 a0 1) (fun o4 => (if hT h0 a0 = 4 then (nn o4 (fun a5 => (if okA h0 a5 20 (hI h0 a0 5) = true then (lt_ (sI h0 a5 (ix (hI h0 a0 5)) x1) (fun h6 => (if hT h6 a0 = 4 then (lt_ (hR h6 a0 2) (fun o7 => (if hT h6 a0 = 4 then (nn o7 (fun a8 => (if okA h6 a8 20 (hI h6 a0 5) = true then (lt_ (sI h6 a8 (ix (hI h6 a0 5)) x2) (fun h9 => (if hT h9 a0 = 4 then (lt_ (hR h9 a0 3) (fun o10 => (if hT h9 a0 = 4 then (nn o10 (fun a11 => (if okA h9 a11 20 (hI h9 a0 5) = true then (lt_ (sI h9 a11 (ix (hI h9 a0 5)) x3) (fun h12 => (if hT h12 a0 = 4 then (if hT h12 a0 = 4 then (lt_ (sI h12 a0 5 ((hI h12 a0 5) + 1)) (fun h13 => (some h13))) else none) else none))) else none))) else none))) else none))) else none))) else none))) else none))) else none))) else none))) else none)
set_option maxRecDepth 20000 in
set_option maxHeartbeats 4000000 in
theorem t_X4_add (F : Nat) (a0 : Nat) (x1 : Int32) (x2 : Int32) (x3 : Int32) (h0 : z_Hp) : z_Ct zv mi_X4_add [vr (some a0), vi x1, vi x2, vi x3] h0 (c_X4_add F a0 x1 x2 x3 h0) := by
  refine z_entry (by decide) (Nat.le_of_ble_eq_true rfl) [(0, vr (some a0)), (1, vi x1), (2, vi x2), (3, vi x3)] rfl ?_
  unfold c_X4_add
  refine z_aload_n (pc := 0) dX4_add_0 rfl 0 rfl (z_getRl (pc := 1) fl_RX4_17 rfl dX4_add_1 (fun o4 => (z_aload_n (pc := 4) dX4_add_4 rfl 0 rfl (z_getI (pc := 5) fl_RX4_29 rfl dX4_add_5 (z_iload_n (pc := 8) dX4_add_8 rfl 1 rfl (?_))))))
  refine z_nn (fun a5 ea5 => ?_)
  subst ea5
  refine z_iastorel (pc := 9) dX4_add_9 (fun h6 => (z_aload_n (pc := 10) dX4_add_10 rfl 0 rfl (z_getRl (pc := 11) fl_RX4_20 rfl dX4_add_11 (fun o7 => (z_aload_n (pc := 14) dX4_add_14 rfl 0 rfl (z_getI (pc := 15) fl_RX4_29 rfl dX4_add_15 (z_iload_n (pc := 18) dX4_add_18 rfl 2 rfl (?_))))))))
  refine z_nn (fun a8 ea8 => ?_)
  subst ea8
  refine z_iastorel (pc := 19) dX4_add_19 (fun h9 => (z_aload_n (pc := 20) dX4_add_20 rfl 0 rfl (z_getRl (pc := 21) fl_RX4_23 rfl dX4_add_21 (fun o10 => (z_aload_n (pc := 24) dX4_add_24 rfl 0 rfl (z_getI (pc := 25) fl_RX4_29 rfl dX4_add_25 (z_iload_n (pc := 28) dX4_add_28 rfl 3 rfl (?_))))))))
  refine z_nn (fun a11 ea11 => ?_)
  subst ea11
  refine z_iastorel (pc := 29) dX4_add_29 (fun h12 => (z_aload_n (pc := 30) dX4_add_30 rfl 0 rfl (z_dup (pc := 31) dX4_add_31 rfl (z_getI (pc := 32) fl_RX4_29 rfl dX4_add_32 (z_iconst (pc := 35) dX4_add_35 ic_1 (z_iadd (pc := 36) dX4_add_36 (z_putIl (pc := 37) fl_RX4_29 (fin_X_4_5 _) rfl dX4_add_37 (fun h13 => (?_)))))))))
  exact z_vret (pc := 40) dX4_add_40 rfl
theorem dX4_findPrinted_0 : decode cX4_findPrinted 0 = .ok (.iconst 0, 1) := by decide +kernel
theorem dX4_findPrinted_1 : decode cX4_findPrinted 1 = .ok (.istore_n 2, 1) := by decide +kernel
theorem dX4_findPrinted_2 : decode cX4_findPrinted 2 = .ok (.iload_n 2, 1) := by decide +kernel
theorem dX4_findPrinted_3 : decode cX4_findPrinted 3 = .ok (.bipush 10, 2) := by decide +kernel
theorem dX4_findPrinted_5 : decode cX4_findPrinted 5 = .ok (.if_icmp .ge 17, 3) := by decide +kernel
theorem dX4_findPrinted_8 : decode cX4_findPrinted 8 = .ok (.aload_n 0, 1) := by decide +kernel
theorem dX4_findPrinted_9 : decode cX4_findPrinted 9 = .ok (.getfield 26, 3) := by decide +kernel
theorem dX4_findPrinted_12 : decode cX4_findPrinted 12 = .ok (.iload_n 2, 1) := by decide +kernel
theorem dX4_findPrinted_13 : decode cX4_findPrinted 13 = .ok (.bipush 100, 2) := by decide +kernel
theorem dX4_findPrinted_15 : decode cX4_findPrinted 15 = .ok (.iastore, 1) := by decide +kernel
theorem dX4_findPrinted_16 : decode cX4_findPrinted 16 = .ok (.iinc 2 1, 3) := by decide +kernel
theorem dX4_findPrinted_19 : decode cX4_findPrinted 19 = .ok (.goto (-17), 3) := by decide +kernel
theorem dX4_findPrinted_22 : decode cX4_findPrinted 22 = .ok (.iconst 0, 1) := by decide +kernel
theorem dX4_findPrinted_23 : decode cX4_findPrinted 23 = .ok (.istore_n 2, 1) := by decide +kernel
theorem dX4_findPrinted_24 : decode cX4_findPrinted 24 = .ok (.iload_n 2, 1) := by decide +kernel
theorem dX4_findPrinted_25 : decode cX4_findPrinted 25 = .ok (.aload_n 0, 1) := by decide +kernel
theorem dX4_findPrinted_26 : decode cX4_findPrinted 26 = .ok (.getfield 29, 3) := by decide +kernel
theorem dX4_findPrinted_29 : decode cX4_findPrinted 29 = .ok (.if_icmp .ge 47, 3) := by decide +kernel
theorem dX4_findPrinted_32 : decode cX4_findPrinted 32 = .ok (.aload_n 0, 1) := by decide +kernel
theorem dX4_findPrinted_33 : decode cX4_findPrinted 33 = .ok (.getfield 20, 3) := by decide +kernel
theorem dX4_findPrinted_36 : decode cX4_findPrinted 36 = .ok (.iload_n 2, 1) := by decide +kernel
theorem dX4_findPrinted_37 : decode cX4_findPrinted 37 = .ok (.iaload, 1) := by decide +kernel
theorem dX4_findPrinted_38 : decode cX4_findPrinted 38 = .ok (.istore_n 3, 1) := by decide +kernel
theorem dX4_findPrinted_39 : decode cX4_findPrinted 39 = .ok (.aload_n 0, 1) := by decide +kernel
theorem dX4_findPrinted_40 : decode cX4_findPrinted 40 = .ok (.getfield 17, 3) := by decide +kernel
theorem dX4_findPrinted_43 : decode cX4_findPrinted 43 = .ok (.iload_n 2, 1) := by decide +kernel
theorem dX4_findPrinted_44 : decode cX4_findPrinted 44 = .ok (.iaload, 1) := by decide +kernel
theorem dX4_findPrinted_45 : decode cX4_findPrinted 45 = .ok (.iload_n 1, 1) := by decide +kernel
theorem dX4_findPrinted_46 : decode cX4_findPrinted 46 = .ok (.if_icmp .ne 24, 3) := by decide +kernel
theorem dX4_findPrinted_49 : decode cX4_findPrinted 49 = .ok (.aload_n 0, 1) := by decide +kernel
theorem dX4_findPrinted_50 : decode cX4_findPrinted 50 = .ok (.getfield 26, 3) := by decide +kernel
theorem dX4_findPrinted_53 : decode cX4_findPrinted 53 = .ok (.iload_n 3, 1) := by decide +kernel
theorem dX4_findPrinted_54 : decode cX4_findPrinted 54 = .ok (.aload_n 0, 1) := by decide +kernel
theorem dX4_findPrinted_55 : decode cX4_findPrinted 55 = .ok (.getfield 26, 3) := by decide +kernel
theorem dX4_findPrinted_58 : decode cX4_findPrinted 58 = .ok (.iload_n 3, 1) := by decide +kernel
theorem dX4_findPrinted_59 : decode cX4_findPrinted 59 = .ok (.iaload, 1) := by decide +kernel
theorem dX4_findPrinted_60 : decode cX4_findPrinted 60 = .ok (.aload_n 0, 1) := by decide +kernel
theorem dX4_findPrinted_61 : decode cX4_findPrinted 61 = .ok (.getfield 23, 3) := by decide +kernel
theorem dX4_findPrinted_64 : decode cX4_findPrinted 64 = .ok (.iload_n 2, 1) := by decide +kernel
theorem dX4_findPrinted_65 : decode cX4_findPrinted 65 = .ok (.iaload, 1) := by decide +kernel
theorem dX4_findPrinted_66 : decode cX4_findPrinted 66 = .ok (.invokestatic 48, 3) := by decide +kernel
theorem dX4_findPrinted_69 : decode cX4_findPrinted 69 = .ok (.iastore, 1) := by decide +kernel
theorem dX4_findPrinted_70 : decode cX4_findPrinted 70 = .ok (.iinc 2 1, 3) := by decide +kernel
theorem dX4_findPrinted_73 : decode cX4_findPrinted 73 = .ok (.goto (-49), 3) := by decide +kernel
theorem dX4_findPrinted_76 : decode cX4_findPrinted 76 = .ok (.return_, 1) := by decide +kernel
def c_X4_findPrinted_L2 (F : Nat) (a2 : Nat) (x3 : Int32) (k22 : z_Hp → Option (z_Hp)) : Nat → Int32 → z_Hp → Option (z_Hp)
  | 0, _, _ => none
  | n + 1, x4, h5 => (if 10 ≤ x4 then (k22 h5) else (if hT h5 a2 = 4 then (lt_ (hR h5 a2 4) (fun o7 => (nn o7 (fun a8 => (if okA h5 a8 20 x4 = true then (lt_ (sI h5 a8 (ix x4) 100) (fun h9 => (lt_ (x4 + 1) (fun x10 => (c_X4_findPrinted_L2 F a2 x3 k22 n x10 h9))))) else none))))) else none))
def c_X4_findPrinted_L24 (F : Nat) (a12 : Nat) (x13 : Int32) : Nat → Int32 → z_Hp → Option (z_Hp)
  | 0, _, _ => none
  | n + 1, x14, h15 => (if hT h15 a12 = 4 then (if (hI h15 a12 5) ≤ x14 then (some h15) else (if hT h15 a12 = 4 then (lt_ (hR h15 a12 2) (fun o16 => (nn o16 (fun a17 => (if okA h15 a17 20 x14 = true then (lt_ (hI h15 a17 (ix x14)) (fun x18 => (if hT h15 a12 = 4 then (lt_ (hR h15 a12 1) (fun o19 => (nn o19 (fun a20 => (if okA h15 a20 20 x14 = true then (lt_ (fun (h22 : z_Hp) => (lt_ (x14 + 1) (fun x23 => (c_X4_findPrinted_L24 F a12 x13 n x23 h22)))) (fun (j70_21 : z_Hp → Option (z_Hp)) => (if (hI h15 a20 (ix x14)) = x13 then (if hT h15 a12 = 4 then (lt_ (hR h15 a12 4) (fun o24 => (if hT h15 a12 = 4 then (lt_ (hR h15 a12 4) (fun o25 => (nn o25 (fun a26 => (if okA h15 a26 20 x18 = true then (if hT h15 a12 = 4 then (lt_ (hR h15 a12 3) (fun o27 => (nn o27 (fun a28 => (if okA h15 a28 20 x14 = true then (bI (c_J9_min_7cf53 F (hI h15 a26 (ix x18)) (hI h15 a28 (ix x14)) h15) (fun x30 h29 => (nn o24 (fun a31 => (if okA h29 a31 20 x18 = true then (lt_ (sI h29 a31 (ix x18) x30) (fun h32 => (j70_21 h32))) else none))))) else none))))) else none) else none))))) else none))) else none) else (j70_21 h15)))) else none))))) else none))) else none))))) else none)) else none)
def c_X4_findPrinted (F : Nat) (a0 : Nat) (x1 : Int32) (h0 : z_Hp) : Option (z_Hp) := (c_X4_findPrinted_L2 F a0 x1 (fun h11 => (c_X4_findPrinted_L24 F a0 x1 F 0 h11)) F 0 h0)
set_option maxRecDepth 20000 in
set_option maxHeartbeats 4000000 in
theorem g_X4_findPrinted_L2 (F : Nat) (a2 : Nat) (x3 : Int32) (k22 : z_Hp → Option (z_Hp)) (qk22 : ∀ (h6 : z_Hp), z_G zv mi_X4_findPrinted 22 [(0, vr (some a2)), (1, vi x3)] [] h6 (k22 h6)) : ∀ (n : Nat) (x4 : Int32) (h5 : z_Hp), z_G zv mi_X4_findPrinted 2 [(0, vr (some a2)), (1, vi x3), (2, vi x4)] [] h5 (c_X4_findPrinted_L2 F a2 x3 k22 n x4 h5) := by
  intro n
  induction n with
  | zero => intro x4 h5; rw [c_X4_findPrinted_L2]; exact z_none
  | succ n ih =>
    intro x4 h5
    rw [c_X4_findPrinted_L2]
    refine z_iload_n (pc := 2) dX4_findPrinted_2 rfl 2 rfl (z_bipush (pc := 3) dX4_findPrinted_3 bp_10 (?_))
    refine z_icmp_ge (pc := 5) (tgt := 22) dX4_findPrinted_5 (by decide) ?_ ?_
    · exact z_sub [0, 1] rfl (qk22 h5)
    · refine z_aload_n (pc := 8) dX4_findPrinted_8 rfl 0 rfl (z_getRl (pc := 9) fl_RX4_26 rfl dX4_findPrinted_9 (fun o7 => (z_iload_n (pc := 12) dX4_findPrinted_12 rfl 2 rfl (z_bipush (pc := 13) dX4_findPrinted_13 bp_100 (?_)))))
      refine z_nn (fun a8 ea8 => ?_)
      subst ea8
      refine z_iastorel (pc := 15) dX4_findPrinted_15 (fun h9 => (z_iincl (pc := 16) (L' := fun x10 => [(0, vr (some a2)), (1, vi x3), (2, vi x10)]) dX4_findPrinted_16 2 rfl ic_1 (Nat.le_of_ble_eq_true rfl) (fun _ => rfl) (fun x10 => (z_goto (pc := 19) (tgt := 2) dX4_findPrinted_19 (by decide) (?_)))))
      exact ih x10 h9
set_option maxRecDepth 20000 in
set_option maxHeartbeats 4000000 in
theorem g_X4_findPrinted_L24 (F : Nat) (a12 : Nat) (x13 : Int32) : ∀ (n : Nat) (x14 : Int32) (h15 : z_Hp), z_G zv mi_X4_findPrinted 24 [(0, vr (some a12)), (1, vi x13), (2, vi x14)] [] h15 (c_X4_findPrinted_L24 F a12 x13 n x14 h15) := by
  intro n
  induction n with
  | zero => intro x14 h15; rw [c_X4_findPrinted_L24]; exact z_none
  | succ n ih =>
    intro x14 h15
    rw [c_X4_findPrinted_L24]
    refine z_iload_n (pc := 24) dX4_findPrinted_24 rfl 2 rfl (z_aload_n (pc := 25) dX4_findPrinted_25 rfl 0 rfl (z_getI (pc := 26) fl_RX4_29 rfl dX4_findPrinted_26 (?_)))
    refine z_icmp_ge (pc := 29) (tgt := 76) dX4_findPrinted_29 (by decide) ?_ ?_
    · exact z_vret (pc := 76) dX4_findPrinted_76 rfl
    · refine z_aload_n (pc := 32) dX4_findPrinted_32 rfl 0 rfl (z_getRl (pc := 33) fl_RX4_20 rfl dX4_findPrinted_33 (fun o16 => (z_iload_n (pc := 36) dX4_findPrinted_36 rfl 2 rfl (?_))))
      refine z_nn (fun a17 ea17 => ?_)
      subst ea17
      refine z_iaload (pc := 37) dX4_findPrinted_37 (z_istorel_n (pc := 38) (L' := fun x18 => [(0, vr (some a12)), (1, vi x13), (2, vi x14), (3, vi x18)]) dX4_findPrinted_38 rfl (Nat.le_of_ble_eq_true rfl) (fun _ => rfl) (fun x18 => (z_aload_n (pc := 39) dX4_findPrinted_39 rfl 0 rfl (z_getRl (pc := 40) fl_RX4_17 rfl dX4_findPrinted_40 (fun o19 => (z_iload_n (pc := 43) dX4_findPrinted_43 rfl 2 rfl (?_)))))))
      refine z_nn (fun a20 ea20 => ?_)
      subst ea20
      refine z_iaload (pc := 44) dX4_findPrinted_44 (z_iload_n (pc := 45) dX4_findPrinted_45 rfl 1 rfl (?_))
      refine z_jn (P := fun (j : z_Hp → Option (z_Hp)) => ∀ (h22 : z_Hp), z_G zv mi_X4_findPrinted 70 [(0, vr (some a12)), (1, vi x13), (2, vi x14)] [] h22 (j h22)) (fun h22 => ?_) (fun j70_21 qj70_21 => ?_)
      · refine z_iincl (pc := 70) (L' := fun x23 => [(0, vr (some a12)), (1, vi x13), (2, vi x23)]) dX4_findPrinted_70 2 rfl ic_1 (Nat.le_of_ble_eq_true rfl) (fun _ => rfl) (fun x23 => (z_goto (pc := 73) (tgt := 24) dX4_findPrinted_73 (by decide) (?_)))
        exact ih x23 h22
      refine z_icmp_ne (pc := 46) (tgt := 70) dX4_findPrinted_46 (by decide) ?_ ?_
      · exact z_sub [0, 1, 2] rfl (qj70_21 h15)
      · refine z_aload_n (pc := 49) dX4_findPrinted_49 rfl 0 rfl (z_getRl (pc := 50) fl_RX4_26 rfl dX4_findPrinted_50 (fun o24 => (z_iload_n (pc := 53) dX4_findPrinted_53 rfl 3 rfl (z_aload_n (pc := 54) dX4_findPrinted_54 rfl 0 rfl (z_getRl (pc := 55) fl_RX4_26 rfl dX4_findPrinted_55 (fun o25 => (z_iload_n (pc := 58) dX4_findPrinted_58 rfl 3 rfl (?_))))))))
        refine z_nn (fun a26 ea26 => ?_)
        subst ea26
        refine z_iaload (pc := 59) dX4_findPrinted_59 (z_aload_n (pc := 60) dX4_findPrinted_60 rfl 0 rfl (z_getRl (pc := 61) fl_RX4_23 rfl dX4_findPrinted_61 (fun o27 => (z_iload_n (pc := 64) dX4_findPrinted_64 rfl 2 rfl (?_)))))
        refine z_nn (fun a28 ea28 => ?_)
        subst ea28
        refine z_iaload (pc := 65) dX4_findPrinted_65 (z_callS_I (pc := 66) (avs := [vi (hI h15 a26 (ix x18)), vi (hI h15 a28 (ix x14))]) (st := [vi x18, vr o24]) rfl (t_J9_min_7cf53 F (hI h15 a26 (ix x18)) (hI h15 a28 (ix x14)) h15) ky_J9_min_7cf53 ws_J9_min_7cf53 wz_RX4_48 (rm_X4_findPrinted_J9_min_7cf53) (Nat.le_of_ble_eq_true rfl) dX4_findPrinted_66 (fun x30 h29 => (?_)))
        refine z_nn (fun a31 ea31 => ?_)
        subst ea31
        refine z_iastorel (pc := 69) dX4_findPrinted_69 (fun h32 => (?_))
        exact z_sub [0, 1, 2] rfl (qj70_21 h32)
set_option maxRecDepth 20000 in
set_option maxHeartbeats 4000000 in
theorem t_X4_findPrinted (F : Nat) (a0 : Nat) (x1 : Int32) (h0 : z_Hp) : z_Ct zv mi_X4_findPrinted [vr (some a0), vi x1] h0 (c_X4_findPrinted F a0 x1 h0) := by
  refine z_entry (by decide) (Nat.le_of_ble_eq_true rfl) [(0, vr (some a0)), (1, vi x1)] rfl ?_
  unfold c_X4_findPrinted
  refine z_iconst (pc := 0) dX4_findPrinted_0 ic_0 (z_istore_n (pc := 1) (L' := [(0, vr (some a0)), (1, vi x1), (2, vi 0)]) dX4_findPrinted_1 rfl (Nat.le_of_ble_eq_true rfl) rfl (?_))
  refine g_X4_findPrinted_L2 F a0 x1 _ (fun h11 => ?_) F 0 h0
  refine z_iconst (pc := 22) dX4_findPrinted_22 ic_0 (z_istore_n (pc := 23) (L' := [(0, vr (some a0)), (1, vi x1), (2, vi 0)]) dX4_findPrinted_23 rfl (Nat.le_of_ble_eq_true rfl) rfl (?_))
  refine g_X4_findPrinted_L24 F a0 x1 F 0 h11
theorem dX4_placeOf_0 : decode cX4_placeOf 0 = .ok (.aload_n 0, 1) := by decide +kernel
theorem dX4_placeOf_1 : decode cX4_placeOf 1 = .ok (.getfield 11, 3) := by decide +kernel
theorem dX4_placeOf_4 : decode cX4_placeOf 4 = .ok (.iload_n 1, 1) := by decide +kernel
theorem dX4_placeOf_5 : decode cX4_placeOf 5 = .ok (.aaload, 1) := by decide +kernel
theorem dX4_placeOf_6 : decode cX4_placeOf 6 = .ok (.astore_n 3, 1) := by decide +kernel
theorem dX4_placeOf_7 : decode cX4_placeOf 7 = .ok (.aload_n 3, 1) := by decide +kernel
theorem dX4_placeOf_8 : decode cX4_placeOf 8 = .ok (.ifnull 8, 3) := by decide +kernel
theorem dX4_placeOf_11 : decode cX4_placeOf 11 = .ok (.aload_n 3, 1) := by decide +kernel
theorem dX4_placeOf_12 : decode cX4_placeOf 12 = .ok (.arraylength, 1) := by decide +kernel
theorem dX4_placeOf_13 : decode cX4_placeOf 13 = .ok (.ifCond .ne 6, 3) := by decide +kernel
theorem dX4_placeOf_16 : decode cX4_placeOf 16 = .ok (.bipush (-9), 2) := by decide +kernel
theorem dX4_placeOf_18 : decode cX4_placeOf 18 = .ok (.ireturn, 1) := by decide +kernel
theorem dX4_placeOf_19 : decode cX4_placeOf 19 = .ok (.aload_n 3, 1) := by decide +kernel
theorem dX4_placeOf_20 : decode cX4_placeOf 20 = .ok (.iload_n 2, 1) := by decide +kernel
theorem dX4_placeOf_21 : decode cX4_placeOf 21 = .ok (.aload_n 3, 1) := by decide +kernel
theorem dX4_placeOf_22 : decode cX4_placeOf 22 = .ok (.arraylength, 1) := by decide +kernel
theorem dX4_placeOf_23 : decode cX4_placeOf 23 = .ok (.iconst 1, 1) := by decide +kernel
theorem dX4_placeOf_24 : decode cX4_placeOf 24 = .ok (.isub, 1) := by decide +kernel
theorem dX4_placeOf_25 : decode cX4_placeOf 25 = .ok (.invokestatic 48, 3) := by decide +kernel
theorem dX4_placeOf_28 : decode cX4_placeOf 28 = .ok (.iaload, 1) := by decide +kernel
theorem dX4_placeOf_29 : decode cX4_placeOf 29 = .ok (.ireturn, 1) := by decide +kernel
def c_X4_placeOf (F : Nat) (a0 : Nat) (x1 : Int32) (x2 : Int32) (h0 : z_Hp) : Option (Int32 × z_Hp) := (if hT h0 a0 = 4 then (lt_ (hR h0 a0 0) (fun o3 => (nn o3 (fun a4 => (if okA h0 a4 23 x1 = true then (lt_ (hR h0 a4 (ix x1)) (fun o5 => (nl o5 (some ((-9), h0)) (fun a6 => (if okL h0 a6 = true then (if (nI (hN h0 a6)) = 0 then (some ((-9), h0)) else (if okL h0 a6 = true then (bI (c_J9_min_7cf53 F x2 ((nI (hN h0 a6)) - 1) h0) (fun x8 h7 => (if okA h7 a6 20 x8 = true then (some (hI h7 a6 (ix x8), h7)) else none))) else none)) else none))))) else none))))) else none)
set_option maxRecDepth 20000 in
set_option maxHeartbeats 4000000 in
theorem t_X4_placeOf (F : Nat) (a0 : Nat) (x1 : Int32) (x2 : Int32) (h0 : z_Hp) : z_Ct zi mi_X4_placeOf [vr (some a0), vi x1, vi x2] h0 (c_X4_placeOf F a0 x1 x2 h0) := by
  refine z_entry (by decide) (Nat.le_of_ble_eq_true rfl) [(0, vr (some a0)), (1, vi x1), (2, vi x2)] rfl ?_
  unfold c_X4_placeOf
  refine z_aload_n (pc := 0) dX4_placeOf_0 rfl 0 rfl (z_getRl (pc := 1) fl_RX4_11 rfl dX4_placeOf_1 (fun o3 => (z_iload_n (pc := 4) dX4_placeOf_4 rfl 1 rfl (?_))))
  refine z_nn (fun a4 ea4 => ?_)
  subst ea4
  refine z_aaloadl (pc := 5) 23 (by decide) dX4_placeOf_5 (fun o5 => (z_astore_n (pc := 6) (L' := [(0, vr (some a0)), (1, vi x1), (2, vi x2), (3, vr o5)]) dX4_placeOf_6 rfl (Nat.le_of_ble_eq_true rfl) rfl (z_aload_n (pc := 7) dX4_placeOf_7 rfl 3 rfl (?_))))
  refine z_ifnull (pc := 8) (tgt := 16) dX4_placeOf_8 (by decide) (fun ea6 => ?_) (fun a6 ea6 => ?_)
  · subst ea6
    refine z_bipush (pc := 16) dX4_placeOf_16 bp_m9 (?_)
    exact z_iret (pc := 18) dX4_placeOf_18 rfl rfl
  · subst ea6
    refine z_aload_n (pc := 11) dX4_placeOf_11 rfl 3 rfl (z_alen (pc := 12) dX4_placeOf_12 (?_))
    refine z_if_ne (pc := 13) (tgt := 19) dX4_placeOf_13 (by decide) ?_ ?_
    · refine z_aload_n (pc := 19) dX4_placeOf_19 rfl 3 rfl (z_iload_n (pc := 20) dX4_placeOf_20 rfl 2 rfl (z_aload_n (pc := 21) dX4_placeOf_21 rfl 3 rfl (z_alen (pc := 22) dX4_placeOf_22 (z_iconst (pc := 23) dX4_placeOf_23 ic_1 (z_isub (pc := 24) dX4_placeOf_24 (z_callS_I (pc := 25) (avs := [vi x2, vi ((nI (hN h0 a6)) - 1)]) (st := [vr (some a6)]) rfl (t_J9_min_7cf53 F x2 ((nI (hN h0 a6)) - 1) h0) ky_J9_min_7cf53 ws_J9_min_7cf53 wz_RX4_48 (rm_X4_placeOf_J9_min_7cf53) (Nat.le_of_ble_eq_true rfl) dX4_placeOf_25 (fun x8 h7 => (?_))))))))
      refine z_iaload (pc := 28) dX4_placeOf_28 (?_)
      exact z_iret (pc := 29) dX4_placeOf_29 rfl rfl
    · refine z_bipush (pc := 16) dX4_placeOf_16 bp_m9 (?_)
      exact z_iret (pc := 18) dX4_placeOf_18 rfl rfl
theorem dX4_placesWith_0 : decode cX4_placesWith 0 = .ok (.iconst 0, 1) := by decide +kernel
theorem dX4_placesWith_1 : decode cX4_placesWith 1 = .ok (.istore_n 3, 1) := by decide +kernel
theorem dX4_placesWith_2 : decode cX4_placesWith 2 = .ok (.iconst 0, 1) := by decide +kernel
theorem dX4_placesWith_3 : decode cX4_placesWith 3 = .ok (.istore 4, 2) := by decide +kernel
theorem dX4_placesWith_5 : decode cX4_placesWith 5 = .ok (.iload 4, 2) := by decide +kernel
theorem dX4_placesWith_7 : decode cX4_placesWith 7 = .ok (.iconst 4, 1) := by decide +kernel
theorem dX4_placesWith_8 : decode cX4_placesWith 8 = .ok (.if_icmp .ge 55, 3) := by decide +kernel
theorem dX4_placesWith_11 : decode cX4_placesWith 11 = .ok (.aload_n 0, 1) := by decide +kernel
theorem dX4_placesWith_12 : decode cX4_placesWith 12 = .ok (.iload 4, 2) := by decide +kernel
theorem dX4_placesWith_14 : decode cX4_placesWith 14 = .ok (.iload_n 2, 1) := by decide +kernel
theorem dX4_placesWith_15 : decode cX4_placesWith 15 = .ok (.invokevirtual 53, 3) := by decide +kernel
theorem dX4_placesWith_18 : decode cX4_placesWith 18 = .ok (.istore 5, 2) := by decide +kernel
theorem dX4_placesWith_20 : decode cX4_placesWith 20 = .ok (.iload 5, 2) := by decide +kernel
theorem dX4_placesWith_22 : decode cX4_placesWith 22 = .ok (.bipush (-9), 2) := by decide +kernel
theorem dX4_placesWith_24 : decode cX4_placesWith 24 = .ok (.if_icmp .ne 6, 3) := by decide +kernel
theorem dX4_placesWith_27 : decode cX4_placesWith 27 = .ok (.goto 30, 3) := by decide +kernel
theorem dX4_placesWith_30 : decode cX4_placesWith 30 = .ok (.iload_n 1, 1) := by decide +kernel
theorem dX4_placesWith_31 : decode cX4_placesWith 31 = .ok (.iload 4, 2) := by decide +kernel
theorem dX4_placesWith_33 : decode cX4_placesWith 33 = .ok (.invokestatic 44, 3) := by decide +kernel
theorem dX4_placesWith_36 : decode cX4_placesWith 36 = .ok (.ifCond .ne 14, 3) := by decide +kernel
theorem dX4_placesWith_39 : decode cX4_placesWith 39 = .ok (.aload_n 0, 1) := by decide +kernel
theorem dX4_placesWith_40 : decode cX4_placesWith 40 = .ok (.getfield 26, 3) := by decide +kernel
theorem dX4_placesWith_43 : decode cX4_placesWith 43 = .ok (.iload 5, 2) := by decide +kernel
theorem dX4_placesWith_45 : decode cX4_placesWith 45 = .ok (.iaload, 1) := by decide +kernel
theorem dX4_placesWith_46 : decode cX4_placesWith 46 = .ok (.iload_n 2, 1) := by decide +kernel
theorem dX4_placesWith_47 : decode cX4_placesWith 47 = .ok (.if_icmp .gt 10, 3) := by decide +kernel
theorem dX4_placesWith_50 : decode cX4_placesWith 50 = .ok (.iload_n 3, 1) := by decide +kernel
theorem dX4_placesWith_51 : decode cX4_placesWith 51 = .ok (.iconst 1, 1) := by decide +kernel
theorem dX4_placesWith_52 : decode cX4_placesWith 52 = .ok (.iload 5, 2) := by decide +kernel
theorem dX4_placesWith_54 : decode cX4_placesWith 54 = .ok (.ishl, 1) := by decide +kernel
theorem dX4_placesWith_55 : decode cX4_placesWith 55 = .ok (.ior, 1) := by decide +kernel
theorem dX4_placesWith_56 : decode cX4_placesWith 56 = .ok (.istore_n 3, 1) := by decide +kernel
theorem dX4_placesWith_57 : decode cX4_placesWith 57 = .ok (.iinc 4 1, 3) := by decide +kernel
theorem dX4_placesWith_60 : decode cX4_placesWith 60 = .ok (.goto (-55), 3) := by decide +kernel
theorem dX4_placesWith_63 : decode cX4_placesWith 63 = .ok (.iload_n 3, 1) := by decide +kernel
theorem dX4_placesWith_64 : decode cX4_placesWith 64 = .ok (.ireturn, 1) := by decide +kernel
def c_X4_placesWith_L5 (F : Nat) (a3 : Nat) (x4 : Int32) (x5 : Int32) : Nat → Int32 → Int32 → z_Hp → Option (Int32 × z_Hp)
  | 0, _, _, _ => none
  | n + 1, x6, x7, h8 => (if 4 ≤ x7 then (some (x6, h8)) else (if hT h8 a3 = 4 then (bI (c_X4_placeOf F a3 x7 x5 h8) (fun x10 h9 => (lt_ (fun (x12 : Int32) (h13 : z_Hp) => (lt_ (x7 + 1) (fun x14 => (c_X4_placesWith_L5 F a3 x4 x5 n x12 x14 h13)))) (fun (j57_11 : Int32 → z_Hp → Option (Int32 × z_Hp)) => (if x10 = (-9) then (j57_11 x6 h9) else (bI (c_X9_has F x4 x7 h9) (fun x16 h15 => (lt_ (fun (h18 : z_Hp) => (lt_ (x6 ||| (1 <<< (x10 &&& 31))) (fun x19 => (j57_11 x19 h18)))) (fun (j50_17 : z_Hp → Option (Int32 × z_Hp)) => (if x16 = 0 then (if hT h15 a3 = 4 then (lt_ (hR h15 a3 4) (fun o20 => (nn o20 (fun a21 => (if okA h15 a21 20 x10 = true then (if x5 < (hI h15 a21 (ix x10)) then (j57_11 x6 h15) else (j50_17 h15)) else none))))) else none) else (j50_17 h15))))))))))) else none))
def c_X4_placesWith (F : Nat) (a0 : Nat) (x1 : Int32) (x2 : Int32) (h0 : z_Hp) : Option (Int32 × z_Hp) := (c_X4_placesWith_L5 F a0 x1 x2 F 0 0 h0)
set_option maxRecDepth 20000 in
set_option maxHeartbeats 4000000 in
theorem g_X4_placesWith_L5 (F : Nat) (a3 : Nat) (x4 : Int32) (x5 : Int32) : ∀ (n : Nat) (x6 : Int32) (x7 : Int32) (h8 : z_Hp), z_G zi mi_X4_placesWith 5 [(0, vr (some a3)), (1, vi x4), (2, vi x5), (3, vi x6), (4, vi x7)] [] h8 (c_X4_placesWith_L5 F a3 x4 x5 n x6 x7 h8) := by
  intro n
  induction n with
  | zero => intro x6 x7 h8; rw [c_X4_placesWith_L5]; exact z_none
  | succ n ih =>
    intro x6 x7 h8
    rw [c_X4_placesWith_L5]
    refine z_iload (pc := 5) dX4_placesWith_5 4 rfl (z_iconst (pc := 7) dX4_placesWith_7 ic_4 (?_))
    refine z_icmp_ge (pc := 8) (tgt := 63) dX4_placesWith_8 (by decide) ?_ ?_
    · refine z_iload_n (pc := 63) dX4_placesWith_63 rfl 3 rfl (?_)
      exact z_iret (pc := 64) dX4_placesWith_64 rfl rfl
    · refine z_aload_n (pc := 11) dX4_placesWith_11 rfl 0 rfl (z_iload (pc := 12) dX4_placesWith_12 4 rfl (z_iload_n (pc := 14) dX4_placesWith_14 rfl 2 rfl (z_callV_I (pc := 15) (avs := [vi x7, vi x5]) (st := []) rfl (q := (RX4, TX4, 6)) rfl rfl (t_X4_placeOf F a3 x7 x5 h8) ky_X4_placeOf wm_X4_placeOf we_X4_placeOf wz_RX4_53 (rm_X4_placesWith_X4_placeOf) (Nat.le_of_ble_eq_true rfl) dX4_placesWith_15 (fun x10 h9 => (?_)))))
      refine z_istore (pc := 18) (L' := [(0, vr (some a3)), (1, vi x4), (2, vi x5), (3, vi x6), (4, vi x7), (5, vi x10)]) dX4_placesWith_18 (Nat.le_of_ble_eq_true rfl) rfl (z_iload (pc := 20) dX4_placesWith_20 5 rfl (z_bipush (pc := 22) dX4_placesWith_22 bp_m9 (?_)))
      refine z_jn (P := fun (j : Int32 → z_Hp → Option (Int32 × z_Hp)) => ∀ (x12 : Int32) (h13 : z_Hp), z_G zi mi_X4_placesWith 57 [(0, vr (some a3)), (1, vi x4), (2, vi x5), (3, vi x12), (4, vi x7)] [] h13 (j x12 h13)) (fun x12 h13 => ?_) (fun j57_11 qj57_11 => ?_)
      · refine z_iincl (pc := 57) (L' := fun x14 => [(0, vr (some a3)), (1, vi x4), (2, vi x5), (3, vi x12), (4, vi x14)]) dX4_placesWith_57 4 rfl ic_1 (Nat.le_of_ble_eq_true rfl) (fun _ => rfl) (fun x14 => (z_goto (pc := 60) (tgt := 5) dX4_placesWith_60 (by decide) (?_)))
        exact ih x12 x14 h13
      refine z_icmp_ne (pc := 24) (tgt := 30) dX4_placesWith_24 (by decide) ?_ ?_
      · refine z_iload_n (pc := 30) dX4_placesWith_30 rfl 1 rfl (z_iload (pc := 31) dX4_placesWith_31 4 rfl (z_callSN_I (pc := 33) (host := "BalladSheets") (avs := [vi x4, vi x7]) (st := []) rfl (t_X9_has F x4 x7 h9) ky_X9_has ws_X9_has (by decide +kernel) (rm_X4_placesWith_X9_has) (Nat.le_of_ble_eq_true rfl) dX4_placesWith_33 (fun x16 h15 => (?_))))
        refine z_jn (P := fun (j : z_Hp → Option (Int32 × z_Hp)) => ∀ (h18 : z_Hp), z_G zi mi_X4_placesWith 50 [(0, vr (some a3)), (1, vi x4), (2, vi x5), (3, vi x6), (4, vi x7), (5, vi x10)] [] h18 (j h18)) (fun h18 => ?_) (fun j50_17 qj50_17 => ?_)
        · refine z_iload_n (pc := 50) dX4_placesWith_50 rfl 3 rfl (z_iconst (pc := 51) dX4_placesWith_51 ic_1 (z_iload (pc := 52) dX4_placesWith_52 5 rfl (z_ishl (pc := 54) dX4_placesWith_54 (z_ior (pc := 55) dX4_placesWith_55 (z_istorel_n (pc := 56) (L' := fun x19 => [(0, vr (some a3)), (1, vi x4), (2, vi x5), (3, vi x19), (4, vi x7), (5, vi x10)]) dX4_placesWith_56 rfl (Nat.le_of_ble_eq_true rfl) (fun _ => rfl) (fun x19 => (?_)))))))
          exact z_sub [0, 1, 2, 3, 4] rfl (qj57_11 x19 h18)
        refine z_if_ne (pc := 36) (tgt := 50) dX4_placesWith_36 (by decide) ?_ ?_
        · exact qj50_17 h15
        · refine z_aload_n (pc := 39) dX4_placesWith_39 rfl 0 rfl (z_getRl (pc := 40) fl_RX4_26 rfl dX4_placesWith_40 (fun o20 => (z_iload (pc := 43) dX4_placesWith_43 5 rfl (?_))))
          refine z_nn (fun a21 ea21 => ?_)
          subst ea21
          refine z_iaload (pc := 45) dX4_placesWith_45 (z_iload_n (pc := 46) dX4_placesWith_46 rfl 2 rfl (?_))
          refine z_icmp_gt (pc := 47) (tgt := 57) dX4_placesWith_47 (by decide) ?_ ?_
          · exact z_sub [0, 1, 2, 3, 4] rfl (qj57_11 x6 h15)
          · exact qj50_17 h15
      · refine z_goto (pc := 27) (tgt := 57) dX4_placesWith_27 (by decide) (?_)
        exact z_sub [0, 1, 2, 3, 4] rfl (qj57_11 x6 h9)
set_option maxRecDepth 20000 in
set_option maxHeartbeats 4000000 in
theorem t_X4_placesWith (F : Nat) (a0 : Nat) (x1 : Int32) (x2 : Int32) (h0 : z_Hp) : z_Ct zi mi_X4_placesWith [vr (some a0), vi x1, vi x2] h0 (c_X4_placesWith F a0 x1 x2 h0) := by
  refine z_entry (by decide) (Nat.le_of_ble_eq_true rfl) [(0, vr (some a0)), (1, vi x1), (2, vi x2)] rfl ?_
  unfold c_X4_placesWith
  refine z_iconst (pc := 0) dX4_placesWith_0 ic_0 (z_istore_n (pc := 1) (L' := [(0, vr (some a0)), (1, vi x1), (2, vi x2), (3, vi 0)]) dX4_placesWith_1 rfl (Nat.le_of_ble_eq_true rfl) rfl (z_iconst (pc := 2) dX4_placesWith_2 ic_0 (z_istore (pc := 3) (L' := [(0, vr (some a0)), (1, vi x1), (2, vi x2), (3, vi 0), (4, vi 0)]) dX4_placesWith_3 (Nat.le_of_ble_eq_true rfl) rfl (?_))))
  refine g_X4_placesWith_L5 F a0 x1 x2 F 0 0 h0
theorem dX4_sellersAt_0 : decode cX4_sellersAt 0 = .ok (.iconst 0, 1) := by decide +kernel
theorem dX4_sellersAt_1 : decode cX4_sellersAt 1 = .ok (.istore_n 3, 1) := by decide +kernel
theorem dX4_sellersAt_2 : decode cX4_sellersAt 2 = .ok (.iconst 0, 1) := by decide +kernel
theorem dX4_sellersAt_3 : decode cX4_sellersAt 3 = .ok (.istore 4, 2) := by decide +kernel
theorem dX4_sellersAt_5 : decode cX4_sellersAt 5 = .ok (.iload 4, 2) := by decide +kernel
theorem dX4_sellersAt_7 : decode cX4_sellersAt 7 = .ok (.iconst 4, 1) := by decide +kernel
theorem dX4_sellersAt_8 : decode cX4_sellersAt 8 = .ok (.if_icmp .ge 41, 3) := by decide +kernel
theorem dX4_sellersAt_11 : decode cX4_sellersAt 11 = .ok (.aload_n 0, 1) := by decide +kernel
theorem dX4_sellersAt_12 : decode cX4_sellersAt 12 = .ok (.iload 4, 2) := by decide +kernel
theorem dX4_sellersAt_14 : decode cX4_sellersAt 14 = .ok (.iload_n 2, 1) := by decide +kernel
theorem dX4_sellersAt_15 : decode cX4_sellersAt 15 = .ok (.invokevirtual 53, 3) := by decide +kernel
theorem dX4_sellersAt_18 : decode cX4_sellersAt 18 = .ok (.istore 5, 2) := by decide +kernel
theorem dX4_sellersAt_20 : decode cX4_sellersAt 20 = .ok (.iload 5, 2) := by decide +kernel
theorem dX4_sellersAt_22 : decode cX4_sellersAt 22 = .ok (.bipush (-9), 2) := by decide +kernel
theorem dX4_sellersAt_24 : decode cX4_sellersAt 24 = .ok (.if_icmp .eq 19, 3) := by decide +kernel
theorem dX4_sellersAt_27 : decode cX4_sellersAt 27 = .ok (.iload_n 1, 1) := by decide +kernel
theorem dX4_sellersAt_28 : decode cX4_sellersAt 28 = .ok (.iload 5, 2) := by decide +kernel
theorem dX4_sellersAt_30 : decode cX4_sellersAt 30 = .ok (.invokestatic 44, 3) := by decide +kernel
theorem dX4_sellersAt_33 : decode cX4_sellersAt 33 = .ok (.ifCond .eq 10, 3) := by decide +kernel
theorem dX4_sellersAt_36 : decode cX4_sellersAt 36 = .ok (.iload_n 3, 1) := by decide +kernel
theorem dX4_sellersAt_37 : decode cX4_sellersAt 37 = .ok (.iconst 1, 1) := by decide +kernel
theorem dX4_sellersAt_38 : decode cX4_sellersAt 38 = .ok (.iload 4, 2) := by decide +kernel
theorem dX4_sellersAt_40 : decode cX4_sellersAt 40 = .ok (.ishl, 1) := by decide +kernel
theorem dX4_sellersAt_41 : decode cX4_sellersAt 41 = .ok (.ior, 1) := by decide +kernel
theorem dX4_sellersAt_42 : decode cX4_sellersAt 42 = .ok (.istore_n 3, 1) := by decide +kernel
theorem dX4_sellersAt_43 : decode cX4_sellersAt 43 = .ok (.iinc 4 1, 3) := by decide +kernel
theorem dX4_sellersAt_46 : decode cX4_sellersAt 46 = .ok (.goto (-41), 3) := by decide +kernel
theorem dX4_sellersAt_49 : decode cX4_sellersAt 49 = .ok (.iload_n 3, 1) := by decide +kernel
theorem dX4_sellersAt_50 : decode cX4_sellersAt 50 = .ok (.ireturn, 1) := by decide +kernel
def c_X4_sellersAt_L5 (F : Nat) (a3 : Nat) (x4 : Int32) (x5 : Int32) : Nat → Int32 → Int32 → z_Hp → Option (Int32 × z_Hp)
  | 0, _, _, _ => none
  | n + 1, x6, x7, h8 => (if 4 ≤ x7 then (some (x6, h8)) else (if hT h8 a3 = 4 then (bI (c_X4_placeOf F a3 x7 x5 h8) (fun x10 h9 => (lt_ (fun (x12 : Int32) (h13 : z_Hp) => (lt_ (x7 + 1) (fun x14 => (c_X4_sellersAt_L5 F a3 x4 x5 n x12 x14 h13)))) (fun (j43_11 : Int32 → z_Hp → Option (Int32 × z_Hp)) => (if x10 = (-9) then (j43_11 x6 h9) else (bI (c_X9_has F x4 x10 h9) (fun x16 h15 => (if x16 = 0 then (j43_11 x6 h15) else (lt_ (x6 ||| (1 <<< (x7 &&& 31))) (fun x17 => (j43_11 x17 h15))))))))))) else none))
def c_X4_sellersAt (F : Nat) (a0 : Nat) (x1 : Int32) (x2 : Int32) (h0 : z_Hp) : Option (Int32 × z_Hp) := (c_X4_sellersAt_L5 F a0 x1 x2 F 0 0 h0)
set_option maxRecDepth 20000 in
set_option maxHeartbeats 4000000 in
theorem g_X4_sellersAt_L5 (F : Nat) (a3 : Nat) (x4 : Int32) (x5 : Int32) : ∀ (n : Nat) (x6 : Int32) (x7 : Int32) (h8 : z_Hp), z_G zi mi_X4_sellersAt 5 [(0, vr (some a3)), (1, vi x4), (2, vi x5), (3, vi x6), (4, vi x7)] [] h8 (c_X4_sellersAt_L5 F a3 x4 x5 n x6 x7 h8) := by
  intro n
  induction n with
  | zero => intro x6 x7 h8; rw [c_X4_sellersAt_L5]; exact z_none
  | succ n ih =>
    intro x6 x7 h8
    rw [c_X4_sellersAt_L5]
    refine z_iload (pc := 5) dX4_sellersAt_5 4 rfl (z_iconst (pc := 7) dX4_sellersAt_7 ic_4 (?_))
    refine z_icmp_ge (pc := 8) (tgt := 49) dX4_sellersAt_8 (by decide) ?_ ?_
    · refine z_iload_n (pc := 49) dX4_sellersAt_49 rfl 3 rfl (?_)
      exact z_iret (pc := 50) dX4_sellersAt_50 rfl rfl
    · refine z_aload_n (pc := 11) dX4_sellersAt_11 rfl 0 rfl (z_iload (pc := 12) dX4_sellersAt_12 4 rfl (z_iload_n (pc := 14) dX4_sellersAt_14 rfl 2 rfl (z_callV_I (pc := 15) (avs := [vi x7, vi x5]) (st := []) rfl (q := (RX4, TX4, 6)) rfl rfl (t_X4_placeOf F a3 x7 x5 h8) ky_X4_placeOf wm_X4_placeOf we_X4_placeOf wz_RX4_53 (rm_X4_sellersAt_X4_placeOf) (Nat.le_of_ble_eq_true rfl) dX4_sellersAt_15 (fun x10 h9 => (?_)))))
      refine z_istore (pc := 18) (L' := [(0, vr (some a3)), (1, vi x4), (2, vi x5), (3, vi x6), (4, vi x7), (5, vi x10)]) dX4_sellersAt_18 (Nat.le_of_ble_eq_true rfl) rfl (z_iload (pc := 20) dX4_sellersAt_20 5 rfl (z_bipush (pc := 22) dX4_sellersAt_22 bp_m9 (?_)))
      refine z_jn (P := fun (j : Int32 → z_Hp → Option (Int32 × z_Hp)) => ∀ (x12 : Int32) (h13 : z_Hp), z_G zi mi_X4_sellersAt 43 [(0, vr (some a3)), (1, vi x4), (2, vi x5), (3, vi x12), (4, vi x7)] [] h13 (j x12 h13)) (fun x12 h13 => ?_) (fun j43_11 qj43_11 => ?_)
      · refine z_iincl (pc := 43) (L' := fun x14 => [(0, vr (some a3)), (1, vi x4), (2, vi x5), (3, vi x12), (4, vi x14)]) dX4_sellersAt_43 4 rfl ic_1 (Nat.le_of_ble_eq_true rfl) (fun _ => rfl) (fun x14 => (z_goto (pc := 46) (tgt := 5) dX4_sellersAt_46 (by decide) (?_)))
        exact ih x12 x14 h13
      refine z_icmp_eq (pc := 24) (tgt := 43) dX4_sellersAt_24 (by decide) ?_ ?_
      · exact z_sub [0, 1, 2, 3, 4] rfl (qj43_11 x6 h9)
      · refine z_iload_n (pc := 27) dX4_sellersAt_27 rfl 1 rfl (z_iload (pc := 28) dX4_sellersAt_28 5 rfl (z_callSN_I (pc := 30) (host := "BalladSheets") (avs := [vi x4, vi x10]) (st := []) rfl (t_X9_has F x4 x10 h9) ky_X9_has ws_X9_has (by decide +kernel) (rm_X4_sellersAt_X9_has) (Nat.le_of_ble_eq_true rfl) dX4_sellersAt_30 (fun x16 h15 => (?_))))
        refine z_if_eq (pc := 33) (tgt := 43) dX4_sellersAt_33 (by decide) ?_ ?_
        · exact z_sub [0, 1, 2, 3, 4] rfl (qj43_11 x6 h15)
        · refine z_iload_n (pc := 36) dX4_sellersAt_36 rfl 3 rfl (z_iconst (pc := 37) dX4_sellersAt_37 ic_1 (z_iload (pc := 38) dX4_sellersAt_38 4 rfl (z_ishl (pc := 40) dX4_sellersAt_40 (z_ior (pc := 41) dX4_sellersAt_41 (z_istorel_n (pc := 42) (L' := fun x17 => [(0, vr (some a3)), (1, vi x4), (2, vi x5), (3, vi x17), (4, vi x7), (5, vi x10)]) dX4_sellersAt_42 rfl (Nat.le_of_ble_eq_true rfl) (fun _ => rfl) (fun x17 => (?_)))))))
          exact z_sub [0, 1, 2, 3, 4] rfl (qj43_11 x17 h15)
set_option maxRecDepth 20000 in
set_option maxHeartbeats 4000000 in
theorem t_X4_sellersAt (F : Nat) (a0 : Nat) (x1 : Int32) (x2 : Int32) (h0 : z_Hp) : z_Ct zi mi_X4_sellersAt [vr (some a0), vi x1, vi x2] h0 (c_X4_sellersAt F a0 x1 x2 h0) := by
  refine z_entry (by decide) (Nat.le_of_ble_eq_true rfl) [(0, vr (some a0)), (1, vi x1), (2, vi x2)] rfl ?_
  unfold c_X4_sellersAt
  refine z_iconst (pc := 0) dX4_sellersAt_0 ic_0 (z_istore_n (pc := 1) (L' := [(0, vr (some a0)), (1, vi x1), (2, vi x2), (3, vi 0)]) dX4_sellersAt_1 rfl (Nat.le_of_ble_eq_true rfl) rfl (z_iconst (pc := 2) dX4_sellersAt_2 ic_0 (z_istore (pc := 3) (L' := [(0, vr (some a0)), (1, vi x1), (2, vi x2), (3, vi 0), (4, vi 0)]) dX4_sellersAt_3 (Nat.le_of_ble_eq_true rfl) rfl (?_))))
  refine g_X4_sellersAt_L5 F a0 x1 x2 F 0 0 h0
theorem dX4_havers_0 : decode cX4_havers 0 = .ok (.aload_n 0, 1) := by decide +kernel
theorem dX4_havers_1 : decode cX4_havers 1 = .ok (.iload_n 1, 1) := by decide +kernel
theorem dX4_havers_2 : decode cX4_havers 2 = .ok (.invokevirtual 33, 3) := by decide +kernel
theorem dX4_havers_5 : decode cX4_havers 5 = .ok (.iconst 0, 1) := by decide +kernel
theorem dX4_havers_6 : decode cX4_havers 6 = .ok (.istore_n 3, 1) := by decide +kernel
theorem dX4_havers_7 : decode cX4_havers 7 = .ok (.iconst 0, 1) := by decide +kernel
theorem dX4_havers_8 : decode cX4_havers 8 = .ok (.istore 4, 2) := by decide +kernel
theorem dX4_havers_10 : decode cX4_havers 10 = .ok (.iload 4, 2) := by decide +kernel
theorem dX4_havers_12 : decode cX4_havers 12 = .ok (.iload_n 2, 1) := by decide +kernel
theorem dX4_havers_13 : decode cX4_havers 13 = .ok (.if_icmp .gt 25, 3) := by decide +kernel
theorem dX4_havers_16 : decode cX4_havers 16 = .ok (.iload_n 3, 1) := by decide +kernel
theorem dX4_havers_17 : decode cX4_havers 17 = .ok (.aload_n 0, 1) := by decide +kernel
theorem dX4_havers_18 : decode cX4_havers 18 = .ok (.aload_n 0, 1) := by decide +kernel
theorem dX4_havers_19 : decode cX4_havers 19 = .ok (.iload_n 3, 1) := by decide +kernel
theorem dX4_havers_20 : decode cX4_havers 20 = .ok (.iload 4, 2) := by decide +kernel
theorem dX4_havers_22 : decode cX4_havers 22 = .ok (.invokevirtual 37, 3) := by decide +kernel
theorem dX4_havers_25 : decode cX4_havers 25 = .ok (.iload 4, 2) := by decide +kernel
theorem dX4_havers_27 : decode cX4_havers 27 = .ok (.invokevirtual 41, 3) := by decide +kernel
theorem dX4_havers_30 : decode cX4_havers 30 = .ok (.ior, 1) := by decide +kernel
theorem dX4_havers_31 : decode cX4_havers 31 = .ok (.istore_n 3, 1) := by decide +kernel
theorem dX4_havers_32 : decode cX4_havers 32 = .ok (.iinc 4 1, 3) := by decide +kernel
theorem dX4_havers_35 : decode cX4_havers 35 = .ok (.goto (-25), 3) := by decide +kernel
theorem dX4_havers_38 : decode cX4_havers 38 = .ok (.iload_n 3, 1) := by decide +kernel
theorem dX4_havers_39 : decode cX4_havers 39 = .ok (.ireturn, 1) := by decide +kernel
def c_X4_havers_L10 (F : Nat) (a4 : Nat) (x5 : Int32) : Nat → Int32 → Int32 → z_Hp → Option (Int32 × z_Hp)
  | 0, _, _, _ => none
  | n + 1, x6, x7, h8 => (if x5 < x7 then (some (x6, h8)) else (if hT h8 a4 = 4 then (bI (c_X4_placesWith F a4 x6 x7 h8) (fun x10 h9 => (if hT h9 a4 = 4 then (bI (c_X4_sellersAt F a4 x10 x7 h9) (fun x12 h11 => (lt_ (x6 ||| x12) (fun x13 => (lt_ (x7 + 1) (fun x14 => (c_X4_havers_L10 F a4 x5 n x13 x14 h11))))))) else none))) else none))
def c_X4_havers (F : Nat) (a0 : Nat) (x1 : Int32) (x2 : Int32) (h0 : z_Hp) : Option (Int32 × z_Hp) := (if hT h0 a0 = 4 then (bV (c_X4_findPrinted F a0 x1 h0) (fun h3 => (c_X4_havers_L10 F a0 x2 F 0 0 h3))) else none)
set_option maxRecDepth 20000 in
set_option maxHeartbeats 4000000 in
theorem g_X4_havers_L10 (F : Nat) (a4 : Nat) (x5 : Int32) : ∀ (n : Nat) (x6 : Int32) (x7 : Int32) (h8 : z_Hp), z_G zi mi_X4_havers 10 [(0, vr (some a4)), (2, vi x5), (3, vi x6), (4, vi x7)] [] h8 (c_X4_havers_L10 F a4 x5 n x6 x7 h8) := by
  intro n
  induction n with
  | zero => intro x6 x7 h8; rw [c_X4_havers_L10]; exact z_none
  | succ n ih =>
    intro x6 x7 h8
    rw [c_X4_havers_L10]
    refine z_iload (pc := 10) dX4_havers_10 3 rfl (z_iload_n (pc := 12) dX4_havers_12 rfl 1 rfl (?_))
    refine z_icmp_gt (pc := 13) (tgt := 38) dX4_havers_13 (by decide) ?_ ?_
    · refine z_iload_n (pc := 38) dX4_havers_38 rfl 2 rfl (?_)
      exact z_iret (pc := 39) dX4_havers_39 rfl rfl
    · refine z_iload_n (pc := 16) dX4_havers_16 rfl 2 rfl (z_aload_n (pc := 17) dX4_havers_17 rfl 0 rfl (z_aload_n (pc := 18) dX4_havers_18 rfl 0 rfl (z_iload_n (pc := 19) dX4_havers_19 rfl 2 rfl (z_iload (pc := 20) dX4_havers_20 3 rfl (z_callV_I (pc := 22) (avs := [vi x6, vi x7]) (st := [vr (some a4), vi x6]) rfl (q := (RX4, TX4, 6)) rfl rfl (t_X4_placesWith F a4 x6 x7 h8) ky_X4_placesWith wm_X4_placesWith we_X4_placesWith wz_RX4_37 (rm_X4_havers_X4_placesWith) (Nat.le_of_ble_eq_true rfl) dX4_havers_22 (fun x10 h9 => (?_)))))))
      refine z_iload (pc := 25) dX4_havers_25 3 rfl (z_callV_I (pc := 27) (avs := [vi x10, vi x7]) (st := [vi x6]) rfl (q := (RX4, TX4, 6)) rfl rfl (t_X4_sellersAt F a4 x10 x7 h9) ky_X4_sellersAt wm_X4_sellersAt we_X4_sellersAt wz_RX4_41 (rm_X4_havers_X4_sellersAt) (Nat.le_of_ble_eq_true rfl) dX4_havers_27 (fun x12 h11 => (?_)))
      refine z_ior (pc := 30) dX4_havers_30 (z_istorel_n (pc := 31) (L' := fun x13 => [(0, vr (some a4)), (2, vi x5), (3, vi x13), (4, vi x7)]) dX4_havers_31 rfl (Nat.le_of_ble_eq_true rfl) (fun _ => rfl) (fun x13 => (z_iincl (pc := 32) (L' := fun x14 => [(0, vr (some a4)), (2, vi x5), (3, vi x13), (4, vi x14)]) dX4_havers_32 3 rfl ic_1 (Nat.le_of_ble_eq_true rfl) (fun _ => rfl) (fun x14 => (z_goto (pc := 35) (tgt := 10) dX4_havers_35 (by decide) (?_))))))
      exact ih x13 x14 h11
set_option maxRecDepth 20000 in
set_option maxHeartbeats 4000000 in
theorem t_X4_havers (F : Nat) (a0 : Nat) (x1 : Int32) (x2 : Int32) (h0 : z_Hp) : z_Ct zi mi_X4_havers [vr (some a0), vi x1, vi x2] h0 (c_X4_havers F a0 x1 x2 h0) := by
  refine z_entry (by decide) (Nat.le_of_ble_eq_true rfl) [(0, vr (some a0)), (1, vi x1), (2, vi x2)] rfl ?_
  unfold c_X4_havers
  refine z_aload_n (pc := 0) dX4_havers_0 rfl 0 rfl (z_iload_n (pc := 1) dX4_havers_1 rfl 1 rfl (z_callV_V (pc := 2) (avs := [vi x1]) (st := []) rfl (q := (RX4, TX4, 6)) rfl rfl (t_X4_findPrinted F a0 x1 h0) ky_X4_findPrinted wm_X4_findPrinted we_X4_findPrinted wz_RX4_33 (rm_X4_havers_X4_findPrinted) (Nat.le_of_ble_eq_true rfl) dX4_havers_2 (fun h3 => (?_))))
  refine z_iconst (pc := 5) dX4_havers_5 ic_0 (z_istore_n (pc := 6) (L' := [(0, vr (some a0)), (1, vi x1), (2, vi x2), (3, vi 0)]) dX4_havers_6 rfl (Nat.le_of_ble_eq_true rfl) rfl (z_iconst (pc := 7) dX4_havers_7 ic_0 (z_istore (pc := 8) (L' := [(0, vr (some a0)), (1, vi x1), (2, vi x2), (3, vi 0), (4, vi 0)]) dX4_havers_8 (Nat.le_of_ble_eq_true rfl) rfl (?_))))
  refine z_sub [0, 2, 3, 4] rfl (g_X4_havers_L10 F a0 x2 F 0 0 h3)
theorem dX4_firstDayAt_0 : decode cX4_firstDayAt 0 = .ok (.aload_n 0, 1) := by decide +kernel
theorem dX4_firstDayAt_1 : decode cX4_firstDayAt 1 = .ok (.iload_n 1, 1) := by decide +kernel
theorem dX4_firstDayAt_2 : decode cX4_firstDayAt 2 = .ok (.invokevirtual 33, 3) := by decide +kernel
theorem dX4_firstDayAt_5 : decode cX4_firstDayAt 5 = .ok (.iconst 0, 1) := by decide +kernel
theorem dX4_firstDayAt_6 : decode cX4_firstDayAt 6 = .ok (.istore_n 3, 1) := by decide +kernel
theorem dX4_firstDayAt_7 : decode cX4_firstDayAt 7 = .ok (.iconst 0, 1) := by decide +kernel
theorem dX4_firstDayAt_8 : decode cX4_firstDayAt 8 = .ok (.istore 4, 2) := by decide +kernel
theorem dX4_firstDayAt_10 : decode cX4_firstDayAt 10 = .ok (.iload 4, 2) := by decide +kernel
theorem dX4_firstDayAt_12 : decode cX4_firstDayAt 12 = .ok (.bipush 99, 2) := by decide +kernel
theorem dX4_firstDayAt_14 : decode cX4_firstDayAt 14 = .ok (.if_icmp .gt 41, 3) := by decide +kernel
theorem dX4_firstDayAt_17 : decode cX4_firstDayAt 17 = .ok (.aload_n 0, 1) := by decide +kernel
theorem dX4_firstDayAt_18 : decode cX4_firstDayAt 18 = .ok (.iload_n 3, 1) := by decide +kernel
theorem dX4_firstDayAt_19 : decode cX4_firstDayAt 19 = .ok (.iload 4, 2) := by decide +kernel
theorem dX4_firstDayAt_21 : decode cX4_firstDayAt 21 = .ok (.invokevirtual 37, 3) := by decide +kernel
theorem dX4_firstDayAt_24 : decode cX4_firstDayAt 24 = .ok (.istore 5, 2) := by decide +kernel
theorem dX4_firstDayAt_26 : decode cX4_firstDayAt 26 = .ok (.iload 5, 2) := by decide +kernel
theorem dX4_firstDayAt_28 : decode cX4_firstDayAt 28 = .ok (.iload_n 2, 1) := by decide +kernel
theorem dX4_firstDayAt_29 : decode cX4_firstDayAt 29 = .ok (.invokestatic 44, 3) := by decide +kernel
theorem dX4_firstDayAt_32 : decode cX4_firstDayAt 32 = .ok (.ifCond .eq 6, 3) := by decide +kernel
theorem dX4_firstDayAt_35 : decode cX4_firstDayAt 35 = .ok (.iload 4, 2) := by decide +kernel
theorem dX4_firstDayAt_37 : decode cX4_firstDayAt 37 = .ok (.ireturn, 1) := by decide +kernel
theorem dX4_firstDayAt_38 : decode cX4_firstDayAt 38 = .ok (.iload_n 3, 1) := by decide +kernel
theorem dX4_firstDayAt_39 : decode cX4_firstDayAt 39 = .ok (.aload_n 0, 1) := by decide +kernel
theorem dX4_firstDayAt_40 : decode cX4_firstDayAt 40 = .ok (.iload 5, 2) := by decide +kernel
theorem dX4_firstDayAt_42 : decode cX4_firstDayAt 42 = .ok (.iload 4, 2) := by decide +kernel
theorem dX4_firstDayAt_44 : decode cX4_firstDayAt 44 = .ok (.invokevirtual 41, 3) := by decide +kernel
theorem dX4_firstDayAt_47 : decode cX4_firstDayAt 47 = .ok (.ior, 1) := by decide +kernel
theorem dX4_firstDayAt_48 : decode cX4_firstDayAt 48 = .ok (.istore_n 3, 1) := by decide +kernel
theorem dX4_firstDayAt_49 : decode cX4_firstDayAt 49 = .ok (.iinc 4 1, 3) := by decide +kernel
theorem dX4_firstDayAt_52 : decode cX4_firstDayAt 52 = .ok (.goto (-42), 3) := by decide +kernel
theorem dX4_firstDayAt_55 : decode cX4_firstDayAt 55 = .ok (.bipush (-9), 2) := by decide +kernel
theorem dX4_firstDayAt_57 : decode cX4_firstDayAt 57 = .ok (.ireturn, 1) := by decide +kernel
def c_X4_firstDayAt_L10 (F : Nat) (a4 : Nat) (x5 : Int32) : Nat → Int32 → Int32 → z_Hp → Option (Int32 × z_Hp)
  | 0, _, _, _ => none
  | n + 1, x6, x7, h8 => (if 99 < x7 then (some ((-9), h8)) else (if hT h8 a4 = 4 then (bI (c_X4_placesWith F a4 x6 x7 h8) (fun x10 h9 => (bI (c_X9_has F x10 x5 h9) (fun x12 h11 => (if x12 = 0 then (if hT h11 a4 = 4 then (bI (c_X4_sellersAt F a4 x10 x7 h11) (fun x14 h13 => (lt_ (x6 ||| x14) (fun x15 => (lt_ (x7 + 1) (fun x16 => (c_X4_firstDayAt_L10 F a4 x5 n x15 x16 h13))))))) else none) else (some (x7, h11))))))) else none))
def c_X4_firstDayAt (F : Nat) (a0 : Nat) (x1 : Int32) (x2 : Int32) (h0 : z_Hp) : Option (Int32 × z_Hp) := (if hT h0 a0 = 4 then (bV (c_X4_findPrinted F a0 x1 h0) (fun h3 => (c_X4_firstDayAt_L10 F a0 x2 F 0 0 h3))) else none)
set_option maxRecDepth 20000 in
set_option maxHeartbeats 4000000 in
theorem g_X4_firstDayAt_L10 (F : Nat) (a4 : Nat) (x5 : Int32) : ∀ (n : Nat) (x6 : Int32) (x7 : Int32) (h8 : z_Hp), z_G zi mi_X4_firstDayAt 10 [(0, vr (some a4)), (2, vi x5), (3, vi x6), (4, vi x7)] [] h8 (c_X4_firstDayAt_L10 F a4 x5 n x6 x7 h8) := by
  intro n
  induction n with
  | zero => intro x6 x7 h8; rw [c_X4_firstDayAt_L10]; exact z_none
  | succ n ih =>
    intro x6 x7 h8
    rw [c_X4_firstDayAt_L10]
    refine z_iload (pc := 10) dX4_firstDayAt_10 3 rfl (z_bipush (pc := 12) dX4_firstDayAt_12 bp_99 (?_))
    refine z_icmp_gt (pc := 14) (tgt := 55) dX4_firstDayAt_14 (by decide) ?_ ?_
    · refine z_bipush (pc := 55) dX4_firstDayAt_55 bp_m9 (?_)
      exact z_iret (pc := 57) dX4_firstDayAt_57 rfl rfl
    · refine z_aload_n (pc := 17) dX4_firstDayAt_17 rfl 0 rfl (z_iload_n (pc := 18) dX4_firstDayAt_18 rfl 2 rfl (z_iload (pc := 19) dX4_firstDayAt_19 3 rfl (z_callV_I (pc := 21) (avs := [vi x6, vi x7]) (st := []) rfl (q := (RX4, TX4, 6)) rfl rfl (t_X4_placesWith F a4 x6 x7 h8) ky_X4_placesWith wm_X4_placesWith we_X4_placesWith wz_RX4_37 (rm_X4_firstDayAt_X4_placesWith) (Nat.le_of_ble_eq_true rfl) dX4_firstDayAt_21 (fun x10 h9 => (?_)))))
      refine z_istore (pc := 24) (L' := [(0, vr (some a4)), (2, vi x5), (3, vi x6), (4, vi x7), (5, vi x10)]) dX4_firstDayAt_24 (Nat.le_of_ble_eq_true rfl) rfl (z_iload (pc := 26) dX4_firstDayAt_26 4 rfl (z_iload_n (pc := 28) dX4_firstDayAt_28 rfl 1 rfl (z_callSN_I (pc := 29) (host := "BalladSheets") (avs := [vi x10, vi x5]) (st := []) rfl (t_X9_has F x10 x5 h9) ky_X9_has ws_X9_has (by decide +kernel) (rm_X4_firstDayAt_X9_has) (Nat.le_of_ble_eq_true rfl) dX4_firstDayAt_29 (fun x12 h11 => (?_)))))
      refine z_if_eq (pc := 32) (tgt := 38) dX4_firstDayAt_32 (by decide) ?_ ?_
      · refine z_iload_n (pc := 38) dX4_firstDayAt_38 rfl 2 rfl (z_aload_n (pc := 39) dX4_firstDayAt_39 rfl 0 rfl (z_iload (pc := 40) dX4_firstDayAt_40 4 rfl (z_iload (pc := 42) dX4_firstDayAt_42 3 rfl (z_callV_I (pc := 44) (avs := [vi x10, vi x7]) (st := [vi x6]) rfl (q := (RX4, TX4, 6)) rfl rfl (t_X4_sellersAt F a4 x10 x7 h11) ky_X4_sellersAt wm_X4_sellersAt we_X4_sellersAt wz_RX4_41 (rm_X4_firstDayAt_X4_sellersAt) (Nat.le_of_ble_eq_true rfl) dX4_firstDayAt_44 (fun x14 h13 => (?_))))))
        refine z_ior (pc := 47) dX4_firstDayAt_47 (z_istorel_n (pc := 48) (L' := fun x15 => [(0, vr (some a4)), (2, vi x5), (3, vi x15), (4, vi x7), (5, vi x10)]) dX4_firstDayAt_48 rfl (Nat.le_of_ble_eq_true rfl) (fun _ => rfl) (fun x15 => (z_iincl (pc := 49) (L' := fun x16 => [(0, vr (some a4)), (2, vi x5), (3, vi x15), (4, vi x16), (5, vi x10)]) dX4_firstDayAt_49 3 rfl ic_1 (Nat.le_of_ble_eq_true rfl) (fun _ => rfl) (fun x16 => (z_goto (pc := 52) (tgt := 10) dX4_firstDayAt_52 (by decide) (?_))))))
        exact z_sub [0, 1, 2, 3] rfl (ih x15 x16 h13)
      · refine z_iload (pc := 35) dX4_firstDayAt_35 3 rfl (?_)
        exact z_iret (pc := 37) dX4_firstDayAt_37 rfl rfl
set_option maxRecDepth 20000 in
set_option maxHeartbeats 4000000 in
theorem t_X4_firstDayAt (F : Nat) (a0 : Nat) (x1 : Int32) (x2 : Int32) (h0 : z_Hp) : z_Ct zi mi_X4_firstDayAt [vr (some a0), vi x1, vi x2] h0 (c_X4_firstDayAt F a0 x1 x2 h0) := by
  refine z_entry (by decide) (Nat.le_of_ble_eq_true rfl) [(0, vr (some a0)), (1, vi x1), (2, vi x2)] rfl ?_
  unfold c_X4_firstDayAt
  refine z_aload_n (pc := 0) dX4_firstDayAt_0 rfl 0 rfl (z_iload_n (pc := 1) dX4_firstDayAt_1 rfl 1 rfl (z_callV_V (pc := 2) (avs := [vi x1]) (st := []) rfl (q := (RX4, TX4, 6)) rfl rfl (t_X4_findPrinted F a0 x1 h0) ky_X4_findPrinted wm_X4_findPrinted we_X4_findPrinted wz_RX4_33 (rm_X4_firstDayAt_X4_findPrinted) (Nat.le_of_ble_eq_true rfl) dX4_firstDayAt_2 (fun h3 => (?_))))
  refine z_iconst (pc := 5) dX4_firstDayAt_5 ic_0 (z_istore_n (pc := 6) (L' := [(0, vr (some a0)), (1, vi x1), (2, vi x2), (3, vi 0)]) dX4_firstDayAt_6 rfl (Nat.le_of_ble_eq_true rfl) rfl (z_iconst (pc := 7) dX4_firstDayAt_7 ic_0 (z_istore (pc := 8) (L' := [(0, vr (some a0)), (1, vi x1), (2, vi x2), (3, vi 0), (4, vi 0)]) dX4_firstDayAt_8 (Nat.le_of_ble_eq_true rfl) rfl (?_))))
  refine z_sub [0, 2, 3, 4] rfl (g_X4_firstDayAt_L10 F a0 x2 F 0 0 h3)
theorem dX9_mixRow_0 : decode cX9_mixRow 0 = .ok (.aload_n 2, 1) := by decide +kernel
theorem dX9_mixRow_1 : decode cX9_mixRow 1 = .ok (.ifnonnull 9, 3) := by decide +kernel
theorem dX9_mixRow_4 : decode cX9_mixRow 4 = .ok (.lload_n 0, 1) := by decide +kernel
theorem dX9_mixRow_5 : decode cX9_mixRow 5 = .ok (.iconst (-1), 1) := by decide +kernel
theorem dX9_mixRow_6 : decode cX9_mixRow 6 = .ok (.invokestatic 419, 3) := by decide +kernel
theorem dX9_mixRow_9 : decode cX9_mixRow 9 = .ok (.lreturn, 1) := by decide +kernel
theorem dX9_mixRow_10 : decode cX9_mixRow 10 = .ok (.lload_n 0, 1) := by decide +kernel
theorem dX9_mixRow_11 : decode cX9_mixRow 11 = .ok (.aload_n 2, 1) := by decide +kernel
theorem dX9_mixRow_12 : decode cX9_mixRow 12 = .ok (.arraylength, 1) := by decide +kernel
theorem dX9_mixRow_13 : decode cX9_mixRow 13 = .ok (.invokestatic 419, 3) := by decide +kernel
theorem dX9_mixRow_16 : decode cX9_mixRow 16 = .ok (.lstore_n 3, 1) := by decide +kernel
theorem dX9_mixRow_17 : decode cX9_mixRow 17 = .ok (.iconst 0, 1) := by decide +kernel
theorem dX9_mixRow_18 : decode cX9_mixRow 18 = .ok (.istore 5, 2) := by decide +kernel
theorem dX9_mixRow_20 : decode cX9_mixRow 20 = .ok (.iload 5, 2) := by decide +kernel
theorem dX9_mixRow_22 : decode cX9_mixRow 22 = .ok (.aload_n 2, 1) := by decide +kernel
theorem dX9_mixRow_23 : decode cX9_mixRow 23 = .ok (.arraylength, 1) := by decide +kernel
theorem dX9_mixRow_24 : decode cX9_mixRow 24 = .ok (.if_icmp .ge 18, 3) := by decide +kernel
theorem dX9_mixRow_27 : decode cX9_mixRow 27 = .ok (.lload_n 3, 1) := by decide +kernel
theorem dX9_mixRow_28 : decode cX9_mixRow 28 = .ok (.aload_n 2, 1) := by decide +kernel
theorem dX9_mixRow_29 : decode cX9_mixRow 29 = .ok (.iload 5, 2) := by decide +kernel
theorem dX9_mixRow_31 : decode cX9_mixRow 31 = .ok (.iaload, 1) := by decide +kernel
theorem dX9_mixRow_32 : decode cX9_mixRow 32 = .ok (.invokestatic 419, 3) := by decide +kernel
theorem dX9_mixRow_35 : decode cX9_mixRow 35 = .ok (.lstore_n 3, 1) := by decide +kernel
theorem dX9_mixRow_36 : decode cX9_mixRow 36 = .ok (.iinc 5 1, 3) := by decide +kernel
theorem dX9_mixRow_39 : decode cX9_mixRow 39 = .ok (.goto (-19), 3) := by decide +kernel
theorem dX9_mixRow_42 : decode cX9_mixRow 42 = .ok (.lload_n 3, 1) := by decide +kernel
theorem dX9_mixRow_43 : decode cX9_mixRow 43 = .ok (.lreturn, 1) := by decide +kernel
def c_X9_mixRow_L20 (F : Nat) (a8 : Nat) : Nat → Int64 → Int32 → z_Hp → Option (Int64 × z_Hp)
  | 0, _, _, _ => none
  | n + 1, y9, x10, h11 => (if okL h11 a8 = true then (if (nI (hN h11 a8)) ≤ x10 then (some (y9, h11)) else (if okA h11 a8 20 x10 = true then (bL (c_X9_mix F y9 (hI h11 a8 (ix x10)) h11) (fun y13 h12 => (lt_ (x10 + 1) (fun x14 => (c_X9_mixRow_L20 F a8 n y13 x14 h12))))) else none)) else none)
def c_X9_mixRow (F : Nat) (y1 : Int64) (o2 : Option Nat) (h0 : z_Hp) : Option (Int64 × z_Hp) := (nl o2 (bL (c_X9_mix F y1 (-1) h0) (fun y5 h4 => (some (y5, h4)))) (fun a3 => (if okL h0 a3 = true then (bL (c_X9_mix F y1 (nI (hN h0 a3)) h0) (fun y7 h6 => (c_X9_mixRow_L20 F a3 F y7 0 h6))) else none)))
set_option maxRecDepth 20000 in
set_option maxHeartbeats 4000000 in
theorem g_X9_mixRow_L20 (F : Nat) (a8 : Nat) : ∀ (n : Nat) (y9 : Int64) (x10 : Int32) (h11 : z_Hp), z_G zl mi_X9_mixRow 20 [(2, vr (some a8)), (3, vl y9), (5, vi x10)] [] h11 (c_X9_mixRow_L20 F a8 n y9 x10 h11) := by
  intro n
  induction n with
  | zero => intro y9 x10 h11; rw [c_X9_mixRow_L20]; exact z_none
  | succ n ih =>
    intro y9 x10 h11
    rw [c_X9_mixRow_L20]
    refine z_iload (pc := 20) dX9_mixRow_20 2 rfl (z_aload_n (pc := 22) dX9_mixRow_22 rfl 0 rfl (z_alen (pc := 23) dX9_mixRow_23 (?_)))
    refine z_icmp_ge (pc := 24) (tgt := 42) dX9_mixRow_24 (by decide) ?_ ?_
    · refine z_lload_n (pc := 42) dX9_mixRow_42 rfl 1 rfl (?_)
      exact z_lret (pc := 43) dX9_mixRow_43 rfl
    · refine z_lload_n (pc := 27) dX9_mixRow_27 rfl 1 rfl (z_aload_n (pc := 28) dX9_mixRow_28 rfl 0 rfl (z_iload (pc := 29) dX9_mixRow_29 2 rfl (z_iaload (pc := 31) dX9_mixRow_31 (z_callS_L (pc := 32) (avs := [vl y9, vi (hI h11 a8 (ix x10))]) (st := []) rfl (t_X9_mix F y9 (hI h11 a8 (ix x10)) h11) ky_X9_mix ws_X9_mix wz_RX9_419 (rm_X9_mixRow_X9_mix) (Nat.le_of_ble_eq_true rfl) dX9_mixRow_32 (fun y13 h12 => (?_))))))
      refine z_lstore_n (pc := 35) (L' := [(2, vr (some a8)), (3, vl y13), (5, vi x10)]) dX9_mixRow_35 rfl (Nat.le_of_ble_eq_true rfl) rfl (z_iincl (pc := 36) (L' := fun x14 => [(2, vr (some a8)), (3, vl y13), (5, vi x14)]) dX9_mixRow_36 2 rfl ic_1 (Nat.le_of_ble_eq_true rfl) (fun _ => rfl) (fun x14 => (z_goto (pc := 39) (tgt := 20) dX9_mixRow_39 (by decide) (?_))))
      exact ih y13 x14 h12
set_option maxRecDepth 20000 in
set_option maxHeartbeats 4000000 in
theorem t_X9_mixRow (F : Nat) (y1 : Int64) (o2 : Option Nat) (h0 : z_Hp) : z_Ct zl mi_X9_mixRow [vl y1, vr o2] h0 (c_X9_mixRow F y1 o2 h0) := by
  refine z_entry (by decide) (Nat.le_of_ble_eq_true rfl) [(0, vl y1), (2, vr o2)] rfl ?_
  unfold c_X9_mixRow
  refine z_aload_n (pc := 0) dX9_mixRow_0 rfl 1 rfl (?_)
  refine z_ifnonnull (pc := 1) (tgt := 10) dX9_mixRow_1 (by decide) (fun ea3 => ?_) (fun a3 ea3 => ?_)
  · subst ea3
    refine z_lload_n (pc := 4) dX9_mixRow_4 rfl 0 rfl (z_iconst (pc := 5) dX9_mixRow_5 ic_m1 (z_callS_L (pc := 6) (avs := [vl y1, vi (-1)]) (st := []) rfl (t_X9_mix F y1 (-1) h0) ky_X9_mix ws_X9_mix wz_RX9_419 (rm_X9_mixRow_X9_mix) (Nat.le_of_ble_eq_true rfl) dX9_mixRow_6 (fun y5 h4 => (?_))))
    exact z_lret (pc := 9) dX9_mixRow_9 rfl
  · subst ea3
    refine z_lload_n (pc := 10) dX9_mixRow_10 rfl 0 rfl (z_aload_n (pc := 11) dX9_mixRow_11 rfl 1 rfl (z_alen (pc := 12) dX9_mixRow_12 (z_callS_L (pc := 13) (avs := [vl y1, vi (nI (hN h0 a3))]) (st := []) rfl (t_X9_mix F y1 (nI (hN h0 a3)) h0) ky_X9_mix ws_X9_mix wz_RX9_419 (rm_X9_mixRow_X9_mix) (Nat.le_of_ble_eq_true rfl) dX9_mixRow_13 (fun y7 h6 => (?_)))))
    refine z_lstore_n (pc := 16) (L' := [(0, vl y1), (2, vr (some a3)), (3, vl y7)]) dX9_mixRow_16 rfl (Nat.le_of_ble_eq_true rfl) rfl (z_iconst (pc := 17) dX9_mixRow_17 ic_0 (z_istore (pc := 18) (L' := [(0, vl y1), (2, vr (some a3)), (3, vl y7), (5, vi 0)]) dX9_mixRow_18 (Nat.le_of_ble_eq_true rfl) rfl (?_)))
    refine z_sub [1, 2, 3] rfl (g_X9_mixRow_L20 F a3 F y7 0 h6)
theorem dX4_mixAll_0 : decode cX4_mixAll 0 = .ok (.lload_n 1, 1) := by decide +kernel
theorem dX4_mixAll_1 : decode cX4_mixAll 1 = .ok (.lstore_n 3, 1) := by decide +kernel
theorem dX4_mixAll_2 : decode cX4_mixAll 2 = .ok (.iconst 0, 1) := by decide +kernel
theorem dX4_mixAll_3 : decode cX4_mixAll 3 = .ok (.istore 5, 2) := by decide +kernel
theorem dX4_mixAll_5 : decode cX4_mixAll 5 = .ok (.iload 5, 2) := by decide +kernel
theorem dX4_mixAll_7 : decode cX4_mixAll 7 = .ok (.iconst 4, 1) := by decide +kernel
theorem dX4_mixAll_8 : decode cX4_mixAll 8 = .ok (.if_icmp .ge 21, 3) := by decide +kernel
theorem dX4_mixAll_11 : decode cX4_mixAll 11 = .ok (.lload_n 3, 1) := by decide +kernel
theorem dX4_mixAll_12 : decode cX4_mixAll 12 = .ok (.aload_n 0, 1) := by decide +kernel
theorem dX4_mixAll_13 : decode cX4_mixAll 13 = .ok (.getfield 11, 3) := by decide +kernel
theorem dX4_mixAll_16 : decode cX4_mixAll 16 = .ok (.iload 5, 2) := by decide +kernel
theorem dX4_mixAll_18 : decode cX4_mixAll 18 = .ok (.aaload, 1) := by decide +kernel
theorem dX4_mixAll_19 : decode cX4_mixAll 19 = .ok (.invokestatic 56, 3) := by decide +kernel
theorem dX4_mixAll_22 : decode cX4_mixAll 22 = .ok (.lstore_n 3, 1) := by decide +kernel
theorem dX4_mixAll_23 : decode cX4_mixAll 23 = .ok (.iinc 5 1, 3) := by decide +kernel
theorem dX4_mixAll_26 : decode cX4_mixAll 26 = .ok (.goto (-21), 3) := by decide +kernel
theorem dX4_mixAll_29 : decode cX4_mixAll 29 = .ok (.iconst 0, 1) := by decide +kernel
theorem dX4_mixAll_30 : decode cX4_mixAll 30 = .ok (.istore 5, 2) := by decide +kernel
theorem dX4_mixAll_32 : decode cX4_mixAll 32 = .ok (.iload 5, 2) := by decide +kernel
theorem dX4_mixAll_34 : decode cX4_mixAll 34 = .ok (.aload_n 0, 1) := by decide +kernel
theorem dX4_mixAll_35 : decode cX4_mixAll 35 = .ok (.getfield 29, 3) := by decide +kernel
theorem dX4_mixAll_38 : decode cX4_mixAll 38 = .ok (.if_icmp .ge 41, 3) := by decide +kernel
theorem dX4_mixAll_41 : decode cX4_mixAll 41 = .ok (.lload_n 3, 1) := by decide +kernel
theorem dX4_mixAll_42 : decode cX4_mixAll 42 = .ok (.aload_n 0, 1) := by decide +kernel
theorem dX4_mixAll_43 : decode cX4_mixAll 43 = .ok (.getfield 17, 3) := by decide +kernel
theorem dX4_mixAll_46 : decode cX4_mixAll 46 = .ok (.iload 5, 2) := by decide +kernel
theorem dX4_mixAll_48 : decode cX4_mixAll 48 = .ok (.iaload, 1) := by decide +kernel
theorem dX4_mixAll_49 : decode cX4_mixAll 49 = .ok (.invokestatic 60, 3) := by decide +kernel
theorem dX4_mixAll_52 : decode cX4_mixAll 52 = .ok (.aload_n 0, 1) := by decide +kernel
theorem dX4_mixAll_53 : decode cX4_mixAll 53 = .ok (.getfield 20, 3) := by decide +kernel
theorem dX4_mixAll_56 : decode cX4_mixAll 56 = .ok (.iload 5, 2) := by decide +kernel
theorem dX4_mixAll_58 : decode cX4_mixAll 58 = .ok (.iaload, 1) := by decide +kernel
theorem dX4_mixAll_59 : decode cX4_mixAll 59 = .ok (.invokestatic 60, 3) := by decide +kernel
theorem dX4_mixAll_62 : decode cX4_mixAll 62 = .ok (.aload_n 0, 1) := by decide +kernel
theorem dX4_mixAll_63 : decode cX4_mixAll 63 = .ok (.getfield 23, 3) := by decide +kernel
theorem dX4_mixAll_66 : decode cX4_mixAll 66 = .ok (.iload 5, 2) := by decide +kernel
theorem dX4_mixAll_68 : decode cX4_mixAll 68 = .ok (.iaload, 1) := by decide +kernel
theorem dX4_mixAll_69 : decode cX4_mixAll 69 = .ok (.invokestatic 60, 3) := by decide +kernel
theorem dX4_mixAll_72 : decode cX4_mixAll 72 = .ok (.lstore_n 3, 1) := by decide +kernel
theorem dX4_mixAll_73 : decode cX4_mixAll 73 = .ok (.iinc 5 1, 3) := by decide +kernel
theorem dX4_mixAll_76 : decode cX4_mixAll 76 = .ok (.goto (-44), 3) := by decide +kernel
theorem dX4_mixAll_79 : decode cX4_mixAll 79 = .ok (.lload_n 3, 1) := by decide +kernel
theorem dX4_mixAll_80 : decode cX4_mixAll 80 = .ok (.lreturn, 1) := by decide +kernel
def c_X4_mixAll_L5 (F : Nat) (a2 : Nat) (k29 : Int64 → z_Hp → Option (Int64 × z_Hp)) : Nat → Int64 → Int32 → z_Hp → Option (Int64 × z_Hp)
  | 0, _, _, _ => none
  | n + 1, y3, x4, h5 => (if 4 ≤ x4 then (k29 y3 h5) else (if hT h5 a2 = 4 then (lt_ (hR h5 a2 0) (fun o8 => (nn o8 (fun a9 => (if okA h5 a9 23 x4 = true then (lt_ (hR h5 a9 (ix x4)) (fun o10 => (bL (c_X9_mixRow F y3 o10 h5) (fun y12 h11 => (lt_ (x4 + 1) (fun x13 => (c_X4_mixAll_L5 F a2 k29 n y12 x13 h11))))))) else none))))) else none))
def c_X4_mixAll_L32 (F : Nat) (a16 : Nat) : Nat → Int64 → Int32 → z_Hp → Option (Int64 × z_Hp)
  | 0, _, _, _ => none
  | n + 1, y17, x18, h19 => (if hT h19 a16 = 4 then (if (hI h19 a16 5) ≤ x18 then (some (y17, h19)) else (if hT h19 a16 = 4 then (lt_ (hR h19 a16 1) (fun o20 => (nn o20 (fun a21 => (if okA h19 a21 20 x18 = true then (bL (c_X9_mix F y17 (hI h19 a21 (ix x18)) h19) (fun y23 h22 => (if hT h22 a16 = 4 then (lt_ (hR h22 a16 2) (fun o24 => (nn o24 (fun a25 => (if okA h22 a25 20 x18 = true then (bL (c_X9_mix F y23 (hI h22 a25 (ix x18)) h22) (fun y27 h26 => (if hT h26 a16 = 4 then (lt_ (hR h26 a16 3) (fun o28 => (nn o28 (fun a29 => (if okA h26 a29 20 x18 = true then (bL (c_X9_mix F y27 (hI h26 a29 (ix x18)) h26) (fun y31 h30 => (lt_ (x18 + 1) (fun x32 => (c_X4_mixAll_L32 F a16 n y31 x32 h30))))) else none))))) else none))) else none))))) else none))) else none))))) else none)) else none)
def c_X4_mixAll (F : Nat) (a0 : Nat) (y1 : Int64) (h0 : z_Hp) : Option (Int64 × z_Hp) := (c_X4_mixAll_L5 F a0 (fun y14 h15 => (c_X4_mixAll_L32 F a0 F y14 0 h15)) F y1 0 h0)
set_option maxRecDepth 20000 in
set_option maxHeartbeats 4000000 in
theorem g_X4_mixAll_L5 (F : Nat) (a2 : Nat) (k29 : Int64 → z_Hp → Option (Int64 × z_Hp)) (qk29 : ∀ (y6 : Int64) (h7 : z_Hp), z_G zl mi_X4_mixAll 29 [(0, vr (some a2)), (3, vl y6)] [] h7 (k29 y6 h7)) : ∀ (n : Nat) (y3 : Int64) (x4 : Int32) (h5 : z_Hp), z_G zl mi_X4_mixAll 5 [(0, vr (some a2)), (3, vl y3), (5, vi x4)] [] h5 (c_X4_mixAll_L5 F a2 k29 n y3 x4 h5) := by
  intro n
  induction n with
  | zero => intro y3 x4 h5; rw [c_X4_mixAll_L5]; exact z_none
  | succ n ih =>
    intro y3 x4 h5
    rw [c_X4_mixAll_L5]
    refine z_iload (pc := 5) dX4_mixAll_5 2 rfl (z_iconst (pc := 7) dX4_mixAll_7 ic_4 (?_))
    refine z_icmp_ge (pc := 8) (tgt := 29) dX4_mixAll_8 (by decide) ?_ ?_
    · exact z_sub [0, 1] rfl (qk29 y3 h5)
    · refine z_lload_n (pc := 11) dX4_mixAll_11 rfl 1 rfl (z_aload_n (pc := 12) dX4_mixAll_12 rfl 0 rfl (z_getRl (pc := 13) fl_RX4_11 rfl dX4_mixAll_13 (fun o8 => (z_iload (pc := 16) dX4_mixAll_16 2 rfl (?_)))))
      refine z_nn (fun a9 ea9 => ?_)
      subst ea9
      refine z_aaloadl (pc := 18) 23 (by decide) dX4_mixAll_18 (fun o10 => (z_callSN_L (pc := 19) (host := "BalladSheets") (avs := [vl y3, vr o10]) (st := []) rfl (t_X9_mixRow F y3 o10 h5) ky_X9_mixRow ws_X9_mixRow (by decide +kernel) (rm_X4_mixAll_X9_mixRow) (Nat.le_of_ble_eq_true rfl) dX4_mixAll_19 (fun y12 h11 => (?_))))
      refine z_lstore_n (pc := 22) (L' := [(0, vr (some a2)), (3, vl y12), (5, vi x4)]) dX4_mixAll_22 rfl (Nat.le_of_ble_eq_true rfl) rfl (z_iincl (pc := 23) (L' := fun x13 => [(0, vr (some a2)), (3, vl y12), (5, vi x13)]) dX4_mixAll_23 2 rfl ic_1 (Nat.le_of_ble_eq_true rfl) (fun _ => rfl) (fun x13 => (z_goto (pc := 26) (tgt := 5) dX4_mixAll_26 (by decide) (?_))))
      exact ih y12 x13 h11
set_option maxRecDepth 20000 in
set_option maxHeartbeats 4000000 in
theorem g_X4_mixAll_L32 (F : Nat) (a16 : Nat) : ∀ (n : Nat) (y17 : Int64) (x18 : Int32) (h19 : z_Hp), z_G zl mi_X4_mixAll 32 [(0, vr (some a16)), (3, vl y17), (5, vi x18)] [] h19 (c_X4_mixAll_L32 F a16 n y17 x18 h19) := by
  intro n
  induction n with
  | zero => intro y17 x18 h19; rw [c_X4_mixAll_L32]; exact z_none
  | succ n ih =>
    intro y17 x18 h19
    rw [c_X4_mixAll_L32]
    refine z_iload (pc := 32) dX4_mixAll_32 2 rfl (z_aload_n (pc := 34) dX4_mixAll_34 rfl 0 rfl (z_getI (pc := 35) fl_RX4_29 rfl dX4_mixAll_35 (?_)))
    refine z_icmp_ge (pc := 38) (tgt := 79) dX4_mixAll_38 (by decide) ?_ ?_
    · refine z_lload_n (pc := 79) dX4_mixAll_79 rfl 1 rfl (?_)
      exact z_lret (pc := 80) dX4_mixAll_80 rfl
    · refine z_lload_n (pc := 41) dX4_mixAll_41 rfl 1 rfl (z_aload_n (pc := 42) dX4_mixAll_42 rfl 0 rfl (z_getRl (pc := 43) fl_RX4_17 rfl dX4_mixAll_43 (fun o20 => (z_iload (pc := 46) dX4_mixAll_46 2 rfl (?_)))))
      refine z_nn (fun a21 ea21 => ?_)
      subst ea21
      refine z_iaload (pc := 48) dX4_mixAll_48 (z_callSN_L (pc := 49) (host := "BalladSheets") (avs := [vl y17, vi (hI h19 a21 (ix x18))]) (st := []) rfl (t_X9_mix F y17 (hI h19 a21 (ix x18)) h19) ky_X9_mix ws_X9_mix (by decide +kernel) (rm_X4_mixAll_X9_mix) (Nat.le_of_ble_eq_true rfl) dX4_mixAll_49 (fun y23 h22 => (?_)))
      refine z_aload_n (pc := 52) dX4_mixAll_52 rfl 0 rfl (z_getRl (pc := 53) fl_RX4_20 rfl dX4_mixAll_53 (fun o24 => (z_iload (pc := 56) dX4_mixAll_56 2 rfl (?_))))
      refine z_nn (fun a25 ea25 => ?_)
      subst ea25
      refine z_iaload (pc := 58) dX4_mixAll_58 (z_callSN_L (pc := 59) (host := "BalladSheets") (avs := [vl y23, vi (hI h22 a25 (ix x18))]) (st := []) rfl (t_X9_mix F y23 (hI h22 a25 (ix x18)) h22) ky_X9_mix ws_X9_mix (by decide +kernel) (rm_X4_mixAll_X9_mix) (Nat.le_of_ble_eq_true rfl) dX4_mixAll_59 (fun y27 h26 => (?_)))
      refine z_aload_n (pc := 62) dX4_mixAll_62 rfl 0 rfl (z_getRl (pc := 63) fl_RX4_23 rfl dX4_mixAll_63 (fun o28 => (z_iload (pc := 66) dX4_mixAll_66 2 rfl (?_))))
      refine z_nn (fun a29 ea29 => ?_)
      subst ea29
      refine z_iaload (pc := 68) dX4_mixAll_68 (z_callSN_L (pc := 69) (host := "BalladSheets") (avs := [vl y27, vi (hI h26 a29 (ix x18))]) (st := []) rfl (t_X9_mix F y27 (hI h26 a29 (ix x18)) h26) ky_X9_mix ws_X9_mix (by decide +kernel) (rm_X4_mixAll_X9_mix) (Nat.le_of_ble_eq_true rfl) dX4_mixAll_69 (fun y31 h30 => (?_)))
      refine z_lstore_n (pc := 72) (L' := [(0, vr (some a16)), (3, vl y31), (5, vi x18)]) dX4_mixAll_72 rfl (Nat.le_of_ble_eq_true rfl) rfl (z_iincl (pc := 73) (L' := fun x32 => [(0, vr (some a16)), (3, vl y31), (5, vi x32)]) dX4_mixAll_73 2 rfl ic_1 (Nat.le_of_ble_eq_true rfl) (fun _ => rfl) (fun x32 => (z_goto (pc := 76) (tgt := 32) dX4_mixAll_76 (by decide) (?_))))
      exact ih y31 x32 h30
set_option maxRecDepth 20000 in
set_option maxHeartbeats 4000000 in
theorem t_X4_mixAll (F : Nat) (a0 : Nat) (y1 : Int64) (h0 : z_Hp) : z_Ct zl mi_X4_mixAll [vr (some a0), vl y1] h0 (c_X4_mixAll F a0 y1 h0) := by
  refine z_entry (by decide) (Nat.le_of_ble_eq_true rfl) [(0, vr (some a0)), (1, vl y1)] rfl ?_
  unfold c_X4_mixAll
  refine z_lload_n (pc := 0) dX4_mixAll_0 rfl 1 rfl (z_lstore_n (pc := 1) (L' := [(0, vr (some a0)), (1, vl y1), (3, vl y1)]) dX4_mixAll_1 rfl (Nat.le_of_ble_eq_true rfl) rfl (z_iconst (pc := 2) dX4_mixAll_2 ic_0 (z_istore (pc := 3) (L' := [(0, vr (some a0)), (1, vl y1), (3, vl y1), (5, vi 0)]) dX4_mixAll_3 (Nat.le_of_ble_eq_true rfl) rfl (?_))))
  refine z_sub [0, 2, 3] rfl (g_X4_mixAll_L5 F a0 _ (fun y14 h15 => ?_) F y1 0 h0)
  refine z_iconst (pc := 29) dX4_mixAll_29 ic_0 (z_istore (pc := 30) (L' := [(0, vr (some a0)), (3, vl y14), (5, vi 0)]) dX4_mixAll_30 (Nat.le_of_ble_eq_true rfl) rfl (?_))
  refine g_X4_mixAll_L32 F a0 F y14 0 h15
theorem dX5_init_0 : decode cX5_init 0 = .ok (.aload_n 0, 1) := by decide +kernel
theorem dX5_init_1 : decode cX5_init 1 = .ok (.invokespecial 3, 3) := by decide +kernel
theorem dX5_init_4 : decode cX5_init 4 = .ok (.aload_n 0, 1) := by decide +kernel
theorem dX5_init_5 : decode cX5_init 5 = .ok (.bipush (-9), 2) := by decide +kernel
theorem dX5_init_7 : decode cX5_init 7 = .ok (.putfield 9, 3) := by decide +kernel
theorem dX5_init_10 : decode cX5_init 10 = .ok (.aload_n 0, 1) := by decide +kernel
theorem dX5_init_11 : decode cX5_init 11 = .ok (.bipush (-9), 2) := by decide +kernel
theorem dX5_init_13 : decode cX5_init 13 = .ok (.putfield 15, 3) := by decide +kernel
theorem dX5_init_16 : decode cX5_init 16 = .ok (.aload_n 0, 1) := by decide +kernel
theorem dX5_init_17 : decode cX5_init 17 = .ok (.bipush (-9), 2) := by decide +kernel
theorem dX5_init_19 : decode cX5_init 19 = .ok (.putfield 18, 3) := by decide +kernel
theorem dX5_init_22 : decode cX5_init 22 = .ok (.aload_n 0, 1) := by decide +kernel
theorem dX5_init_23 : decode cX5_init 23 = .ok (.iload_n 1, 1) := by decide +kernel
theorem dX5_init_24 : decode cX5_init 24 = .ok (.putfield 21, 3) := by decide +kernel
theorem dX5_init_27 : decode cX5_init 27 = .ok (.aload_n 0, 1) := by decide +kernel
theorem dX5_init_28 : decode cX5_init 28 = .ok (.iload_n 2, 1) := by decide +kernel
theorem dX5_init_29 : decode cX5_init 29 = .ok (.putfield 24, 3) := by decide +kernel
theorem dX5_init_32 : decode cX5_init 32 = .ok (.aload_n 0, 1) := by decide +kernel
theorem dX5_init_33 : decode cX5_init 33 = .ok (.iload_n 3, 1) := by decide +kernel
theorem dX5_init_34 : decode cX5_init 34 = .ok (.putfield 27, 3) := by decide +kernel
theorem dX5_init_37 : decode cX5_init 37 = .ok (.aload_n 0, 1) := by decide +kernel
theorem dX5_init_38 : decode cX5_init 38 = .ok (.iload 4, 2) := by decide +kernel
theorem dX5_init_40 : decode cX5_init 40 = .ok (.putfield 30, 3) := by decide +kernel
theorem dX5_init_43 : decode cX5_init 43 = .ok (.aload_n 0, 1) := by decide +kernel
theorem dX5_init_44 : decode cX5_init 44 = .ok (.aload 5, 2) := by decide +kernel
theorem dX5_init_46 : decode cX5_init 46 = .ok (.putfield 33, 3) := by decide +kernel
theorem dX5_init_49 : decode cX5_init 49 = .ok (.return_, 1) := by decide +kernel
def c_X5_init (F : Nat) (a0 : Nat) (x1 : Int32) (x2 : Int32) (x3 : Int32) (x4 : Int32) (o5 : Option Nat) (h0 : z_Hp) : Option (z_Hp) := (if hT h0 a0 = 5 then (lt_ (sI h0 a0 5 (-9)) (fun h6 => (if hT h6 a0 = 5 then (lt_ (sI h6 a0 9 (-9)) (fun h7 => (if hT h7 a0 = 5 then (lt_ (sI h7 a0 10 (-9)) (fun h8 => (if hT h8 a0 = 5 then (lt_ (sI h8 a0 0 x1) (fun h9 => (if hT h9 a0 = 5 then (lt_ (sI h9 a0 1 x2) (fun h10 => (if hT h10 a0 = 5 then (lt_ (sI h10 a0 2 x3) (fun h11 => (if hT h11 a0 = 5 then (lt_ (sI h11 a0 3 x4) (fun h12 => (if hT h12 a0 = 5 then (lt_ (sR h12 a0 4 o5) (fun h13 => (some h13))) else none))) else none))) else none))) else none))) else none))) else none))) else none))) else none)
set_option maxRecDepth 20000 in
set_option maxHeartbeats 4000000 in
theorem t_X5_init (F : Nat) (a0 : Nat) (x1 : Int32) (x2 : Int32) (x3 : Int32) (x4 : Int32) (o5 : Option Nat) (h0 : z_Hp) : z_Ct zv mi_X5_init [vr (some a0), vi x1, vi x2, vi x3, vi x4, vr o5] h0 (c_X5_init F a0 x1 x2 x3 x4 o5 h0) := by
  refine z_entry (by decide) (Nat.le_of_ble_eq_true rfl) [(0, vr (some a0)), (1, vi x1), (2, vi x2), (3, vi x3), (4, vi x4), (5, vr o5)] rfl ?_
  unfold c_X5_init
  refine z_aload_n (pc := 0) dX5_init_0 rfl 0 rfl (z_objinit (pc := 1) wo_RX5_3 wo_im wo_cd (Nat.le_of_ble_eq_true rfl) (Nat.le_of_ble_eq_true rfl) (Nat.le_of_ble_eq_true rfl) dX5_init_1 (z_aload_n (pc := 4) dX5_init_4 rfl 0 rfl (z_bipush (pc := 5) dX5_init_5 bp_m9 (z_putIl (pc := 7) fl_RX5_9 (fin_X_5_5 _) rfl dX5_init_7 (fun h6 => (z_aload_n (pc := 10) dX5_init_10 rfl 0 rfl (z_bipush (pc := 11) dX5_init_11 bp_m9 (z_putIl (pc := 13) fl_RX5_15 (fin_X_5_9 _) rfl dX5_init_13 (fun h7 => (?_))))))))))
  refine z_aload_n (pc := 16) dX5_init_16 rfl 0 rfl (z_bipush (pc := 17) dX5_init_17 bp_m9 (z_putIl (pc := 19) fl_RX5_18 (fin_X_5_10 _) rfl dX5_init_19 (fun h8 => (z_aload_n (pc := 22) dX5_init_22 rfl 0 rfl (z_iload_n (pc := 23) dX5_init_23 rfl 1 rfl (z_putIl (pc := 24) fl_RX5_21 fin_X5_init_5_0 rfl dX5_init_24 (fun h9 => (z_aload_n (pc := 27) dX5_init_27 rfl 0 rfl (z_iload_n (pc := 28) dX5_init_28 rfl 2 rfl (?_))))))))))
  refine z_putIl (pc := 29) fl_RX5_24 fin_X5_init_5_1 rfl dX5_init_29 (fun h10 => (z_aload_n (pc := 32) dX5_init_32 rfl 0 rfl (z_iload_n (pc := 33) dX5_init_33 rfl 3 rfl (z_putIl (pc := 34) fl_RX5_27 fin_X5_init_5_2 rfl dX5_init_34 (fun h11 => (z_aload_n (pc := 37) dX5_init_37 rfl 0 rfl (z_iload (pc := 38) dX5_init_38 4 rfl (z_putIl (pc := 40) fl_RX5_30 fin_X5_init_5_3 rfl dX5_init_40 (fun h12 => (z_aload_n (pc := 43) dX5_init_43 rfl 0 rfl (?_)))))))))))
  refine z_aload (pc := 44) dX5_init_44 5 rfl (z_putRl (pc := 46) fl_RX5_33 fin_X5_init_5_4 rfl dX5_init_46 (fun h13 => (?_)))
  exact z_vret (pc := 49) dX5_init_49 rfl
theorem dX5_isOf_0 : decode cX5_isOf 0 = .ok (.aload_n 0, 1) := by decide +kernel
theorem dX5_isOf_1 : decode cX5_isOf 1 = .ok (.getfield 21, 3) := by decide +kernel
theorem dX5_isOf_4 : decode cX5_isOf 4 = .ok (.iload_n 1, 1) := by decide +kernel
theorem dX5_isOf_5 : decode cX5_isOf 5 = .ok (.if_icmp .eq 15, 3) := by decide +kernel
theorem dX5_isOf_8 : decode cX5_isOf 8 = .ok (.getstatic 37, 3) := by decide +kernel
theorem dX5_isOf_11 : decode cX5_isOf 11 = .ok (.aload_n 0, 1) := by decide +kernel
theorem dX5_isOf_12 : decode cX5_isOf 12 = .ok (.getfield 21, 3) := by decide +kernel
theorem dX5_isOf_15 : decode cX5_isOf 15 = .ok (.iaload, 1) := by decide +kernel
theorem dX5_isOf_16 : decode cX5_isOf 16 = .ok (.iload_n 1, 1) := by decide +kernel
theorem dX5_isOf_17 : decode cX5_isOf 17 = .ok (.if_icmp .ne 7, 3) := by decide +kernel
theorem dX5_isOf_20 : decode cX5_isOf 20 = .ok (.iconst 1, 1) := by decide +kernel
theorem dX5_isOf_21 : decode cX5_isOf 21 = .ok (.goto 4, 3) := by decide +kernel
theorem dX5_isOf_24 : decode cX5_isOf 24 = .ok (.iconst 0, 1) := by decide +kernel
theorem dX5_isOf_25 : decode cX5_isOf 25 = .ok (.ireturn, 1) := by decide +kernel
def c_X5_isOf (F : Nat) (a0 : Nat) (x1 : Int32) (h0 : z_Hp) : Option (Int32 × z_Hp) := (if hT h0 a0 = 5 then (if (hI h0 a0 0) = x1 then (some (1, h0)) else (if hT h0 a0 = 5 then (if inb (hI h0 a0 0) (hN h0 0) = true then (if (hI h0 0 (ix (hI h0 a0 0))) = x1 then (some (1, h0)) else (some (0, h0))) else none) else none)) else none)
set_option maxRecDepth 20000 in
set_option maxHeartbeats 4000000 in
theorem t_X5_isOf (F : Nat) (a0 : Nat) (x1 : Int32) (h0 : z_Hp) : z_Ct zi mi_X5_isOf [vr (some a0), vi x1] h0 (c_X5_isOf F a0 x1 h0) := by
  refine z_entry (by decide) (Nat.le_of_ble_eq_true rfl) [(0, vr (some a0)), (1, vi x1)] rfl ?_
  unfold c_X5_isOf
  refine z_aload_n (pc := 0) dX5_isOf_0 rfl 0 rfl (z_getI (pc := 1) fl_RX5_21 rfl dX5_isOf_1 (z_iload_n (pc := 4) dX5_isOf_4 rfl 1 rfl (?_)))
  refine z_icmp_eq (pc := 5) (tgt := 20) dX5_isOf_5 (by decide) ?_ ?_
  · refine z_iconst (pc := 20) dX5_isOf_20 ic_1 (z_goto (pc := 21) (tgt := 25) dX5_isOf_21 (by decide) (?_))
    exact z_iret (pc := 25) dX5_isOf_25 rfl rfl
  · refine z_getsN (pc := 8) (k := 0) (by decide) (by decide +kernel) dX5_isOf_8 (z_aload_n (pc := 11) dX5_isOf_11 rfl 0 rfl (z_getI (pc := 12) fl_RX5_21 rfl dX5_isOf_12 (z_iald0 (pc := 15) (by decide) dX5_isOf_15 (z_iload_n (pc := 16) dX5_isOf_16 rfl 1 rfl (?_)))))
    refine z_icmp_ne (pc := 17) (tgt := 24) dX5_isOf_17 (by decide) ?_ ?_
    · refine z_iconst (pc := 24) dX5_isOf_24 ic_0 (?_)
      exact z_iret (pc := 25) dX5_isOf_25 rfl rfl
    · refine z_iconst (pc := 20) dX5_isOf_20 ic_1 (z_goto (pc := 21) (tgt := 25) dX5_isOf_21 (by decide) (?_))
      exact z_iret (pc := 25) dX5_isOf_25 rfl rfl
theorem dX5_tells_0 : decode cX5_tells 0 = .ok (.iload_n 1, 1) := by decide +kernel
theorem dX5_tells_1 : decode cX5_tells 1 = .ok (.tableswitch 87 0 7 #[47, 52, 57, 62, 67, 72, 77, 82], 47) := by decide +kernel
theorem dX5_tells_48 : decode cX5_tells 48 = .ok (.aload_n 0, 1) := by decide +kernel
theorem dX5_tells_49 : decode cX5_tells 49 = .ok (.getfield 21, 3) := by decide +kernel
theorem dX5_tells_52 : decode cX5_tells 52 = .ok (.ireturn, 1) := by decide +kernel
theorem dX5_tells_53 : decode cX5_tells 53 = .ok (.aload_n 0, 1) := by decide +kernel
theorem dX5_tells_54 : decode cX5_tells 54 = .ok (.getfield 24, 3) := by decide +kernel
theorem dX5_tells_57 : decode cX5_tells 57 = .ok (.ireturn, 1) := by decide +kernel
theorem dX5_tells_58 : decode cX5_tells 58 = .ok (.aload_n 0, 1) := by decide +kernel
theorem dX5_tells_59 : decode cX5_tells 59 = .ok (.getfield 27, 3) := by decide +kernel
theorem dX5_tells_62 : decode cX5_tells 62 = .ok (.ireturn, 1) := by decide +kernel
theorem dX5_tells_63 : decode cX5_tells 63 = .ok (.aload_n 0, 1) := by decide +kernel
theorem dX5_tells_64 : decode cX5_tells 64 = .ok (.getfield 9, 3) := by decide +kernel
theorem dX5_tells_67 : decode cX5_tells 67 = .ok (.ireturn, 1) := by decide +kernel
theorem dX5_tells_68 : decode cX5_tells 68 = .ok (.aload_n 0, 1) := by decide +kernel
theorem dX5_tells_69 : decode cX5_tells 69 = .ok (.getfield 40, 3) := by decide +kernel
theorem dX5_tells_72 : decode cX5_tells 72 = .ok (.ireturn, 1) := by decide +kernel
theorem dX5_tells_73 : decode cX5_tells 73 = .ok (.aload_n 0, 1) := by decide +kernel
theorem dX5_tells_74 : decode cX5_tells 74 = .ok (.getfield 43, 3) := by decide +kernel
theorem dX5_tells_77 : decode cX5_tells 77 = .ok (.ireturn, 1) := by decide +kernel
theorem dX5_tells_78 : decode cX5_tells 78 = .ok (.aload_n 0, 1) := by decide +kernel
theorem dX5_tells_79 : decode cX5_tells 79 = .ok (.getfield 46, 3) := by decide +kernel
theorem dX5_tells_82 : decode cX5_tells 82 = .ok (.ireturn, 1) := by decide +kernel
theorem dX5_tells_83 : decode cX5_tells 83 = .ok (.aload_n 0, 1) := by decide +kernel
theorem dX5_tells_84 : decode cX5_tells 84 = .ok (.getfield 15, 3) := by decide +kernel
theorem dX5_tells_87 : decode cX5_tells 87 = .ok (.ireturn, 1) := by decide +kernel
theorem dX5_tells_88 : decode cX5_tells 88 = .ok (.aload_n 0, 1) := by decide +kernel
theorem dX5_tells_89 : decode cX5_tells 89 = .ok (.getfield 18, 3) := by decide +kernel
theorem dX5_tells_92 : decode cX5_tells 92 = .ok (.ireturn, 1) := by decide +kernel
def c_X5_tells (F : Nat) (a0 : Nat) (x1 : Int32) (h0 : z_Hp) : Option (Int32 × z_Hp) := (if (x1 : Int32).toInt < 0 ∨ 7 < (x1 : Int32).toInt then (if hT h0 a0 = 5 then (some (hI h0 a0 10, h0)) else none) else (if x1 = 0 then (if hT h0 a0 = 5 then (some (hI h0 a0 0, h0)) else none) else (if x1 = 1 then (if hT h0 a0 = 5 then (some (hI h0 a0 1, h0)) else none) else (if x1 = 2 then (if hT h0 a0 = 5 then (some (hI h0 a0 2, h0)) else none) else (if x1 = 3 then (if hT h0 a0 = 5 then (some (hI h0 a0 5, h0)) else none) else (if x1 = 4 then (if hT h0 a0 = 5 then (some (hI h0 a0 6, h0)) else none) else (if x1 = 5 then (if hT h0 a0 = 5 then (some (hI h0 a0 7, h0)) else none) else (if x1 = 6 then (if hT h0 a0 = 5 then (some (hI h0 a0 8, h0)) else none) else (if x1 = 7 then (if hT h0 a0 = 5 then (some (hI h0 a0 9, h0)) else none) else none)))))))))
set_option maxRecDepth 20000 in
set_option maxHeartbeats 4000000 in
theorem t_X5_tells (F : Nat) (a0 : Nat) (x1 : Int32) (h0 : z_Hp) : z_Ct zi mi_X5_tells [vr (some a0), vi x1] h0 (c_X5_tells F a0 x1 h0) := by
  refine z_entry (by decide) (Nat.le_of_ble_eq_true rfl) [(0, vr (some a0)), (1, vi x1)] rfl ?_
  unfold c_X5_tells
  refine z_iload_n (pc := 0) dX5_tells_0 rfl 1 rfl (?_)
  refine z_ite (fun e => z_tblOut (tgt := 88) dX5_tells_1 e (by decide) ?_) (fun e => ?_)
  · refine z_aload_n (pc := 88) dX5_tells_88 rfl 0 rfl (z_getI (pc := 89) fl_RX5_18 rfl dX5_tells_89 (?_))
    exact z_iret (pc := 92) dX5_tells_92 rfl rfl
  refine z_ite (fun e => z_tblC (tgt := 48) (off := 47) e dX5_tells_1 (by decide) (by decide) (by decide) (by decide) ?_) (fun _ => ?_)
  · refine z_aload_n (pc := 48) dX5_tells_48 rfl 0 rfl (z_getI (pc := 49) fl_RX5_21 rfl dX5_tells_49 (?_))
    exact z_iret (pc := 52) dX5_tells_52 rfl rfl
  refine z_ite (fun e => z_tblC (tgt := 53) (off := 52) e dX5_tells_1 (by decide) (by decide) (by decide) (by decide) ?_) (fun _ => ?_)
  · refine z_aload_n (pc := 53) dX5_tells_53 rfl 0 rfl (z_getI (pc := 54) fl_RX5_24 rfl dX5_tells_54 (?_))
    exact z_iret (pc := 57) dX5_tells_57 rfl rfl
  refine z_ite (fun e => z_tblC (tgt := 58) (off := 57) e dX5_tells_1 (by decide) (by decide) (by decide) (by decide) ?_) (fun _ => ?_)
  · refine z_aload_n (pc := 58) dX5_tells_58 rfl 0 rfl (z_getI (pc := 59) fl_RX5_27 rfl dX5_tells_59 (?_))
    exact z_iret (pc := 62) dX5_tells_62 rfl rfl
  refine z_ite (fun e => z_tblC (tgt := 63) (off := 62) e dX5_tells_1 (by decide) (by decide) (by decide) (by decide) ?_) (fun _ => ?_)
  · refine z_aload_n (pc := 63) dX5_tells_63 rfl 0 rfl (z_getI (pc := 64) fl_RX5_9 rfl dX5_tells_64 (?_))
    exact z_iret (pc := 67) dX5_tells_67 rfl rfl
  refine z_ite (fun e => z_tblC (tgt := 68) (off := 67) e dX5_tells_1 (by decide) (by decide) (by decide) (by decide) ?_) (fun _ => ?_)
  · refine z_aload_n (pc := 68) dX5_tells_68 rfl 0 rfl (z_getI (pc := 69) fl_RX5_40 rfl dX5_tells_69 (?_))
    exact z_iret (pc := 72) dX5_tells_72 rfl rfl
  refine z_ite (fun e => z_tblC (tgt := 73) (off := 72) e dX5_tells_1 (by decide) (by decide) (by decide) (by decide) ?_) (fun _ => ?_)
  · refine z_aload_n (pc := 73) dX5_tells_73 rfl 0 rfl (z_getI (pc := 74) fl_RX5_43 rfl dX5_tells_74 (?_))
    exact z_iret (pc := 77) dX5_tells_77 rfl rfl
  refine z_ite (fun e => z_tblC (tgt := 78) (off := 77) e dX5_tells_1 (by decide) (by decide) (by decide) (by decide) ?_) (fun _ => ?_)
  · refine z_aload_n (pc := 78) dX5_tells_78 rfl 0 rfl (z_getI (pc := 79) fl_RX5_46 rfl dX5_tells_79 (?_))
    exact z_iret (pc := 82) dX5_tells_82 rfl rfl
  refine z_ite (fun e => z_tblC (tgt := 83) (off := 82) e dX5_tells_1 (by decide) (by decide) (by decide) (by decide) ?_) (fun _ => ?_)
  · refine z_aload_n (pc := 83) dX5_tells_83 rfl 0 rfl (z_getI (pc := 84) fl_RX5_15 rfl dX5_tells_84 (?_))
    exact z_iret (pc := 87) dX5_tells_87 rfl rfl
  exact z_none
theorem dX5_hasSpan_0 : decode cX5_hasSpan 0 = .ok (.aload_n 0, 1) := by decide +kernel
theorem dX5_hasSpan_1 : decode cX5_hasSpan 1 = .ok (.getfield 15, 3) := by decide +kernel
theorem dX5_hasSpan_4 : decode cX5_hasSpan 4 = .ok (.bipush (-9), 2) := by decide +kernel
theorem dX5_hasSpan_6 : decode cX5_hasSpan 6 = .ok (.if_icmp .eq 7, 3) := by decide +kernel
theorem dX5_hasSpan_9 : decode cX5_hasSpan 9 = .ok (.iconst 1, 1) := by decide +kernel
theorem dX5_hasSpan_10 : decode cX5_hasSpan 10 = .ok (.goto 4, 3) := by decide +kernel
theorem dX5_hasSpan_13 : decode cX5_hasSpan 13 = .ok (.iconst 0, 1) := by decide +kernel
theorem dX5_hasSpan_14 : decode cX5_hasSpan 14 = .ok (.ireturn, 1) := by decide +kernel
def c_X5_hasSpan (F : Nat) (a0 : Nat) (h0 : z_Hp) : Option (Int32 × z_Hp) := (if hT h0 a0 = 5 then (if (hI h0 a0 9) = (-9) then (some (0, h0)) else (some (1, h0))) else none)
set_option maxRecDepth 20000 in
set_option maxHeartbeats 4000000 in
theorem t_X5_hasSpan (F : Nat) (a0 : Nat) (h0 : z_Hp) : z_Ct zi mi_X5_hasSpan [vr (some a0)] h0 (c_X5_hasSpan F a0 h0) := by
  refine z_entry (by decide) (Nat.le_of_ble_eq_true rfl) [(0, vr (some a0))] rfl ?_
  unfold c_X5_hasSpan
  refine z_aload_n (pc := 0) dX5_hasSpan_0 rfl 0 rfl (z_getI (pc := 1) fl_RX5_15 rfl dX5_hasSpan_1 (z_bipush (pc := 4) dX5_hasSpan_4 bp_m9 (?_)))
  refine z_icmp_eq (pc := 6) (tgt := 13) dX5_hasSpan_6 (by decide) ?_ ?_
  · refine z_iconst (pc := 13) dX5_hasSpan_13 ic_0 (?_)
    exact z_iret (pc := 14) dX5_hasSpan_14 rfl rfl
  · refine z_iconst (pc := 9) dX5_hasSpan_9 ic_1 (z_goto (pc := 10) (tgt := 14) dX5_hasSpan_10 (by decide) (?_))
    exact z_iret (pc := 14) dX5_hasSpan_14 rfl rfl
theorem dX5_isOfPrintOf_0 : decode cX5_isOfPrintOf 0 = .ok (.aload_n 0, 1) := by decide +kernel
theorem dX5_isOfPrintOf_1 : decode cX5_isOfPrintOf 1 = .ok (.iconst 1, 1) := by decide +kernel
theorem dX5_isOfPrintOf_2 : decode cX5_isOfPrintOf 2 = .ok (.invokevirtual 49, 3) := by decide +kernel
theorem dX5_isOfPrintOf_5 : decode cX5_isOfPrintOf 5 = .ok (.ifCond .eq 29, 3) := by decide +kernel
theorem dX5_isOfPrintOf_8 : decode cX5_isOfPrintOf 8 = .ok (.aload_n 0, 1) := by decide +kernel
theorem dX5_isOfPrintOf_9 : decode cX5_isOfPrintOf 9 = .ok (.getfield 27, 3) := by decide +kernel
theorem dX5_isOfPrintOf_12 : decode cX5_isOfPrintOf 12 = .ok (.aload_n 1, 1) := by decide +kernel
theorem dX5_isOfPrintOf_13 : decode cX5_isOfPrintOf 13 = .ok (.getfield 27, 3) := by decide +kernel
theorem dX5_isOfPrintOf_16 : decode cX5_isOfPrintOf 16 = .ok (.if_icmp .ne 18, 3) := by decide +kernel
theorem dX5_isOfPrintOf_19 : decode cX5_isOfPrintOf 19 = .ok (.aload_n 0, 1) := by decide +kernel
theorem dX5_isOfPrintOf_20 : decode cX5_isOfPrintOf 20 = .ok (.getfield 24, 3) := by decide +kernel
theorem dX5_isOfPrintOf_23 : decode cX5_isOfPrintOf 23 = .ok (.aload_n 1, 1) := by decide +kernel
theorem dX5_isOfPrintOf_24 : decode cX5_isOfPrintOf 24 = .ok (.getfield 24, 3) := by decide +kernel
theorem dX5_isOfPrintOf_27 : decode cX5_isOfPrintOf 27 = .ok (.if_icmp .ne 7, 3) := by decide +kernel
theorem dX5_isOfPrintOf_30 : decode cX5_isOfPrintOf 30 = .ok (.iconst 1, 1) := by decide +kernel
theorem dX5_isOfPrintOf_31 : decode cX5_isOfPrintOf 31 = .ok (.goto 4, 3) := by decide +kernel
theorem dX5_isOfPrintOf_34 : decode cX5_isOfPrintOf 34 = .ok (.iconst 0, 1) := by decide +kernel
theorem dX5_isOfPrintOf_35 : decode cX5_isOfPrintOf 35 = .ok (.ireturn, 1) := by decide +kernel
def c_X5_isOfPrintOf (F : Nat) (a0 : Nat) (o1 : Option Nat) (h0 : z_Hp) : Option (Int32 × z_Hp) := (if hT h0 a0 = 5 then (bI (c_X5_isOf F a0 1 h0) (fun x3 h2 => (if x3 = 0 then (some (0, h2)) else (if hT h2 a0 = 5 then (nn o1 (fun a4 => (if hT h2 a4 = 5 then (if (hI h2 a0 2) = (hI h2 a4 2) then (if hT h2 a0 = 5 then (if hT h2 a4 = 5 then (if (hI h2 a0 1) = (hI h2 a4 1) then (some (1, h2)) else (some (0, h2))) else none) else none) else (some (0, h2))) else none))) else none)))) else none)
set_option maxRecDepth 20000 in
set_option maxHeartbeats 4000000 in
theorem t_X5_isOfPrintOf (F : Nat) (a0 : Nat) (o1 : Option Nat) (h0 : z_Hp) : z_Ct zi mi_X5_isOfPrintOf [vr (some a0), vr o1] h0 (c_X5_isOfPrintOf F a0 o1 h0) := by
  refine z_entry (by decide) (Nat.le_of_ble_eq_true rfl) [(0, vr (some a0)), (1, vr o1)] rfl ?_
  unfold c_X5_isOfPrintOf
  refine z_aload_n (pc := 0) dX5_isOfPrintOf_0 rfl 0 rfl (z_iconst (pc := 1) dX5_isOfPrintOf_1 ic_1 (z_callV_I (pc := 2) (avs := [vi 1]) (st := []) rfl (q := (RX5, TX5, 11)) rfl rfl (t_X5_isOf F a0 1 h0) ky_X5_isOf wm_X5_isOf we_X5_isOf wz_RX5_49 (rm_X5_isOfPrintOf_X5_isOf) (Nat.le_of_ble_eq_true rfl) dX5_isOfPrintOf_2 (fun x3 h2 => (?_))))
  refine z_if_eq (pc := 5) (tgt := 34) dX5_isOfPrintOf_5 (by decide) ?_ ?_
  · refine z_iconst (pc := 34) dX5_isOfPrintOf_34 ic_0 (?_)
    exact z_iret (pc := 35) dX5_isOfPrintOf_35 rfl rfl
  · refine z_aload_n (pc := 8) dX5_isOfPrintOf_8 rfl 0 rfl (z_getI (pc := 9) fl_RX5_27 rfl dX5_isOfPrintOf_9 (z_aload_n (pc := 12) dX5_isOfPrintOf_12 rfl 1 rfl (?_)))
    refine z_nn (fun a4 ea4 => ?_)
    subst ea4
    refine z_getI (pc := 13) fl_RX5_27 rfl dX5_isOfPrintOf_13 (?_)
    refine z_icmp_ne (pc := 16) (tgt := 34) dX5_isOfPrintOf_16 (by decide) ?_ ?_
    · refine z_iconst (pc := 34) dX5_isOfPrintOf_34 ic_0 (?_)
      exact z_iret (pc := 35) dX5_isOfPrintOf_35 rfl rfl
    · refine z_aload_n (pc := 19) dX5_isOfPrintOf_19 rfl 0 rfl (z_getI (pc := 20) fl_RX5_24 rfl dX5_isOfPrintOf_20 (z_aload_n (pc := 23) dX5_isOfPrintOf_23 rfl 1 rfl (z_getI (pc := 24) fl_RX5_24 rfl dX5_isOfPrintOf_24 (?_))))
      refine z_icmp_ne (pc := 27) (tgt := 34) dX5_isOfPrintOf_27 (by decide) ?_ ?_
      · refine z_iconst (pc := 34) dX5_isOfPrintOf_34 ic_0 (?_)
        exact z_iret (pc := 35) dX5_isOfPrintOf_35 rfl rfl
      · refine z_iconst (pc := 30) dX5_isOfPrintOf_30 ic_1 (z_goto (pc := 31) (tgt := 35) dX5_isOfPrintOf_31 (by decide) (?_))
        exact z_iret (pc := 35) dX5_isOfPrintOf_35 rfl rfl
theorem dX5_standing_0 : decode cX5_standing 0 = .ok (.aload_n 0, 1) := by decide +kernel
theorem dX5_standing_1 : decode cX5_standing 1 = .ok (.aload_n 1, 1) := by decide +kernel
theorem dX5_standing_2 : decode cX5_standing 2 = .ok (.invokevirtual 53, 3) := by decide +kernel
theorem dX5_standing_5 : decode cX5_standing 5 = .ok (.istore_n 2, 1) := by decide +kernel
theorem dX5_standing_6 : decode cX5_standing 6 = .ok (.aload_n 0, 1) := by decide +kernel
theorem dX5_standing_7 : decode cX5_standing 7 = .ok (.aload_n 1, 1) := by decide +kernel
theorem dX5_standing_8 : decode cX5_standing 8 = .ok (.invokevirtual 57, 3) := by decide +kernel
theorem dX5_standing_11 : decode cX5_standing 11 = .ok (.istore_n 3, 1) := by decide +kernel
theorem dX5_standing_12 : decode cX5_standing 12 = .ok (.iload_n 2, 1) := by decide +kernel
theorem dX5_standing_13 : decode cX5_standing 13 = .ok (.iconst 2, 1) := by decide +kernel
theorem dX5_standing_14 : decode cX5_standing 14 = .ok (.if_icmp .eq 8, 3) := by decide +kernel
theorem dX5_standing_17 : decode cX5_standing 17 = .ok (.iload_n 3, 1) := by decide +kernel
theorem dX5_standing_18 : decode cX5_standing 18 = .ok (.iconst 2, 1) := by decide +kernel
theorem dX5_standing_19 : decode cX5_standing 19 = .ok (.if_icmp .ne 27, 3) := by decide +kernel
theorem dX5_standing_22 : decode cX5_standing 22 = .ok (.iload_n 2, 1) := by decide +kernel
theorem dX5_standing_23 : decode cX5_standing 23 = .ok (.iconst 2, 1) := by decide +kernel
theorem dX5_standing_24 : decode cX5_standing 24 = .ok (.if_icmp .ne 8, 3) := by decide +kernel
theorem dX5_standing_27 : decode cX5_standing 27 = .ok (.bipush (-10), 2) := by decide +kernel
theorem dX5_standing_29 : decode cX5_standing 29 = .ok (.goto 4, 3) := by decide +kernel
theorem dX5_standing_32 : decode cX5_standing 32 = .ok (.iconst 0, 1) := by decide +kernel
theorem dX5_standing_33 : decode cX5_standing 33 = .ok (.iload_n 3, 1) := by decide +kernel
theorem dX5_standing_34 : decode cX5_standing 34 = .ok (.iconst 2, 1) := by decide +kernel
theorem dX5_standing_35 : decode cX5_standing 35 = .ok (.if_icmp .ne 8, 3) := by decide +kernel
theorem dX5_standing_38 : decode cX5_standing 38 = .ok (.bipush (-20), 2) := by decide +kernel
theorem dX5_standing_40 : decode cX5_standing 40 = .ok (.goto 4, 3) := by decide +kernel
theorem dX5_standing_43 : decode cX5_standing 43 = .ok (.iconst 0, 1) := by decide +kernel
theorem dX5_standing_44 : decode cX5_standing 44 = .ok (.iadd, 1) := by decide +kernel
theorem dX5_standing_45 : decode cX5_standing 45 = .ok (.ireturn, 1) := by decide +kernel
theorem dX5_standing_46 : decode cX5_standing 46 = .ok (.iload_n 2, 1) := by decide +kernel
theorem dX5_standing_47 : decode cX5_standing 47 = .ok (.ifCond .eq 12, 3) := by decide +kernel
theorem dX5_standing_50 : decode cX5_standing 50 = .ok (.iload_n 3, 1) := by decide +kernel
theorem dX5_standing_51 : decode cX5_standing 51 = .ok (.iload_n 2, 1) := by decide +kernel
theorem dX5_standing_52 : decode cX5_standing 52 = .ok (.ineg, 1) := by decide +kernel
theorem dX5_standing_53 : decode cX5_standing 53 = .ok (.if_icmp .ne 6, 3) := by decide +kernel
theorem dX5_standing_56 : decode cX5_standing 56 = .ok (.bipush (-40), 2) := by decide +kernel
theorem dX5_standing_58 : decode cX5_standing 58 = .ok (.ireturn, 1) := by decide +kernel
theorem dX5_standing_59 : decode cX5_standing 59 = .ok (.iload_n 2, 1) := by decide +kernel
theorem dX5_standing_60 : decode cX5_standing 60 = .ok (.iconst 1, 1) := by decide +kernel
theorem dX5_standing_61 : decode cX5_standing 61 = .ok (.if_icmp .ne 7, 3) := by decide +kernel
theorem dX5_standing_64 : decode cX5_standing 64 = .ok (.iconst 1, 1) := by decide +kernel
theorem dX5_standing_65 : decode cX5_standing 65 = .ok (.goto 4, 3) := by decide +kernel
theorem dX5_standing_68 : decode cX5_standing 68 = .ok (.iconst 0, 1) := by decide +kernel
theorem dX5_standing_69 : decode cX5_standing 69 = .ok (.iload_n 3, 1) := by decide +kernel
theorem dX5_standing_70 : decode cX5_standing 70 = .ok (.iconst 1, 1) := by decide +kernel
theorem dX5_standing_71 : decode cX5_standing 71 = .ok (.if_icmp .ne 7, 3) := by decide +kernel
theorem dX5_standing_74 : decode cX5_standing 74 = .ok (.iconst 2, 1) := by decide +kernel
theorem dX5_standing_75 : decode cX5_standing 75 = .ok (.goto 4, 3) := by decide +kernel
theorem dX5_standing_78 : decode cX5_standing 78 = .ok (.iconst 0, 1) := by decide +kernel
theorem dX5_standing_79 : decode cX5_standing 79 = .ok (.iadd, 1) := by decide +kernel
theorem dX5_standing_80 : decode cX5_standing 80 = .ok (.ireturn, 1) := by decide +kernel
def c_X5_standing (F : Nat) (a0 : Nat) (o1 : Option Nat) (h0 : z_Hp) : Option (Int32 × z_Hp) := (if hT h0 a0 = 5 then (bI (c_X5_byBlock F a0 o1 h0) (fun x3 h2 => (if hT h2 a0 = 5 then (bI (c_X5_byType F a0 o1 h2) (fun x5 h4 => (lt_ (fun (h7 : z_Hp) => (lt_ (fun (x9 : Int32) (h10 : z_Hp) => (if x5 = 2 then (some (x9 + (-20), h10)) else (some (x9 + 0, h10)))) (fun (j33_8 : Int32 → z_Hp → Option (Int32 × z_Hp)) => (if x3 = 2 then (j33_8 (-10) h7) else (j33_8 0 h7))))) (fun (j22_6 : z_Hp → Option (Int32 × z_Hp)) => (if x3 = 2 then (j22_6 h4) else (if x5 = 2 then (j22_6 h4) else (lt_ (fun (h12 : z_Hp) => (lt_ (fun (x14 : Int32) (h15 : z_Hp) => (if x5 = 1 then (some (x14 + 2, h15)) else (some (x14 + 0, h15)))) (fun (j69_13 : Int32 → z_Hp → Option (Int32 × z_Hp)) => (if x3 = 1 then (j69_13 1 h12) else (j69_13 0 h12))))) (fun (j59_11 : z_Hp → Option (Int32 × z_Hp)) => (if x3 = 0 then (j59_11 h4) else (if x5 = (-x3) then (some ((-40), h4)) else (j59_11 h4))))))))))) else none))) else none)
set_option maxRecDepth 20000 in
set_option maxHeartbeats 4000000 in
theorem t_X5_standing (F : Nat) (a0 : Nat) (o1 : Option Nat) (h0 : z_Hp) : z_Ct zi mi_X5_standing [vr (some a0), vr o1] h0 (c_X5_standing F a0 o1 h0) := by
  refine z_entry (by decide) (Nat.le_of_ble_eq_true rfl) [(0, vr (some a0)), (1, vr o1)] rfl ?_
  unfold c_X5_standing
  refine z_aload_n (pc := 0) dX5_standing_0 rfl 0 rfl (z_aload_n (pc := 1) dX5_standing_1 rfl 1 rfl (z_callV_I (pc := 2) (avs := [vr o1]) (st := []) rfl (q := (RX5, TX5, 11)) rfl rfl (t_X5_byBlock F a0 o1 h0) ky_X5_byBlock wm_X5_byBlock we_X5_byBlock wz_RX5_53 (rm_X5_standing_X5_byBlock) (Nat.le_of_ble_eq_true rfl) dX5_standing_2 (fun x3 h2 => (?_))))
  refine z_istore_n (pc := 5) (L' := [(0, vr (some a0)), (1, vr o1), (2, vi x3)]) dX5_standing_5 rfl (Nat.le_of_ble_eq_true rfl) rfl (z_aload_n (pc := 6) dX5_standing_6 rfl 0 rfl (z_aload_n (pc := 7) dX5_standing_7 rfl 1 rfl (z_callV_I (pc := 8) (avs := [vr o1]) (st := []) rfl (q := (RX5, TX5, 11)) rfl rfl (t_X5_byType F a0 o1 h2) ky_X5_byType wm_X5_byType we_X5_byType wz_RX5_57 (rm_X5_standing_X5_byType) (Nat.le_of_ble_eq_true rfl) dX5_standing_8 (fun x5 h4 => (?_)))))
  refine z_istore_n (pc := 11) (L' := [(0, vr (some a0)), (1, vr o1), (2, vi x3), (3, vi x5)]) dX5_standing_11 rfl (Nat.le_of_ble_eq_true rfl) rfl (z_iload_n (pc := 12) dX5_standing_12 rfl 2 rfl (z_iconst (pc := 13) dX5_standing_13 ic_2 (?_)))
  refine z_jn (P := fun (j : z_Hp → Option (Int32 × z_Hp)) => ∀ (h7 : z_Hp), z_G zi mi_X5_standing 22 [(2, vi x3), (3, vi x5)] [] h7 (j h7)) (fun h7 => ?_) (fun j22_6 qj22_6 => ?_)
  · refine z_iload_n (pc := 22) dX5_standing_22 rfl 0 rfl (z_iconst (pc := 23) dX5_standing_23 ic_2 (?_))
    refine z_jn (P := fun (j : Int32 → z_Hp → Option (Int32 × z_Hp)) => ∀ (x9 : Int32) (h10 : z_Hp), z_G zi mi_X5_standing 33 [(3, vi x5)] [vi x9] h10 (j x9 h10)) (fun x9 h10 => ?_) (fun j33_8 qj33_8 => ?_)
    · refine z_iload_n (pc := 33) dX5_standing_33 rfl 0 rfl (z_iconst (pc := 34) dX5_standing_34 ic_2 (?_))
      refine z_icmp_ne (pc := 35) (tgt := 43) dX5_standing_35 (by decide) ?_ ?_
      · refine z_iconst (pc := 43) dX5_standing_43 ic_0 (z_iadd (pc := 44) dX5_standing_44 (?_))
        exact z_iret (pc := 45) dX5_standing_45 rfl rfl
      · refine z_bipush (pc := 38) dX5_standing_38 bp_m20 (z_goto (pc := 40) (tgt := 44) dX5_standing_40 (by decide) (z_iadd (pc := 44) dX5_standing_44 (?_)))
        exact z_iret (pc := 45) dX5_standing_45 rfl rfl
    refine z_icmp_ne (pc := 24) (tgt := 32) dX5_standing_24 (by decide) ?_ ?_
    · refine z_iconst (pc := 32) dX5_standing_32 ic_0 (?_)
      exact z_sub [1] rfl (qj33_8 0 h7)
    · refine z_bipush (pc := 27) dX5_standing_27 bp_m10 (z_goto (pc := 29) (tgt := 33) dX5_standing_29 (by decide) (?_))
      exact z_sub [1] rfl (qj33_8 (-10) h7)
  refine z_icmp_eq (pc := 14) (tgt := 22) dX5_standing_14 (by decide) ?_ ?_
  · exact z_sub [2, 3] rfl (qj22_6 h4)
  · refine z_iload_n (pc := 17) dX5_standing_17 rfl 3 rfl (z_iconst (pc := 18) dX5_standing_18 ic_2 (?_))
    refine z_icmp_ne (pc := 19) (tgt := 46) dX5_standing_19 (by decide) ?_ ?_
    · refine z_iload_n (pc := 46) dX5_standing_46 rfl 2 rfl (?_)
      refine z_jn (P := fun (j : z_Hp → Option (Int32 × z_Hp)) => ∀ (h12 : z_Hp), z_G zi mi_X5_standing 59 [(2, vi x3), (3, vi x5)] [] h12 (j h12)) (fun h12 => ?_) (fun j59_11 qj59_11 => ?_)
      · refine z_iload_n (pc := 59) dX5_standing_59 rfl 0 rfl (z_iconst (pc := 60) dX5_standing_60 ic_1 (?_))
        refine z_jn (P := fun (j : Int32 → z_Hp → Option (Int32 × z_Hp)) => ∀ (x14 : Int32) (h15 : z_Hp), z_G zi mi_X5_standing 69 [(3, vi x5)] [vi x14] h15 (j x14 h15)) (fun x14 h15 => ?_) (fun j69_13 qj69_13 => ?_)
        · refine z_iload_n (pc := 69) dX5_standing_69 rfl 0 rfl (z_iconst (pc := 70) dX5_standing_70 ic_1 (?_))
          refine z_icmp_ne (pc := 71) (tgt := 78) dX5_standing_71 (by decide) ?_ ?_
          · refine z_iconst (pc := 78) dX5_standing_78 ic_0 (z_iadd (pc := 79) dX5_standing_79 (?_))
            exact z_iret (pc := 80) dX5_standing_80 rfl rfl
          · refine z_iconst (pc := 74) dX5_standing_74 ic_2 (z_goto (pc := 75) (tgt := 79) dX5_standing_75 (by decide) (z_iadd (pc := 79) dX5_standing_79 (?_)))
            exact z_iret (pc := 80) dX5_standing_80 rfl rfl
        refine z_icmp_ne (pc := 61) (tgt := 68) dX5_standing_61 (by decide) ?_ ?_
        · refine z_iconst (pc := 68) dX5_standing_68 ic_0 (?_)
          exact z_sub [1] rfl (qj69_13 0 h12)
        · refine z_iconst (pc := 64) dX5_standing_64 ic_1 (z_goto (pc := 65) (tgt := 69) dX5_standing_65 (by decide) (?_))
          exact z_sub [1] rfl (qj69_13 1 h12)
      refine z_if_eq (pc := 47) (tgt := 59) dX5_standing_47 (by decide) ?_ ?_
      · exact z_sub [2, 3] rfl (qj59_11 h4)
      · refine z_iload_n (pc := 50) dX5_standing_50 rfl 3 rfl (z_iload_n (pc := 51) dX5_standing_51 rfl 2 rfl (z_ineg (pc := 52) dX5_standing_52 (?_)))
        refine z_icmp_ne (pc := 53) (tgt := 59) dX5_standing_53 (by decide) ?_ ?_
        · exact z_sub [2, 3] rfl (qj59_11 h4)
        · refine z_bipush (pc := 56) dX5_standing_56 bp_m40 (?_)
          exact z_iret (pc := 58) dX5_standing_58 rfl rfl
    · exact z_sub [2, 3] rfl (qj22_6 h4)
theorem dJ9_max_f86c9_0 : decode cJ9_max_f86c9 0 = .ok (.lload_n 0, 1) := by decide +kernel
theorem dJ9_max_f86c9_1 : decode cJ9_max_f86c9 1 = .ok (.lload_n 2, 1) := by decide +kernel
theorem dJ9_max_f86c9_2 : decode cJ9_max_f86c9 2 = .ok (.lcmp, 1) := by decide +kernel
theorem dJ9_max_f86c9_3 : decode cJ9_max_f86c9 3 = .ok (.ifCond .lt 7, 3) := by decide +kernel
theorem dJ9_max_f86c9_6 : decode cJ9_max_f86c9 6 = .ok (.lload_n 0, 1) := by decide +kernel
theorem dJ9_max_f86c9_7 : decode cJ9_max_f86c9 7 = .ok (.goto 4, 3) := by decide +kernel
theorem dJ9_max_f86c9_10 : decode cJ9_max_f86c9 10 = .ok (.lload_n 2, 1) := by decide +kernel
theorem dJ9_max_f86c9_11 : decode cJ9_max_f86c9 11 = .ok (.lreturn, 1) := by decide +kernel
def c_J9_max_f86c9 (F : Nat) (y1 : Int64) (y2 : Int64) (h0 : z_Hp) : Option (Int64 × z_Hp) := (if (lg_cmp y1 y2) < 0 then (some (y2, h0)) else (some (y1, h0)))
set_option maxRecDepth 20000 in
set_option maxHeartbeats 4000000 in
theorem t_J9_max_f86c9 (F : Nat) (y1 : Int64) (y2 : Int64) (h0 : z_Hp) : z_Ct zl mi_J9_max_f86c9 [vl y1, vl y2] h0 (c_J9_max_f86c9 F y1 y2 h0) := by
  refine z_entryF pf_maxl (Nat.le_of_ble_eq_true rfl) [(0, vl y1), (2, vl y2)] rfl ?_
  unfold c_J9_max_f86c9
  refine z_lload_n (pc := 0) dJ9_max_f86c9_0 rfl 0 rfl (z_lload_n (pc := 1) dJ9_max_f86c9_1 rfl 1 rfl (z_lcmp (pc := 2) dJ9_max_f86c9_2 (?_)))
  refine z_if_lt (pc := 3) (tgt := 10) dJ9_max_f86c9_3 (by decide) ?_ ?_
  · refine z_lload_n (pc := 10) dJ9_max_f86c9_10 rfl 1 rfl (?_)
    exact z_lret (pc := 11) dJ9_max_f86c9_11 rfl
  · refine z_lload_n (pc := 6) dJ9_max_f86c9_6 rfl 0 rfl (z_goto (pc := 7) (tgt := 11) dJ9_max_f86c9_7 (by decide) (?_))
    exact z_lret (pc := 11) dJ9_max_f86c9_11 rfl
theorem dX5_cutOff_0 : decode cX5_cutOff 0 = .ok (.lconst 0, 1) := by decide +kernel
theorem dX5_cutOff_1 : decode cX5_cutOff 1 = .ok (.lstore_n 2, 1) := by decide +kernel
theorem dX5_cutOff_2 : decode cX5_cutOff 2 = .ok (.iconst 0, 1) := by decide +kernel
theorem dX5_cutOff_3 : decode cX5_cutOff 3 = .ok (.istore 4, 2) := by decide +kernel
theorem dX5_cutOff_5 : decode cX5_cutOff 5 = .ok (.iload 4, 2) := by decide +kernel
theorem dX5_cutOff_7 : decode cX5_cutOff 7 = .ok (.aload_n 0, 1) := by decide +kernel
theorem dX5_cutOff_8 : decode cX5_cutOff 8 = .ok (.getfield 33, 3) := by decide +kernel
theorem dX5_cutOff_11 : decode cX5_cutOff 11 = .ok (.arraylength, 1) := by decide +kernel
theorem dX5_cutOff_12 : decode cX5_cutOff 12 = .ok (.if_icmp .ge 67, 3) := by decide +kernel
theorem dX5_cutOff_15 : decode cX5_cutOff 15 = .ok (.iload 4, 2) := by decide +kernel
theorem dX5_cutOff_17 : decode cX5_cutOff 17 = .ok (.aload_n 1, 1) := by decide +kernel
theorem dX5_cutOff_18 : decode cX5_cutOff 18 = .ok (.getfield 33, 3) := by decide +kernel
theorem dX5_cutOff_21 : decode cX5_cutOff 21 = .ok (.arraylength, 1) := by decide +kernel
theorem dX5_cutOff_22 : decode cX5_cutOff 22 = .ok (.if_icmp .ge 57, 3) := by decide +kernel
theorem dX5_cutOff_25 : decode cX5_cutOff 25 = .ok (.aload_n 0, 1) := by decide +kernel
theorem dX5_cutOff_26 : decode cX5_cutOff 26 = .ok (.getfield 33, 3) := by decide +kernel
theorem dX5_cutOff_29 : decode cX5_cutOff 29 = .ok (.iload 4, 2) := by decide +kernel
theorem dX5_cutOff_31 : decode cX5_cutOff 31 = .ok (.iaload, 1) := by decide +kernel
theorem dX5_cutOff_32 : decode cX5_cutOff 32 = .ok (.i2l, 1) := by decide +kernel
theorem dX5_cutOff_33 : decode cX5_cutOff 33 = .ok (.aload_n 1, 1) := by decide +kernel
theorem dX5_cutOff_34 : decode cX5_cutOff 34 = .ok (.getfield 33, 3) := by decide +kernel
theorem dX5_cutOff_37 : decode cX5_cutOff 37 = .ok (.iload 4, 2) := by decide +kernel
theorem dX5_cutOff_39 : decode cX5_cutOff 39 = .ok (.iaload, 1) := by decide +kernel
theorem dX5_cutOff_40 : decode cX5_cutOff 40 = .ok (.i2l, 1) := by decide +kernel
theorem dX5_cutOff_41 : decode cX5_cutOff 41 = .ok (.ladd, 1) := by decide +kernel
theorem dX5_cutOff_42 : decode cX5_cutOff 42 = .ok (.aload_n 0, 1) := by decide +kernel
theorem dX5_cutOff_43 : decode cX5_cutOff 43 = .ok (.getfield 33, 3) := by decide +kernel
theorem dX5_cutOff_46 : decode cX5_cutOff 46 = .ok (.iconst 0, 1) := by decide +kernel
theorem dX5_cutOff_47 : decode cX5_cutOff 47 = .ok (.iaload, 1) := by decide +kernel
theorem dX5_cutOff_48 : decode cX5_cutOff 48 = .ok (.i2l, 1) := by decide +kernel
theorem dX5_cutOff_49 : decode cX5_cutOff 49 = .ok (.lsub, 1) := by decide +kernel
theorem dX5_cutOff_50 : decode cX5_cutOff 50 = .ok (.aload_n 1, 1) := by decide +kernel
theorem dX5_cutOff_51 : decode cX5_cutOff 51 = .ok (.getfield 33, 3) := by decide +kernel
theorem dX5_cutOff_54 : decode cX5_cutOff 54 = .ok (.iconst 0, 1) := by decide +kernel
theorem dX5_cutOff_55 : decode cX5_cutOff 55 = .ok (.iaload, 1) := by decide +kernel
theorem dX5_cutOff_56 : decode cX5_cutOff 56 = .ok (.i2l, 1) := by decide +kernel
theorem dX5_cutOff_57 : decode cX5_cutOff 57 = .ok (.lsub, 1) := by decide +kernel
theorem dX5_cutOff_58 : decode cX5_cutOff 58 = .ok (.lstore 5, 2) := by decide +kernel
theorem dX5_cutOff_60 : decode cX5_cutOff 60 = .ok (.lload_n 2, 1) := by decide +kernel
theorem dX5_cutOff_61 : decode cX5_cutOff 61 = .ok (.lload 5, 2) := by decide +kernel
theorem dX5_cutOff_63 : decode cX5_cutOff 63 = .ok (.lload 5, 2) := by decide +kernel
theorem dX5_cutOff_65 : decode cX5_cutOff 65 = .ok (.lneg, 1) := by decide +kernel
theorem dX5_cutOff_66 : decode cX5_cutOff 66 = .ok (.invokestatic 64, 3) := by decide +kernel
theorem dX5_cutOff_69 : decode cX5_cutOff 69 = .ok (.invokestatic 64, 3) := by decide +kernel
theorem dX5_cutOff_72 : decode cX5_cutOff 72 = .ok (.lstore_n 2, 1) := by decide +kernel
theorem dX5_cutOff_73 : decode cX5_cutOff 73 = .ok (.iinc 4 1, 3) := by decide +kernel
theorem dX5_cutOff_76 : decode cX5_cutOff 76 = .ok (.goto (-71), 3) := by decide +kernel
theorem dX5_cutOff_79 : decode cX5_cutOff 79 = .ok (.lload_n 2, 1) := by decide +kernel
theorem dX5_cutOff_80 : decode cX5_cutOff 80 = .ok (.lreturn, 1) := by decide +kernel
def c_X5_cutOff_L5 (F : Nat) (a2 : Nat) (o3 : Option Nat) : Nat → Int64 → Int32 → z_Hp → Option (Int64 × z_Hp)
  | 0, _, _, _ => none
  | n + 1, y4, x5, h6 => (if hT h6 a2 = 5 then (lt_ (hR h6 a2 4) (fun o7 => (nn o7 (fun a8 => (if okL h6 a8 = true then (if (nI (hN h6 a8)) ≤ x5 then (some (y4, h6)) else (nn o3 (fun a9 => (if hT h6 a9 = 5 then (lt_ (hR h6 a9 4) (fun o10 => (nn o10 (fun a11 => (if okL h6 a11 = true then (if (nI (hN h6 a11)) ≤ x5 then (some (y4, h6)) else (if hT h6 a2 = 5 then (lt_ (hR h6 a2 4) (fun o12 => (nn o12 (fun a13 => (if okA h6 a13 20 x5 = true then (if hT h6 a9 = 5 then (lt_ (hR h6 a9 4) (fun o14 => (nn o14 (fun a15 => (if okA h6 a15 20 x5 = true then (if hT h6 a2 = 5 then (lt_ (hR h6 a2 4) (fun o16 => (nn o16 (fun a17 => (if okA h6 a17 20 0 = true then (if hT h6 a9 = 5 then (lt_ (hR h6 a9 4) (fun o18 => (nn o18 (fun a19 => (if okA h6 a19 20 0 = true then (lt_ (((((hI h6 a13 (ix x5) : Int32).toInt64) + ((hI h6 a15 (ix x5) : Int32).toInt64)) - ((hI h6 a17 (ix 0) : Int32).toInt64)) - ((hI h6 a19 (ix 0) : Int32).toInt64)) (fun y20 => (bL (c_J9_max_f86c9 F y20 (-y20) h6) (fun y22 h21 => (bL (c_J9_max_f86c9 F y4 y22 h21) (fun y24 h23 => (lt_ (x5 + 1) (fun x25 => (c_X5_cutOff_L5 F a2 o3 n y24 x25 h23))))))))) else none))))) else none) else none))))) else none) else none))))) else none) else none))))) else none)) else none))))) else none)))) else none))))) else none)
def c_X5_cutOff (F : Nat) (a0 : Nat) (o1 : Option Nat) (h0 : z_Hp) : Option (Int64 × z_Hp) := (c_X5_cutOff_L5 F a0 o1 F 0 0 h0)
set_option maxRecDepth 20000 in
set_option maxHeartbeats 4000000 in
theorem g_X5_cutOff_L5 (F : Nat) (a2 : Nat) (o3 : Option Nat) : ∀ (n : Nat) (y4 : Int64) (x5 : Int32) (h6 : z_Hp), z_G zl mi_X5_cutOff 5 [(0, vr (some a2)), (1, vr o3), (2, vl y4), (4, vi x5)] [] h6 (c_X5_cutOff_L5 F a2 o3 n y4 x5 h6) := by
  intro n
  induction n with
  | zero => intro y4 x5 h6; rw [c_X5_cutOff_L5]; exact z_none
  | succ n ih =>
    intro y4 x5 h6
    rw [c_X5_cutOff_L5]
    refine z_iload (pc := 5) dX5_cutOff_5 3 rfl (z_aload_n (pc := 7) dX5_cutOff_7 rfl 0 rfl (z_getRl (pc := 8) fl_RX5_33 rfl dX5_cutOff_8 (fun o7 => (?_))))
    refine z_nn (fun a8 ea8 => ?_)
    subst ea8
    refine z_alen (pc := 11) dX5_cutOff_11 (?_)
    refine z_icmp_ge (pc := 12) (tgt := 79) dX5_cutOff_12 (by decide) ?_ ?_
    · refine z_lload_n (pc := 79) dX5_cutOff_79 rfl 2 rfl (?_)
      exact z_lret (pc := 80) dX5_cutOff_80 rfl
    · refine z_iload (pc := 15) dX5_cutOff_15 3 rfl (z_aload_n (pc := 17) dX5_cutOff_17 rfl 1 rfl (?_))
      refine z_nn (fun a9 ea9 => ?_)
      subst ea9
      refine z_getRl (pc := 18) fl_RX5_33 rfl dX5_cutOff_18 (fun o10 => (?_))
      refine z_nn (fun a11 ea11 => ?_)
      subst ea11
      refine z_alen (pc := 21) dX5_cutOff_21 (?_)
      refine z_icmp_ge (pc := 22) (tgt := 79) dX5_cutOff_22 (by decide) ?_ ?_
      · refine z_lload_n (pc := 79) dX5_cutOff_79 rfl 2 rfl (?_)
        exact z_lret (pc := 80) dX5_cutOff_80 rfl
      · refine z_aload_n (pc := 25) dX5_cutOff_25 rfl 0 rfl (z_getRl (pc := 26) fl_RX5_33 rfl dX5_cutOff_26 (fun o12 => (z_iload (pc := 29) dX5_cutOff_29 3 rfl (?_))))
        refine z_nn (fun a13 ea13 => ?_)
        subst ea13
        refine z_iaload (pc := 31) dX5_cutOff_31 (z_i2l (pc := 32) dX5_cutOff_32 (z_aload_n (pc := 33) dX5_cutOff_33 rfl 1 rfl (z_getRl (pc := 34) fl_RX5_33 rfl dX5_cutOff_34 (fun o14 => (z_iload (pc := 37) dX5_cutOff_37 3 rfl (?_))))))
        refine z_nn (fun a15 ea15 => ?_)
        subst ea15
        refine z_iaload (pc := 39) dX5_cutOff_39 (z_i2l (pc := 40) dX5_cutOff_40 (z_ladd (pc := 41) dX5_cutOff_41 (z_aload_n (pc := 42) dX5_cutOff_42 rfl 0 rfl (z_getRl (pc := 43) fl_RX5_33 rfl dX5_cutOff_43 (fun o16 => (z_iconst (pc := 46) dX5_cutOff_46 ic_0 (?_)))))))
        refine z_nn (fun a17 ea17 => ?_)
        subst ea17
        refine z_iaload (pc := 47) dX5_cutOff_47 (z_i2l (pc := 48) dX5_cutOff_48 (z_lsub (pc := 49) dX5_cutOff_49 (z_aload_n (pc := 50) dX5_cutOff_50 rfl 1 rfl (z_getRl (pc := 51) fl_RX5_33 rfl dX5_cutOff_51 (fun o18 => (z_iconst (pc := 54) dX5_cutOff_54 ic_0 (?_)))))))
        refine z_nn (fun a19 ea19 => ?_)
        subst ea19
        refine z_iaload (pc := 55) dX5_cutOff_55 (z_i2l (pc := 56) dX5_cutOff_56 (z_lsub (pc := 57) dX5_cutOff_57 (z_lstorel (pc := 58) (L' := fun y20 => [(0, vr (some a2)), (1, vr (some a9)), (2, vl y4), (4, vi x5), (5, vl y20)]) dX5_cutOff_58 (Nat.le_of_ble_eq_true rfl) (fun _ => rfl) (fun y20 => (z_lload_n (pc := 60) dX5_cutOff_60 rfl 2 rfl (z_lload (pc := 61) dX5_cutOff_61 4 rfl (z_lload (pc := 63) dX5_cutOff_63 4 rfl (z_lneg (pc := 65) dX5_cutOff_65 (?_)))))))))
        refine z_callS_L (pc := 66) (avs := [vl y20, vl (-y20)]) (st := [vl y4]) rfl (t_J9_max_f86c9 F y20 (-y20) h6) ky_J9_max_f86c9 ws_J9_max_f86c9 wz_RX5_64 (rm_X5_cutOff_J9_max_f86c9) (Nat.le_of_ble_eq_true rfl) dX5_cutOff_66 (fun y22 h21 => (?_))
        refine z_callS_L (pc := 69) (avs := [vl y4, vl y22]) (st := []) rfl (t_J9_max_f86c9 F y4 y22 h21) ky_J9_max_f86c9 ws_J9_max_f86c9 wz_RX5_64 (rm_X5_cutOff_J9_max_f86c9) (Nat.le_of_ble_eq_true rfl) dX5_cutOff_69 (fun y24 h23 => (?_))
        refine z_lstore_n (pc := 72) (L' := [(0, vr (some a2)), (1, vr (some a9)), (2, vl y24), (4, vi x5), (5, vl y20)]) dX5_cutOff_72 rfl (Nat.le_of_ble_eq_true rfl) rfl (z_iincl (pc := 73) (L' := fun x25 => [(0, vr (some a2)), (1, vr (some a9)), (2, vl y24), (4, vi x25), (5, vl y20)]) dX5_cutOff_73 3 rfl ic_1 (Nat.le_of_ble_eq_true rfl) (fun _ => rfl) (fun x25 => (z_goto (pc := 76) (tgt := 5) dX5_cutOff_76 (by decide) (?_))))
        exact z_sub [0, 1, 2, 3] rfl (ih y24 x25 h23)
set_option maxRecDepth 20000 in
set_option maxHeartbeats 4000000 in
theorem t_X5_cutOff (F : Nat) (a0 : Nat) (o1 : Option Nat) (h0 : z_Hp) : z_Ct zl mi_X5_cutOff [vr (some a0), vr o1] h0 (c_X5_cutOff F a0 o1 h0) := by
  refine z_entry (by decide) (Nat.le_of_ble_eq_true rfl) [(0, vr (some a0)), (1, vr o1)] rfl ?_
  unfold c_X5_cutOff
  refine z_lconst (pc := 0) dX5_cutOff_0 lc_0 (z_lstore_n (pc := 1) (L' := [(0, vr (some a0)), (1, vr o1), (2, vl 0)]) dX5_cutOff_1 rfl (Nat.le_of_ble_eq_true rfl) rfl (z_iconst (pc := 2) dX5_cutOff_2 ic_0 (z_istore (pc := 3) (L' := [(0, vr (some a0)), (1, vr o1), (2, vl 0), (4, vi 0)]) dX5_cutOff_3 (Nat.le_of_ble_eq_true rfl) rfl (?_))))
  refine g_X5_cutOff_L5 F a0 o1 F 0 0 h0
theorem dX6_init_0 : decode cX6_init 0 = .ok (.aload_n 0, 1) := by decide +kernel
theorem dX6_init_1 : decode cX6_init 1 = .ok (.invokespecial 3, 3) := by decide +kernel
theorem dX6_init_4 : decode cX6_init 4 = .ok (.aload_n 0, 1) := by decide +kernel
theorem dX6_init_5 : decode cX6_init 5 = .ok (.bipush 20, 2) := by decide +kernel
theorem dX6_init_7 : decode cX6_init 7 = .ok (.anewarray 9, 3) := by decide +kernel
theorem dX6_init_10 : decode cX6_init 10 = .ok (.putfield 11, 3) := by decide +kernel
theorem dX6_init_13 : decode cX6_init 13 = .ok (.return_, 1) := by decide +kernel
def c_X6_init (F : Nat) (a0 : Nat) (h0 : z_Hp) : Option (z_Hp) := (if inb 20 100000 = true then (nwo h0 26 (ix 20) (fun a1 h2 => (if hT h2 a0 = 6 then (lt_ (sR h2 a0 0 (some a1)) (fun h3 => (some h3))) else none))) else none)
set_option maxRecDepth 20000 in
set_option maxHeartbeats 4000000 in
theorem t_X6_init (F : Nat) (a0 : Nat) (h0 : z_Hp) : z_Ct zv mi_X6_init [vr (some a0)] h0 (c_X6_init F a0 h0) := by
  refine z_entry (by decide) (Nat.le_of_ble_eq_true rfl) [(0, vr (some a0))] rfl ?_
  unfold c_X6_init
  refine z_aload_n (pc := 0) dX6_init_0 rfl 0 rfl (z_objinit (pc := 1) wo_RX6_3 wo_im wo_cd (Nat.le_of_ble_eq_true rfl) (Nat.le_of_ble_eq_true rfl) (Nat.le_of_ble_eq_true rfl) dX6_init_1 (z_aload_n (pc := 4) dX6_init_4 rfl 0 rfl (z_bipush (pc := 5) dX6_init_5 bp_20 (z_anewarrl (pc := 7) 26 (by decide) wl_RX6_9 dX6_init_7 (fun a1 h2 => (z_putRl (pc := 10) fl_RX6_11 fin_X6_init_6_0 rfl dX6_init_10 (fun h3 => (?_))))))))
  exact z_vret (pc := 13) dX6_init_13 rfl
theorem dX6_add_0 : decode cX6_add 0 = .ok (.aload_n 0, 1) := by decide +kernel
theorem dX6_add_1 : decode cX6_add 1 = .ok (.getfield 11, 3) := by decide +kernel
theorem dX6_add_4 : decode cX6_add 4 = .ok (.aload_n 0, 1) := by decide +kernel
theorem dX6_add_5 : decode cX6_add 5 = .ok (.getfield 17, 3) := by decide +kernel
theorem dX6_add_8 : decode cX6_add 8 = .ok (.aload_n 1, 1) := by decide +kernel
theorem dX6_add_9 : decode cX6_add 9 = .ok (.aastore, 1) := by decide +kernel
theorem dX6_add_10 : decode cX6_add 10 = .ok (.aload_n 0, 1) := by decide +kernel
theorem dX6_add_11 : decode cX6_add 11 = .ok (.dup, 1) := by decide +kernel
theorem dX6_add_12 : decode cX6_add 12 = .ok (.getfield 17, 3) := by decide +kernel
theorem dX6_add_15 : decode cX6_add 15 = .ok (.dup_x1, 1) := by decide +kernel
theorem dX6_add_16 : decode cX6_add 16 = .ok (.iconst 1, 1) := by decide +kernel
theorem dX6_add_17 : decode cX6_add 17 = .ok (.iadd, 1) := by decide +kernel
theorem dX6_add_18 : decode cX6_add 18 = .ok (.putfield 17, 3) := by decide +kernel
theorem dX6_add_21 : decode cX6_add 21 = .ok (.ireturn, 1) := by decide +kernel
def c_X6_add (F : Nat) (a0 : Nat) (o1 : Option Nat) (h0 : z_Hp) : Option (Int32 × z_Hp) := (if hT h0 a0 = 6 then (lt_ (hR h0 a0 0) (fun o2 => (if hT h0 a0 = 6 then (nn o2 (fun a3 => (if okA h0 a3 26 (hI h0 a0 1) = true ∧ okS h0 26 o1 = true then (lt_ (sR h0 a3 (ix (hI h0 a0 1)) o1) (fun h4 => (if hT h4 a0 = 6 then (if hT h4 a0 = 6 then (lt_ (sI h4 a0 1 ((hI h4 a0 1) + 1)) (fun h5 => (some (hI h4 a0 1, h5)))) else none) else none))) else none))) else none))) else none)
set_option maxRecDepth 20000 in
set_option maxHeartbeats 4000000 in
theorem t_X6_add (F : Nat) (a0 : Nat) (o1 : Option Nat) (h0 : z_Hp) : z_Ct zi mi_X6_add [vr (some a0), vr o1] h0 (c_X6_add F a0 o1 h0) := by
  refine z_entry (by decide) (Nat.le_of_ble_eq_true rfl) [(0, vr (some a0)), (1, vr o1)] rfl ?_
  unfold c_X6_add
  refine z_aload_n (pc := 0) dX6_add_0 rfl 0 rfl (z_getRl (pc := 1) fl_RX6_11 rfl dX6_add_1 (fun o2 => (z_aload_n (pc := 4) dX6_add_4 rfl 0 rfl (z_getI (pc := 5) fl_RX6_17 rfl dX6_add_5 (z_aload_n (pc := 8) dX6_add_8 rfl 1 rfl (?_))))))
  refine z_nn (fun a3 ea3 => ?_)
  subst ea3
  refine z_aastorel (pc := 9) 26 (by decide) dX6_add_9 (fun h4 => (z_aload_n (pc := 10) dX6_add_10 rfl 0 rfl (z_dup (pc := 11) dX6_add_11 rfl (z_getI (pc := 12) fl_RX6_17 rfl dX6_add_12 (z_dup_x1 (pc := 15) dX6_add_15 rfl rfl (z_iconst (pc := 16) dX6_add_16 ic_1 (z_iadd (pc := 17) dX6_add_17 (z_putIl (pc := 18) fl_RX6_17 (fin_X_6_1 _) rfl dX6_add_18 (fun h5 => (?_))))))))))
  exact z_iret (pc := 21) dX6_add_21 rfl rfl
theorem dX6_withBlock_0 : decode cX6_withBlock 0 = .ok (.iconst 0, 1) := by decide +kernel
theorem dX6_withBlock_1 : decode cX6_withBlock 1 = .ok (.istore_n 2, 1) := by decide +kernel
theorem dX6_withBlock_2 : decode cX6_withBlock 2 = .ok (.iconst 0, 1) := by decide +kernel
theorem dX6_withBlock_3 : decode cX6_withBlock 3 = .ok (.istore_n 3, 1) := by decide +kernel
theorem dX6_withBlock_4 : decode cX6_withBlock 4 = .ok (.iload_n 3, 1) := by decide +kernel
theorem dX6_withBlock_5 : decode cX6_withBlock 5 = .ok (.aload_n 0, 1) := by decide +kernel
theorem dX6_withBlock_6 : decode cX6_withBlock 6 = .ok (.getfield 17, 3) := by decide +kernel
theorem dX6_withBlock_9 : decode cX6_withBlock 9 = .ok (.if_icmp .ge 25, 3) := by decide +kernel
theorem dX6_withBlock_12 : decode cX6_withBlock 12 = .ok (.aload_n 0, 1) := by decide +kernel
theorem dX6_withBlock_13 : decode cX6_withBlock 13 = .ok (.getfield 11, 3) := by decide +kernel
theorem dX6_withBlock_16 : decode cX6_withBlock 16 = .ok (.iload_n 3, 1) := by decide +kernel
theorem dX6_withBlock_17 : decode cX6_withBlock 17 = .ok (.aaload, 1) := by decide +kernel
theorem dX6_withBlock_18 : decode cX6_withBlock 18 = .ok (.getfield 21, 3) := by decide +kernel
theorem dX6_withBlock_21 : decode cX6_withBlock 21 = .ok (.iload_n 1, 1) := by decide +kernel
theorem dX6_withBlock_22 : decode cX6_withBlock 22 = .ok (.if_icmp .ne 6, 3) := by decide +kernel
theorem dX6_withBlock_25 : decode cX6_withBlock 25 = .ok (.iinc 2 1, 3) := by decide +kernel
theorem dX6_withBlock_28 : decode cX6_withBlock 28 = .ok (.iinc 3 1, 3) := by decide +kernel
theorem dX6_withBlock_31 : decode cX6_withBlock 31 = .ok (.goto (-27), 3) := by decide +kernel
theorem dX6_withBlock_34 : decode cX6_withBlock 34 = .ok (.iload_n 2, 1) := by decide +kernel
theorem dX6_withBlock_35 : decode cX6_withBlock 35 = .ok (.ireturn, 1) := by decide +kernel
def c_X6_withBlock_L4 (F : Nat) (a2 : Nat) (x3 : Int32) : Nat → Int32 → Int32 → z_Hp → Option (Int32 × z_Hp)
  | 0, _, _, _ => none
  | n + 1, x4, x5, h6 => (if hT h6 a2 = 6 then (if (hI h6 a2 1) ≤ x5 then (some (x4, h6)) else (if hT h6 a2 = 6 then (lt_ (hR h6 a2 0) (fun o7 => (nn o7 (fun a8 => (if okA h6 a8 26 x5 = true then (lt_ (hR h6 a8 (ix x5)) (fun o9 => (nn o9 (fun a10 => (if hT h6 a10 = 5 then (lt_ (fun (x12 : Int32) (h13 : z_Hp) => (lt_ (x5 + 1) (fun x14 => (c_X6_withBlock_L4 F a2 x3 n x12 x14 h13)))) (fun (j28_11 : Int32 → z_Hp → Option (Int32 × z_Hp)) => (if (hI h6 a10 5) = x3 then (lt_ (x4 + 1) (fun x15 => (j28_11 x15 h6))) else (j28_11 x4 h6)))) else none))))) else none))))) else none)) else none)
def c_X6_withBlock (F : Nat) (a0 : Nat) (x1 : Int32) (h0 : z_Hp) : Option (Int32 × z_Hp) := (c_X6_withBlock_L4 F a0 x1 F 0 0 h0)
set_option maxRecDepth 20000 in
set_option maxHeartbeats 4000000 in
theorem g_X6_withBlock_L4 (F : Nat) (a2 : Nat) (x3 : Int32) : ∀ (n : Nat) (x4 : Int32) (x5 : Int32) (h6 : z_Hp), z_G zi mi_X6_withBlock 4 [(0, vr (some a2)), (1, vi x3), (2, vi x4), (3, vi x5)] [] h6 (c_X6_withBlock_L4 F a2 x3 n x4 x5 h6) := by
  intro n
  induction n with
  | zero => intro x4 x5 h6; rw [c_X6_withBlock_L4]; exact z_none
  | succ n ih =>
    intro x4 x5 h6
    rw [c_X6_withBlock_L4]
    refine z_iload_n (pc := 4) dX6_withBlock_4 rfl 3 rfl (z_aload_n (pc := 5) dX6_withBlock_5 rfl 0 rfl (z_getI (pc := 6) fl_RX6_17 rfl dX6_withBlock_6 (?_)))
    refine z_icmp_ge (pc := 9) (tgt := 34) dX6_withBlock_9 (by decide) ?_ ?_
    · refine z_iload_n (pc := 34) dX6_withBlock_34 rfl 2 rfl (?_)
      exact z_iret (pc := 35) dX6_withBlock_35 rfl rfl
    · refine z_aload_n (pc := 12) dX6_withBlock_12 rfl 0 rfl (z_getRl (pc := 13) fl_RX6_11 rfl dX6_withBlock_13 (fun o7 => (z_iload_n (pc := 16) dX6_withBlock_16 rfl 3 rfl (?_))))
      refine z_nn (fun a8 ea8 => ?_)
      subst ea8
      refine z_aaloadl (pc := 17) 26 (by decide) dX6_withBlock_17 (fun o9 => (?_))
      refine z_nn (fun a10 ea10 => ?_)
      subst ea10
      refine z_getI (pc := 18) fl_RX6_21 rfl dX6_withBlock_18 (z_iload_n (pc := 21) dX6_withBlock_21 rfl 1 rfl (?_))
      refine z_jn (P := fun (j : Int32 → z_Hp → Option (Int32 × z_Hp)) => ∀ (x12 : Int32) (h13 : z_Hp), z_G zi mi_X6_withBlock 28 [(0, vr (some a2)), (1, vi x3), (2, vi x12), (3, vi x5)] [] h13 (j x12 h13)) (fun x12 h13 => ?_) (fun j28_11 qj28_11 => ?_)
      · refine z_iincl (pc := 28) (L' := fun x14 => [(0, vr (some a2)), (1, vi x3), (2, vi x12), (3, vi x14)]) dX6_withBlock_28 3 rfl ic_1 (Nat.le_of_ble_eq_true rfl) (fun _ => rfl) (fun x14 => (z_goto (pc := 31) (tgt := 4) dX6_withBlock_31 (by decide) (?_)))
        exact ih x12 x14 h13
      refine z_icmp_ne (pc := 22) (tgt := 28) dX6_withBlock_22 (by decide) ?_ ?_
      · exact qj28_11 x4 h6
      · refine z_iincl (pc := 25) (L' := fun x15 => [(0, vr (some a2)), (1, vi x3), (2, vi x15), (3, vi x5)]) dX6_withBlock_25 2 rfl ic_1 (Nat.le_of_ble_eq_true rfl) (fun _ => rfl) (fun x15 => (?_))
        exact qj28_11 x15 h6
set_option maxRecDepth 20000 in
set_option maxHeartbeats 4000000 in
theorem t_X6_withBlock (F : Nat) (a0 : Nat) (x1 : Int32) (h0 : z_Hp) : z_Ct zi mi_X6_withBlock [vr (some a0), vi x1] h0 (c_X6_withBlock F a0 x1 h0) := by
  refine z_entry (by decide) (Nat.le_of_ble_eq_true rfl) [(0, vr (some a0)), (1, vi x1)] rfl ?_
  unfold c_X6_withBlock
  refine z_iconst (pc := 0) dX6_withBlock_0 ic_0 (z_istore_n (pc := 1) (L' := [(0, vr (some a0)), (1, vi x1), (2, vi 0)]) dX6_withBlock_1 rfl (Nat.le_of_ble_eq_true rfl) rfl (z_iconst (pc := 2) dX6_withBlock_2 ic_0 (z_istore_n (pc := 3) (L' := [(0, vr (some a0)), (1, vi x1), (2, vi 0), (3, vi 0)]) dX6_withBlock_3 rfl (Nat.le_of_ble_eq_true rfl) rfl (?_))))
  refine g_X6_withBlock_L4 F a0 x1 F 0 0 h0
theorem dX6_withSpan_0 : decode cX6_withSpan 0 = .ok (.iconst 0, 1) := by decide +kernel
theorem dX6_withSpan_1 : decode cX6_withSpan 1 = .ok (.istore_n 1, 1) := by decide +kernel
theorem dX6_withSpan_2 : decode cX6_withSpan 2 = .ok (.iconst 0, 1) := by decide +kernel
theorem dX6_withSpan_3 : decode cX6_withSpan 3 = .ok (.istore_n 2, 1) := by decide +kernel
theorem dX6_withSpan_4 : decode cX6_withSpan 4 = .ok (.iload_n 2, 1) := by decide +kernel
theorem dX6_withSpan_5 : decode cX6_withSpan 5 = .ok (.aload_n 0, 1) := by decide +kernel
theorem dX6_withSpan_6 : decode cX6_withSpan 6 = .ok (.getfield 17, 3) := by decide +kernel
theorem dX6_withSpan_9 : decode cX6_withSpan 9 = .ok (.if_icmp .ge 24, 3) := by decide +kernel
theorem dX6_withSpan_12 : decode cX6_withSpan 12 = .ok (.aload_n 0, 1) := by decide +kernel
theorem dX6_withSpan_13 : decode cX6_withSpan 13 = .ok (.getfield 11, 3) := by decide +kernel
theorem dX6_withSpan_16 : decode cX6_withSpan 16 = .ok (.iload_n 2, 1) := by decide +kernel
theorem dX6_withSpan_17 : decode cX6_withSpan 17 = .ok (.aaload, 1) := by decide +kernel
theorem dX6_withSpan_18 : decode cX6_withSpan 18 = .ok (.invokevirtual 24, 3) := by decide +kernel
theorem dX6_withSpan_21 : decode cX6_withSpan 21 = .ok (.ifCond .eq 6, 3) := by decide +kernel
theorem dX6_withSpan_24 : decode cX6_withSpan 24 = .ok (.iinc 1 1, 3) := by decide +kernel
theorem dX6_withSpan_27 : decode cX6_withSpan 27 = .ok (.iinc 2 1, 3) := by decide +kernel
theorem dX6_withSpan_30 : decode cX6_withSpan 30 = .ok (.goto (-26), 3) := by decide +kernel
theorem dX6_withSpan_33 : decode cX6_withSpan 33 = .ok (.iload_n 1, 1) := by decide +kernel
theorem dX6_withSpan_34 : decode cX6_withSpan 34 = .ok (.ireturn, 1) := by decide +kernel
def c_X6_withSpan_L4 (F : Nat) (a1 : Nat) : Nat → Int32 → Int32 → z_Hp → Option (Int32 × z_Hp)
  | 0, _, _, _ => none
  | n + 1, x2, x3, h4 => (if hT h4 a1 = 6 then (if (hI h4 a1 1) ≤ x3 then (some (x2, h4)) else (if hT h4 a1 = 6 then (lt_ (hR h4 a1 0) (fun o5 => (nn o5 (fun a6 => (if okA h4 a6 26 x3 = true then (lt_ (hR h4 a6 (ix x3)) (fun o7 => (nn o7 (fun a8 => (if hT h4 a8 = 5 then (bI (c_X5_hasSpan F a8 h4) (fun x10 h9 => (lt_ (fun (x12 : Int32) (h13 : z_Hp) => (lt_ (x3 + 1) (fun x14 => (c_X6_withSpan_L4 F a1 n x12 x14 h13)))) (fun (j27_11 : Int32 → z_Hp → Option (Int32 × z_Hp)) => (if x10 = 0 then (j27_11 x2 h9) else (lt_ (x2 + 1) (fun x15 => (j27_11 x15 h9)))))))) else none))))) else none))))) else none)) else none)
def c_X6_withSpan (F : Nat) (a0 : Nat) (h0 : z_Hp) : Option (Int32 × z_Hp) := (c_X6_withSpan_L4 F a0 F 0 0 h0)
set_option maxRecDepth 20000 in
set_option maxHeartbeats 4000000 in
theorem g_X6_withSpan_L4 (F : Nat) (a1 : Nat) : ∀ (n : Nat) (x2 : Int32) (x3 : Int32) (h4 : z_Hp), z_G zi mi_X6_withSpan 4 [(0, vr (some a1)), (1, vi x2), (2, vi x3)] [] h4 (c_X6_withSpan_L4 F a1 n x2 x3 h4) := by
  intro n
  induction n with
  | zero => intro x2 x3 h4; rw [c_X6_withSpan_L4]; exact z_none
  | succ n ih =>
    intro x2 x3 h4
    rw [c_X6_withSpan_L4]
    refine z_iload_n (pc := 4) dX6_withSpan_4 rfl 2 rfl (z_aload_n (pc := 5) dX6_withSpan_5 rfl 0 rfl (z_getI (pc := 6) fl_RX6_17 rfl dX6_withSpan_6 (?_)))
    refine z_icmp_ge (pc := 9) (tgt := 33) dX6_withSpan_9 (by decide) ?_ ?_
    · refine z_iload_n (pc := 33) dX6_withSpan_33 rfl 1 rfl (?_)
      exact z_iret (pc := 34) dX6_withSpan_34 rfl rfl
    · refine z_aload_n (pc := 12) dX6_withSpan_12 rfl 0 rfl (z_getRl (pc := 13) fl_RX6_11 rfl dX6_withSpan_13 (fun o5 => (z_iload_n (pc := 16) dX6_withSpan_16 rfl 2 rfl (?_))))
      refine z_nn (fun a6 ea6 => ?_)
      subst ea6
      refine z_aaloadl (pc := 17) 26 (by decide) dX6_withSpan_17 (fun o7 => (?_))
      refine z_nn (fun a8 ea8 => ?_)
      subst ea8
      refine z_callV_I (pc := 18) (avs := []) (st := []) rfl (q := (RX5, TX5, 11)) rfl rfl (t_X5_hasSpan F a8 h4) ky_X5_hasSpan wm_X5_hasSpan we_X5_hasSpan wz_RX6_24 (rm_X6_withSpan_X5_hasSpan) (Nat.le_of_ble_eq_true rfl) dX6_withSpan_18 (fun x10 h9 => (?_))
      refine z_jn (P := fun (j : Int32 → z_Hp → Option (Int32 × z_Hp)) => ∀ (x12 : Int32) (h13 : z_Hp), z_G zi mi_X6_withSpan 27 [(0, vr (some a1)), (1, vi x12), (2, vi x3)] [] h13 (j x12 h13)) (fun x12 h13 => ?_) (fun j27_11 qj27_11 => ?_)
      · refine z_iincl (pc := 27) (L' := fun x14 => [(0, vr (some a1)), (1, vi x12), (2, vi x14)]) dX6_withSpan_27 2 rfl ic_1 (Nat.le_of_ble_eq_true rfl) (fun _ => rfl) (fun x14 => (z_goto (pc := 30) (tgt := 4) dX6_withSpan_30 (by decide) (?_)))
        exact ih x12 x14 h13
      refine z_if_eq (pc := 21) (tgt := 27) dX6_withSpan_21 (by decide) ?_ ?_
      · exact qj27_11 x2 h9
      · refine z_iincl (pc := 24) (L' := fun x15 => [(0, vr (some a1)), (1, vi x15), (2, vi x3)]) dX6_withSpan_24 1 rfl ic_1 (Nat.le_of_ble_eq_true rfl) (fun _ => rfl) (fun x15 => (?_))
        exact qj27_11 x15 h9
set_option maxRecDepth 20000 in
set_option maxHeartbeats 4000000 in
theorem t_X6_withSpan (F : Nat) (a0 : Nat) (h0 : z_Hp) : z_Ct zi mi_X6_withSpan [vr (some a0)] h0 (c_X6_withSpan F a0 h0) := by
  refine z_entry (by decide) (Nat.le_of_ble_eq_true rfl) [(0, vr (some a0))] rfl ?_
  unfold c_X6_withSpan
  refine z_iconst (pc := 0) dX6_withSpan_0 ic_0 (z_istore_n (pc := 1) (L' := [(0, vr (some a0)), (1, vi 0)]) dX6_withSpan_1 rfl (Nat.le_of_ble_eq_true rfl) rfl (z_iconst (pc := 2) dX6_withSpan_2 ic_0 (z_istore_n (pc := 3) (L' := [(0, vr (some a0)), (1, vi 0), (2, vi 0)]) dX6_withSpan_3 rfl (Nat.le_of_ble_eq_true rfl) rfl (?_))))
  refine g_X6_withSpan_L4 F a0 F 0 0 h0
theorem dX6_leftOfPrint_0 : decode cX6_leftOfPrint 0 = .ok (.iconst 0, 1) := by decide +kernel
theorem dX6_leftOfPrint_1 : decode cX6_leftOfPrint 1 = .ok (.istore_n 2, 1) := by decide +kernel
theorem dX6_leftOfPrint_2 : decode cX6_leftOfPrint 2 = .ok (.iconst 0, 1) := by decide +kernel
theorem dX6_leftOfPrint_3 : decode cX6_leftOfPrint 3 = .ok (.istore_n 3, 1) := by decide +kernel
theorem dX6_leftOfPrint_4 : decode cX6_leftOfPrint 4 = .ok (.iload_n 3, 1) := by decide +kernel
theorem dX6_leftOfPrint_5 : decode cX6_leftOfPrint 5 = .ok (.aload_n 0, 1) := by decide +kernel
theorem dX6_leftOfPrint_6 : decode cX6_leftOfPrint 6 = .ok (.getfield 17, 3) := by decide +kernel
theorem dX6_leftOfPrint_9 : decode cX6_leftOfPrint 9 = .ok (.if_icmp .ge 25, 3) := by decide +kernel
theorem dX6_leftOfPrint_12 : decode cX6_leftOfPrint 12 = .ok (.aload_n 0, 1) := by decide +kernel
theorem dX6_leftOfPrint_13 : decode cX6_leftOfPrint 13 = .ok (.getfield 11, 3) := by decide +kernel
theorem dX6_leftOfPrint_16 : decode cX6_leftOfPrint 16 = .ok (.iload_n 3, 1) := by decide +kernel
theorem dX6_leftOfPrint_17 : decode cX6_leftOfPrint 17 = .ok (.aaload, 1) := by decide +kernel
theorem dX6_leftOfPrint_18 : decode cX6_leftOfPrint 18 = .ok (.aload_n 1, 1) := by decide +kernel
theorem dX6_leftOfPrint_19 : decode cX6_leftOfPrint 19 = .ok (.invokevirtual 28, 3) := by decide +kernel
theorem dX6_leftOfPrint_22 : decode cX6_leftOfPrint 22 = .ok (.ifCond .eq 6, 3) := by decide +kernel
theorem dX6_leftOfPrint_25 : decode cX6_leftOfPrint 25 = .ok (.iinc 2 1, 3) := by decide +kernel
theorem dX6_leftOfPrint_28 : decode cX6_leftOfPrint 28 = .ok (.iinc 3 1, 3) := by decide +kernel
theorem dX6_leftOfPrint_31 : decode cX6_leftOfPrint 31 = .ok (.goto (-27), 3) := by decide +kernel
theorem dX6_leftOfPrint_34 : decode cX6_leftOfPrint 34 = .ok (.iload_n 2, 1) := by decide +kernel
theorem dX6_leftOfPrint_35 : decode cX6_leftOfPrint 35 = .ok (.ireturn, 1) := by decide +kernel
def c_X6_leftOfPrint_L4 (F : Nat) (a2 : Nat) (o3 : Option Nat) : Nat → Int32 → Int32 → z_Hp → Option (Int32 × z_Hp)
  | 0, _, _, _ => none
  | n + 1, x4, x5, h6 => (if hT h6 a2 = 6 then (if (hI h6 a2 1) ≤ x5 then (some (x4, h6)) else (if hT h6 a2 = 6 then (lt_ (hR h6 a2 0) (fun o7 => (nn o7 (fun a8 => (if okA h6 a8 26 x5 = true then (lt_ (hR h6 a8 (ix x5)) (fun o9 => (nn o9 (fun a10 => (if hT h6 a10 = 5 then (bI (c_X5_isOfPrintOf F a10 o3 h6) (fun x12 h11 => (lt_ (fun (x14 : Int32) (h15 : z_Hp) => (lt_ (x5 + 1) (fun x16 => (c_X6_leftOfPrint_L4 F a2 o3 n x14 x16 h15)))) (fun (j28_13 : Int32 → z_Hp → Option (Int32 × z_Hp)) => (if x12 = 0 then (j28_13 x4 h11) else (lt_ (x4 + 1) (fun x17 => (j28_13 x17 h11)))))))) else none))))) else none))))) else none)) else none)
def c_X6_leftOfPrint (F : Nat) (a0 : Nat) (o1 : Option Nat) (h0 : z_Hp) : Option (Int32 × z_Hp) := (c_X6_leftOfPrint_L4 F a0 o1 F 0 0 h0)
set_option maxRecDepth 20000 in
set_option maxHeartbeats 4000000 in
theorem g_X6_leftOfPrint_L4 (F : Nat) (a2 : Nat) (o3 : Option Nat) : ∀ (n : Nat) (x4 : Int32) (x5 : Int32) (h6 : z_Hp), z_G zi mi_X6_leftOfPrint 4 [(0, vr (some a2)), (1, vr o3), (2, vi x4), (3, vi x5)] [] h6 (c_X6_leftOfPrint_L4 F a2 o3 n x4 x5 h6) := by
  intro n
  induction n with
  | zero => intro x4 x5 h6; rw [c_X6_leftOfPrint_L4]; exact z_none
  | succ n ih =>
    intro x4 x5 h6
    rw [c_X6_leftOfPrint_L4]
    refine z_iload_n (pc := 4) dX6_leftOfPrint_4 rfl 3 rfl (z_aload_n (pc := 5) dX6_leftOfPrint_5 rfl 0 rfl (z_getI (pc := 6) fl_RX6_17 rfl dX6_leftOfPrint_6 (?_)))
    refine z_icmp_ge (pc := 9) (tgt := 34) dX6_leftOfPrint_9 (by decide) ?_ ?_
    · refine z_iload_n (pc := 34) dX6_leftOfPrint_34 rfl 2 rfl (?_)
      exact z_iret (pc := 35) dX6_leftOfPrint_35 rfl rfl
    · refine z_aload_n (pc := 12) dX6_leftOfPrint_12 rfl 0 rfl (z_getRl (pc := 13) fl_RX6_11 rfl dX6_leftOfPrint_13 (fun o7 => (z_iload_n (pc := 16) dX6_leftOfPrint_16 rfl 3 rfl (?_))))
      refine z_nn (fun a8 ea8 => ?_)
      subst ea8
      refine z_aaloadl (pc := 17) 26 (by decide) dX6_leftOfPrint_17 (fun o9 => (z_aload_n (pc := 18) dX6_leftOfPrint_18 rfl 1 rfl (?_)))
      refine z_nn (fun a10 ea10 => ?_)
      subst ea10
      refine z_callV_I (pc := 19) (avs := [vr o3]) (st := []) rfl (q := (RX5, TX5, 11)) rfl rfl (t_X5_isOfPrintOf F a10 o3 h6) ky_X5_isOfPrintOf wm_X5_isOfPrintOf we_X5_isOfPrintOf wz_RX6_28 (rm_X6_leftOfPrint_X5_isOfPrintOf) (Nat.le_of_ble_eq_true rfl) dX6_leftOfPrint_19 (fun x12 h11 => (?_))
      refine z_jn (P := fun (j : Int32 → z_Hp → Option (Int32 × z_Hp)) => ∀ (x14 : Int32) (h15 : z_Hp), z_G zi mi_X6_leftOfPrint 28 [(0, vr (some a2)), (1, vr o3), (2, vi x14), (3, vi x5)] [] h15 (j x14 h15)) (fun x14 h15 => ?_) (fun j28_13 qj28_13 => ?_)
      · refine z_iincl (pc := 28) (L' := fun x16 => [(0, vr (some a2)), (1, vr o3), (2, vi x14), (3, vi x16)]) dX6_leftOfPrint_28 3 rfl ic_1 (Nat.le_of_ble_eq_true rfl) (fun _ => rfl) (fun x16 => (z_goto (pc := 31) (tgt := 4) dX6_leftOfPrint_31 (by decide) (?_)))
        exact ih x14 x16 h15
      refine z_if_eq (pc := 22) (tgt := 28) dX6_leftOfPrint_22 (by decide) ?_ ?_
      · exact qj28_13 x4 h11
      · refine z_iincl (pc := 25) (L' := fun x17 => [(0, vr (some a2)), (1, vr o3), (2, vi x17), (3, vi x5)]) dX6_leftOfPrint_25 2 rfl ic_1 (Nat.le_of_ble_eq_true rfl) (fun _ => rfl) (fun x17 => (?_))
        exact qj28_13 x17 h11
set_option maxRecDepth 20000 in
set_option maxHeartbeats 4000000 in
theorem t_X6_leftOfPrint (F : Nat) (a0 : Nat) (o1 : Option Nat) (h0 : z_Hp) : z_Ct zi mi_X6_leftOfPrint [vr (some a0), vr o1] h0 (c_X6_leftOfPrint F a0 o1 h0) := by
  refine z_entry (by decide) (Nat.le_of_ble_eq_true rfl) [(0, vr (some a0)), (1, vr o1)] rfl ?_
  unfold c_X6_leftOfPrint
  refine z_iconst (pc := 0) dX6_leftOfPrint_0 ic_0 (z_istore_n (pc := 1) (L' := [(0, vr (some a0)), (1, vr o1), (2, vi 0)]) dX6_leftOfPrint_1 rfl (Nat.le_of_ble_eq_true rfl) rfl (z_iconst (pc := 2) dX6_leftOfPrint_2 ic_0 (z_istore_n (pc := 3) (L' := [(0, vr (some a0)), (1, vr o1), (2, vi 0), (3, vi 0)]) dX6_leftOfPrint_3 rfl (Nat.le_of_ble_eq_true rfl) rfl (?_))))
  refine g_X6_leftOfPrint_L4 F a0 o1 F 0 0 h0
theorem dX6_isFirstOfPrint_0 : decode cX6_isFirstOfPrint 0 = .ok (.aload_n 0, 1) := by decide +kernel
theorem dX6_isFirstOfPrint_1 : decode cX6_isFirstOfPrint 1 = .ok (.getfield 11, 3) := by decide +kernel
theorem dX6_isFirstOfPrint_4 : decode cX6_isFirstOfPrint 4 = .ok (.iload_n 1, 1) := by decide +kernel
theorem dX6_isFirstOfPrint_5 : decode cX6_isFirstOfPrint 5 = .ok (.aaload, 1) := by decide +kernel
theorem dX6_isFirstOfPrint_6 : decode cX6_isFirstOfPrint 6 = .ok (.iconst 1, 1) := by decide +kernel
theorem dX6_isFirstOfPrint_7 : decode cX6_isFirstOfPrint 7 = .ok (.invokevirtual 40, 3) := by decide +kernel
theorem dX6_isFirstOfPrint_10 : decode cX6_isFirstOfPrint 10 = .ok (.ifCond .ne 5, 3) := by decide +kernel
theorem dX6_isFirstOfPrint_13 : decode cX6_isFirstOfPrint 13 = .ok (.iconst 0, 1) := by decide +kernel
theorem dX6_isFirstOfPrint_14 : decode cX6_isFirstOfPrint 14 = .ok (.ireturn, 1) := by decide +kernel
theorem dX6_isFirstOfPrint_15 : decode cX6_isFirstOfPrint 15 = .ok (.iconst 0, 1) := by decide +kernel
theorem dX6_isFirstOfPrint_16 : decode cX6_isFirstOfPrint 16 = .ok (.istore_n 2, 1) := by decide +kernel
theorem dX6_isFirstOfPrint_17 : decode cX6_isFirstOfPrint 17 = .ok (.iload_n 2, 1) := by decide +kernel
theorem dX6_isFirstOfPrint_18 : decode cX6_isFirstOfPrint 18 = .ok (.iload_n 1, 1) := by decide +kernel
theorem dX6_isFirstOfPrint_19 : decode cX6_isFirstOfPrint 19 = .ok (.if_icmp .ge 29, 3) := by decide +kernel
theorem dX6_isFirstOfPrint_22 : decode cX6_isFirstOfPrint 22 = .ok (.aload_n 0, 1) := by decide +kernel
theorem dX6_isFirstOfPrint_23 : decode cX6_isFirstOfPrint 23 = .ok (.getfield 11, 3) := by decide +kernel
theorem dX6_isFirstOfPrint_26 : decode cX6_isFirstOfPrint 26 = .ok (.iload_n 2, 1) := by decide +kernel
theorem dX6_isFirstOfPrint_27 : decode cX6_isFirstOfPrint 27 = .ok (.aaload, 1) := by decide +kernel
theorem dX6_isFirstOfPrint_28 : decode cX6_isFirstOfPrint 28 = .ok (.aload_n 0, 1) := by decide +kernel
theorem dX6_isFirstOfPrint_29 : decode cX6_isFirstOfPrint 29 = .ok (.getfield 11, 3) := by decide +kernel
theorem dX6_isFirstOfPrint_32 : decode cX6_isFirstOfPrint 32 = .ok (.iload_n 1, 1) := by decide +kernel
theorem dX6_isFirstOfPrint_33 : decode cX6_isFirstOfPrint 33 = .ok (.aaload, 1) := by decide +kernel
theorem dX6_isFirstOfPrint_34 : decode cX6_isFirstOfPrint 34 = .ok (.invokevirtual 28, 3) := by decide +kernel
theorem dX6_isFirstOfPrint_37 : decode cX6_isFirstOfPrint 37 = .ok (.ifCond .eq 5, 3) := by decide +kernel
theorem dX6_isFirstOfPrint_40 : decode cX6_isFirstOfPrint 40 = .ok (.iconst 0, 1) := by decide +kernel
theorem dX6_isFirstOfPrint_41 : decode cX6_isFirstOfPrint 41 = .ok (.ireturn, 1) := by decide +kernel
theorem dX6_isFirstOfPrint_42 : decode cX6_isFirstOfPrint 42 = .ok (.iinc 2 1, 3) := by decide +kernel
theorem dX6_isFirstOfPrint_45 : decode cX6_isFirstOfPrint 45 = .ok (.goto (-28), 3) := by decide +kernel
theorem dX6_isFirstOfPrint_48 : decode cX6_isFirstOfPrint 48 = .ok (.iconst 1, 1) := by decide +kernel
theorem dX6_isFirstOfPrint_49 : decode cX6_isFirstOfPrint 49 = .ok (.ireturn, 1) := by decide +kernel
def c_X6_isFirstOfPrint_L17 (F : Nat) (a8 : Nat) (x9 : Int32) : Nat → Int32 → z_Hp → Option (Int32 × z_Hp)
  | 0, _, _ => none
  | n + 1, x10, h11 => (if x9 ≤ x10 then (some (1, h11)) else (if hT h11 a8 = 6 then (lt_ (hR h11 a8 0) (fun o12 => (nn o12 (fun a13 => (if okA h11 a13 26 x10 = true then (lt_ (hR h11 a13 (ix x10)) (fun o14 => (if hT h11 a8 = 6 then (lt_ (hR h11 a8 0) (fun o15 => (nn o15 (fun a16 => (if okA h11 a16 26 x9 = true then (lt_ (hR h11 a16 (ix x9)) (fun o17 => (nn o14 (fun a18 => (if hT h11 a18 = 5 then (bI (c_X5_isOfPrintOf F a18 o17 h11) (fun x20 h19 => (if x20 = 0 then (lt_ (x10 + 1) (fun x21 => (c_X6_isFirstOfPrint_L17 F a8 x9 n x21 h19))) else (some (0, h19))))) else none))))) else none))))) else none))) else none))))) else none))
def c_X6_isFirstOfPrint (F : Nat) (a0 : Nat) (x1 : Int32) (h0 : z_Hp) : Option (Int32 × z_Hp) := (if hT h0 a0 = 6 then (lt_ (hR h0 a0 0) (fun o2 => (nn o2 (fun a3 => (if okA h0 a3 26 x1 = true then (lt_ (hR h0 a3 (ix x1)) (fun o4 => (nn o4 (fun a5 => (if hT h0 a5 = 5 then (bI (c_X5_isOf F a5 1 h0) (fun x7 h6 => (if x7 = 0 then (some (0, h6)) else (c_X6_isFirstOfPrint_L17 F a0 x1 F 0 h6)))) else none))))) else none))))) else none)
set_option maxRecDepth 20000 in
set_option maxHeartbeats 4000000 in
theorem g_X6_isFirstOfPrint_L17 (F : Nat) (a8 : Nat) (x9 : Int32) : ∀ (n : Nat) (x10 : Int32) (h11 : z_Hp), z_G zi mi_X6_isFirstOfPrint 17 [(0, vr (some a8)), (1, vi x9), (2, vi x10)] [] h11 (c_X6_isFirstOfPrint_L17 F a8 x9 n x10 h11) := by
  intro n
  induction n with
  | zero => intro x10 h11; rw [c_X6_isFirstOfPrint_L17]; exact z_none
  | succ n ih =>
    intro x10 h11
    rw [c_X6_isFirstOfPrint_L17]
    refine z_iload_n (pc := 17) dX6_isFirstOfPrint_17 rfl 2 rfl (z_iload_n (pc := 18) dX6_isFirstOfPrint_18 rfl 1 rfl (?_))
    refine z_icmp_ge (pc := 19) (tgt := 48) dX6_isFirstOfPrint_19 (by decide) ?_ ?_
    · refine z_iconst (pc := 48) dX6_isFirstOfPrint_48 ic_1 (?_)
      exact z_iret (pc := 49) dX6_isFirstOfPrint_49 rfl rfl
    · refine z_aload_n (pc := 22) dX6_isFirstOfPrint_22 rfl 0 rfl (z_getRl (pc := 23) fl_RX6_11 rfl dX6_isFirstOfPrint_23 (fun o12 => (z_iload_n (pc := 26) dX6_isFirstOfPrint_26 rfl 2 rfl (?_))))
      refine z_nn (fun a13 ea13 => ?_)
      subst ea13
      refine z_aaloadl (pc := 27) 26 (by decide) dX6_isFirstOfPrint_27 (fun o14 => (z_aload_n (pc := 28) dX6_isFirstOfPrint_28 rfl 0 rfl (z_getRl (pc := 29) fl_RX6_11 rfl dX6_isFirstOfPrint_29 (fun o15 => (z_iload_n (pc := 32) dX6_isFirstOfPrint_32 rfl 1 rfl (?_))))))
      refine z_nn (fun a16 ea16 => ?_)
      subst ea16
      refine z_aaloadl (pc := 33) 26 (by decide) dX6_isFirstOfPrint_33 (fun o17 => (?_))
      refine z_nn (fun a18 ea18 => ?_)
      subst ea18
      refine z_callV_I (pc := 34) (avs := [vr o17]) (st := []) rfl (q := (RX5, TX5, 11)) rfl rfl (t_X5_isOfPrintOf F a18 o17 h11) ky_X5_isOfPrintOf wm_X5_isOfPrintOf we_X5_isOfPrintOf wz_RX6_28 (rm_X6_isFirstOfPrint_X5_isOfPrintOf) (Nat.le_of_ble_eq_true rfl) dX6_isFirstOfPrint_34 (fun x20 h19 => (?_))
      refine z_if_eq (pc := 37) (tgt := 42) dX6_isFirstOfPrint_37 (by decide) ?_ ?_
      · refine z_iincl (pc := 42) (L' := fun x21 => [(0, vr (some a8)), (1, vi x9), (2, vi x21)]) dX6_isFirstOfPrint_42 2 rfl ic_1 (Nat.le_of_ble_eq_true rfl) (fun _ => rfl) (fun x21 => (z_goto (pc := 45) (tgt := 17) dX6_isFirstOfPrint_45 (by decide) (?_)))
        exact ih x21 h19
      · refine z_iconst (pc := 40) dX6_isFirstOfPrint_40 ic_0 (?_)
        exact z_iret (pc := 41) dX6_isFirstOfPrint_41 rfl rfl
set_option maxRecDepth 20000 in
set_option maxHeartbeats 4000000 in
theorem t_X6_isFirstOfPrint (F : Nat) (a0 : Nat) (x1 : Int32) (h0 : z_Hp) : z_Ct zi mi_X6_isFirstOfPrint [vr (some a0), vi x1] h0 (c_X6_isFirstOfPrint F a0 x1 h0) := by
  refine z_entry (by decide) (Nat.le_of_ble_eq_true rfl) [(0, vr (some a0)), (1, vi x1)] rfl ?_
  unfold c_X6_isFirstOfPrint
  refine z_aload_n (pc := 0) dX6_isFirstOfPrint_0 rfl 0 rfl (z_getRl (pc := 1) fl_RX6_11 rfl dX6_isFirstOfPrint_1 (fun o2 => (z_iload_n (pc := 4) dX6_isFirstOfPrint_4 rfl 1 rfl (?_))))
  refine z_nn (fun a3 ea3 => ?_)
  subst ea3
  refine z_aaloadl (pc := 5) 26 (by decide) dX6_isFirstOfPrint_5 (fun o4 => (z_iconst (pc := 6) dX6_isFirstOfPrint_6 ic_1 (?_)))
  refine z_nn (fun a5 ea5 => ?_)
  subst ea5
  refine z_callV_I (pc := 7) (avs := [vi 1]) (st := []) rfl (q := (RX5, TX5, 11)) rfl rfl (t_X5_isOf F a5 1 h0) ky_X5_isOf wm_X5_isOf we_X5_isOf wz_RX6_40 (rm_X6_isFirstOfPrint_X5_isOf) (Nat.le_of_ble_eq_true rfl) dX6_isFirstOfPrint_7 (fun x7 h6 => (?_))
  refine z_if_ne (pc := 10) (tgt := 15) dX6_isFirstOfPrint_10 (by decide) ?_ ?_
  · refine z_iconst (pc := 15) dX6_isFirstOfPrint_15 ic_0 (z_istore_n (pc := 16) (L' := [(0, vr (some a0)), (1, vi x1), (2, vi 0)]) dX6_isFirstOfPrint_16 rfl (Nat.le_of_ble_eq_true rfl) rfl (?_))
    refine g_X6_isFirstOfPrint_L17 F a0 x1 F 0 h6
  · refine z_iconst (pc := 13) dX6_isFirstOfPrint_13 ic_0 (?_)
    exact z_iret (pc := 14) dX6_isFirstOfPrint_14 rfl rfl
theorem dX6_printsOf_0 : decode cX6_printsOf 0 = .ok (.iconst 0, 1) := by decide +kernel
theorem dX6_printsOf_1 : decode cX6_printsOf 1 = .ok (.istore_n 2, 1) := by decide +kernel
theorem dX6_printsOf_2 : decode cX6_printsOf 2 = .ok (.iconst 0, 1) := by decide +kernel
theorem dX6_printsOf_3 : decode cX6_printsOf 3 = .ok (.istore_n 3, 1) := by decide +kernel
theorem dX6_printsOf_4 : decode cX6_printsOf 4 = .ok (.iload_n 3, 1) := by decide +kernel
theorem dX6_printsOf_5 : decode cX6_printsOf 5 = .ok (.aload_n 0, 1) := by decide +kernel
theorem dX6_printsOf_6 : decode cX6_printsOf 6 = .ok (.getfield 17, 3) := by decide +kernel
theorem dX6_printsOf_9 : decode cX6_printsOf 9 = .ok (.if_icmp .ge 41, 3) := by decide +kernel
theorem dX6_printsOf_12 : decode cX6_printsOf 12 = .ok (.aload_n 0, 1) := by decide +kernel
theorem dX6_printsOf_13 : decode cX6_printsOf 13 = .ok (.iload_n 3, 1) := by decide +kernel
theorem dX6_printsOf_14 : decode cX6_printsOf 14 = .ok (.invokevirtual 32, 3) := by decide +kernel
theorem dX6_printsOf_17 : decode cX6_printsOf 17 = .ok (.ifCond .ne 6, 3) := by decide +kernel
theorem dX6_printsOf_20 : decode cX6_printsOf 20 = .ok (.goto 24, 3) := by decide +kernel
theorem dX6_printsOf_23 : decode cX6_printsOf 23 = .ok (.iload_n 1, 1) := by decide +kernel
theorem dX6_printsOf_24 : decode cX6_printsOf 24 = .ok (.ifCond .eq 17, 3) := by decide +kernel
theorem dX6_printsOf_27 : decode cX6_printsOf 27 = .ok (.aload_n 0, 1) := by decide +kernel
theorem dX6_printsOf_28 : decode cX6_printsOf 28 = .ok (.aload_n 0, 1) := by decide +kernel
theorem dX6_printsOf_29 : decode cX6_printsOf 29 = .ok (.getfield 11, 3) := by decide +kernel
theorem dX6_printsOf_32 : decode cX6_printsOf 32 = .ok (.iload_n 3, 1) := by decide +kernel
theorem dX6_printsOf_33 : decode cX6_printsOf 33 = .ok (.aaload, 1) := by decide +kernel
theorem dX6_printsOf_34 : decode cX6_printsOf 34 = .ok (.invokevirtual 36, 3) := by decide +kernel
theorem dX6_printsOf_37 : decode cX6_printsOf 37 = .ok (.iload_n 1, 1) := by decide +kernel
theorem dX6_printsOf_38 : decode cX6_printsOf 38 = .ok (.if_icmp .ne 6, 3) := by decide +kernel
theorem dX6_printsOf_41 : decode cX6_printsOf 41 = .ok (.iinc 2 1, 3) := by decide +kernel
theorem dX6_printsOf_44 : decode cX6_printsOf 44 = .ok (.iinc 3 1, 3) := by decide +kernel
theorem dX6_printsOf_47 : decode cX6_printsOf 47 = .ok (.goto (-43), 3) := by decide +kernel
theorem dX6_printsOf_50 : decode cX6_printsOf 50 = .ok (.iload_n 2, 1) := by decide +kernel
theorem dX6_printsOf_51 : decode cX6_printsOf 51 = .ok (.ireturn, 1) := by decide +kernel
def c_X6_printsOf_L4 (F : Nat) (a2 : Nat) (x3 : Int32) : Nat → Int32 → Int32 → z_Hp → Option (Int32 × z_Hp)
  | 0, _, _, _ => none
  | n + 1, x4, x5, h6 => (if hT h6 a2 = 6 then (if (hI h6 a2 1) ≤ x5 then (some (x4, h6)) else (if hT h6 a2 = 6 then (bI (c_X6_isFirstOfPrint F a2 x5 h6) (fun x8 h7 => (lt_ (fun (x10 : Int32) (h11 : z_Hp) => (lt_ (x5 + 1) (fun x12 => (c_X6_printsOf_L4 F a2 x3 n x10 x12 h11)))) (fun (j44_9 : Int32 → z_Hp → Option (Int32 × z_Hp)) => (if x8 = 0 then (j44_9 x4 h7) else (lt_ (fun (h14 : z_Hp) => (lt_ (x4 + 1) (fun x15 => (j44_9 x15 h14)))) (fun (j41_13 : z_Hp → Option (Int32 × z_Hp)) => (if x3 = 0 then (j41_13 h7) else (if hT h7 a2 = 6 then (lt_ (hR h7 a2 0) (fun o16 => (nn o16 (fun a17 => (if okA h7 a17 26 x5 = true then (lt_ (hR h7 a17 (ix x5)) (fun o18 => (if hT h7 a2 = 6 then (bI (c_X6_leftOfPrint F a2 o18 h7) (fun x20 h19 => (if x20 = x3 then (j41_13 h19) else (j44_9 x4 h19)))) else none))) else none))))) else none))))))))) else none)) else none)
def c_X6_printsOf (F : Nat) (a0 : Nat) (x1 : Int32) (h0 : z_Hp) : Option (Int32 × z_Hp) := (c_X6_printsOf_L4 F a0 x1 F 0 0 h0)
set_option maxRecDepth 20000 in
set_option maxHeartbeats 4000000 in
theorem g_X6_printsOf_L4 (F : Nat) (a2 : Nat) (x3 : Int32) : ∀ (n : Nat) (x4 : Int32) (x5 : Int32) (h6 : z_Hp), z_G zi mi_X6_printsOf 4 [(0, vr (some a2)), (1, vi x3), (2, vi x4), (3, vi x5)] [] h6 (c_X6_printsOf_L4 F a2 x3 n x4 x5 h6) := by
  intro n
  induction n with
  | zero => intro x4 x5 h6; rw [c_X6_printsOf_L4]; exact z_none
  | succ n ih =>
    intro x4 x5 h6
    rw [c_X6_printsOf_L4]
    refine z_iload_n (pc := 4) dX6_printsOf_4 rfl 3 rfl (z_aload_n (pc := 5) dX6_printsOf_5 rfl 0 rfl (z_getI (pc := 6) fl_RX6_17 rfl dX6_printsOf_6 (?_)))
    refine z_icmp_ge (pc := 9) (tgt := 50) dX6_printsOf_9 (by decide) ?_ ?_
    · refine z_iload_n (pc := 50) dX6_printsOf_50 rfl 2 rfl (?_)
      exact z_iret (pc := 51) dX6_printsOf_51 rfl rfl
    · refine z_aload_n (pc := 12) dX6_printsOf_12 rfl 0 rfl (z_iload_n (pc := 13) dX6_printsOf_13 rfl 3 rfl (z_callV_I (pc := 14) (avs := [vi x5]) (st := []) rfl (q := (RX6, TX6, 2)) rfl rfl (t_X6_isFirstOfPrint F a2 x5 h6) ky_X6_isFirstOfPrint wm_X6_isFirstOfPrint we_X6_isFirstOfPrint wz_RX6_32 (rm_X6_printsOf_X6_isFirstOfPrint) (Nat.le_of_ble_eq_true rfl) dX6_printsOf_14 (fun x8 h7 => (?_))))
      refine z_jn (P := fun (j : Int32 → z_Hp → Option (Int32 × z_Hp)) => ∀ (x10 : Int32) (h11 : z_Hp), z_G zi mi_X6_printsOf 44 [(0, vr (some a2)), (1, vi x3), (2, vi x10), (3, vi x5)] [] h11 (j x10 h11)) (fun x10 h11 => ?_) (fun j44_9 qj44_9 => ?_)
      · refine z_iincl (pc := 44) (L' := fun x12 => [(0, vr (some a2)), (1, vi x3), (2, vi x10), (3, vi x12)]) dX6_printsOf_44 3 rfl ic_1 (Nat.le_of_ble_eq_true rfl) (fun _ => rfl) (fun x12 => (z_goto (pc := 47) (tgt := 4) dX6_printsOf_47 (by decide) (?_)))
        exact ih x10 x12 h11
      refine z_if_ne (pc := 17) (tgt := 23) dX6_printsOf_17 (by decide) ?_ ?_
      · refine z_iload_n (pc := 23) dX6_printsOf_23 rfl 1 rfl (?_)
        refine z_jn (P := fun (j : z_Hp → Option (Int32 × z_Hp)) => ∀ (h14 : z_Hp), z_G zi mi_X6_printsOf 41 [(0, vr (some a2)), (1, vi x3), (2, vi x4), (3, vi x5)] [] h14 (j h14)) (fun h14 => ?_) (fun j41_13 qj41_13 => ?_)
        · refine z_iincl (pc := 41) (L' := fun x15 => [(0, vr (some a2)), (1, vi x3), (2, vi x15), (3, vi x5)]) dX6_printsOf_41 2 rfl ic_1 (Nat.le_of_ble_eq_true rfl) (fun _ => rfl) (fun x15 => (?_))
          exact qj44_9 x15 h14
        refine z_if_eq (pc := 24) (tgt := 41) dX6_printsOf_24 (by decide) ?_ ?_
        · exact qj41_13 h7
        · refine z_aload_n (pc := 27) dX6_printsOf_27 rfl 0 rfl (z_aload_n (pc := 28) dX6_printsOf_28 rfl 0 rfl (z_getRl (pc := 29) fl_RX6_11 rfl dX6_printsOf_29 (fun o16 => (z_iload_n (pc := 32) dX6_printsOf_32 rfl 3 rfl (?_)))))
          refine z_nn (fun a17 ea17 => ?_)
          subst ea17
          refine z_aaloadl (pc := 33) 26 (by decide) dX6_printsOf_33 (fun o18 => (z_callV_I (pc := 34) (avs := [vr o18]) (st := []) rfl (q := (RX6, TX6, 2)) rfl rfl (t_X6_leftOfPrint F a2 o18 h7) ky_X6_leftOfPrint wm_X6_leftOfPrint we_X6_leftOfPrint wz_RX6_36 (rm_X6_printsOf_X6_leftOfPrint) (Nat.le_of_ble_eq_true rfl) dX6_printsOf_34 (fun x20 h19 => (?_))))
          refine z_iload_n (pc := 37) dX6_printsOf_37 rfl 1 rfl (?_)
          refine z_icmp_ne (pc := 38) (tgt := 44) dX6_printsOf_38 (by decide) ?_ ?_
          · exact qj44_9 x4 h19
          · exact qj41_13 h19
      · refine z_goto (pc := 20) (tgt := 44) dX6_printsOf_20 (by decide) (?_)
        exact qj44_9 x4 h7
set_option maxRecDepth 20000 in
set_option maxHeartbeats 4000000 in
theorem t_X6_printsOf (F : Nat) (a0 : Nat) (x1 : Int32) (h0 : z_Hp) : z_Ct zi mi_X6_printsOf [vr (some a0), vi x1] h0 (c_X6_printsOf F a0 x1 h0) := by
  refine z_entry (by decide) (Nat.le_of_ble_eq_true rfl) [(0, vr (some a0)), (1, vi x1)] rfl ?_
  unfold c_X6_printsOf
  refine z_iconst (pc := 0) dX6_printsOf_0 ic_0 (z_istore_n (pc := 1) (L' := [(0, vr (some a0)), (1, vi x1), (2, vi 0)]) dX6_printsOf_1 rfl (Nat.le_of_ble_eq_true rfl) rfl (z_iconst (pc := 2) dX6_printsOf_2 ic_0 (z_istore_n (pc := 3) (L' := [(0, vr (some a0)), (1, vi x1), (2, vi 0), (3, vi 0)]) dX6_printsOf_3 rfl (Nat.le_of_ble_eq_true rfl) rfl (?_))))
  refine g_X6_printsOf_L4 F a0 x1 F 0 0 h0
theorem dJ6_bitCount_0f7a4_0 : decode cJ6_bitCount_0f7a4 0 = .ok (.iload_n 0, 1) := by decide +kernel
theorem dJ6_bitCount_0f7a4_1 : decode cJ6_bitCount_0f7a4 1 = .ok (.iload_n 0, 1) := by decide +kernel
theorem dJ6_bitCount_0f7a4_2 : decode cJ6_bitCount_0f7a4 2 = .ok (.iconst 1, 1) := by decide +kernel
theorem dJ6_bitCount_0f7a4_3 : decode cJ6_bitCount_0f7a4 3 = .ok (.iushr, 1) := by decide +kernel
theorem dJ6_bitCount_0f7a4_4 : decode cJ6_bitCount_0f7a4 4 = .ok (.ldc_w 265, 3) := by decide +kernel
theorem dJ6_bitCount_0f7a4_7 : decode cJ6_bitCount_0f7a4 7 = .ok (.iand, 1) := by decide +kernel
theorem dJ6_bitCount_0f7a4_8 : decode cJ6_bitCount_0f7a4 8 = .ok (.isub, 1) := by decide +kernel
theorem dJ6_bitCount_0f7a4_9 : decode cJ6_bitCount_0f7a4 9 = .ok (.istore_n 0, 1) := by decide +kernel
theorem dJ6_bitCount_0f7a4_10 : decode cJ6_bitCount_0f7a4 10 = .ok (.iload_n 0, 1) := by decide +kernel
theorem dJ6_bitCount_0f7a4_11 : decode cJ6_bitCount_0f7a4 11 = .ok (.ldc_w 266, 3) := by decide +kernel
theorem dJ6_bitCount_0f7a4_14 : decode cJ6_bitCount_0f7a4 14 = .ok (.iand, 1) := by decide +kernel
theorem dJ6_bitCount_0f7a4_15 : decode cJ6_bitCount_0f7a4 15 = .ok (.iload_n 0, 1) := by decide +kernel
theorem dJ6_bitCount_0f7a4_16 : decode cJ6_bitCount_0f7a4 16 = .ok (.iconst 2, 1) := by decide +kernel
theorem dJ6_bitCount_0f7a4_17 : decode cJ6_bitCount_0f7a4 17 = .ok (.iushr, 1) := by decide +kernel
theorem dJ6_bitCount_0f7a4_18 : decode cJ6_bitCount_0f7a4 18 = .ok (.ldc_w 266, 3) := by decide +kernel
theorem dJ6_bitCount_0f7a4_21 : decode cJ6_bitCount_0f7a4 21 = .ok (.iand, 1) := by decide +kernel
theorem dJ6_bitCount_0f7a4_22 : decode cJ6_bitCount_0f7a4 22 = .ok (.iadd, 1) := by decide +kernel
theorem dJ6_bitCount_0f7a4_23 : decode cJ6_bitCount_0f7a4 23 = .ok (.istore_n 0, 1) := by decide +kernel
theorem dJ6_bitCount_0f7a4_24 : decode cJ6_bitCount_0f7a4 24 = .ok (.iload_n 0, 1) := by decide +kernel
theorem dJ6_bitCount_0f7a4_25 : decode cJ6_bitCount_0f7a4 25 = .ok (.iload_n 0, 1) := by decide +kernel
theorem dJ6_bitCount_0f7a4_26 : decode cJ6_bitCount_0f7a4 26 = .ok (.iconst 4, 1) := by decide +kernel
theorem dJ6_bitCount_0f7a4_27 : decode cJ6_bitCount_0f7a4 27 = .ok (.iushr, 1) := by decide +kernel
theorem dJ6_bitCount_0f7a4_28 : decode cJ6_bitCount_0f7a4 28 = .ok (.iadd, 1) := by decide +kernel
theorem dJ6_bitCount_0f7a4_29 : decode cJ6_bitCount_0f7a4 29 = .ok (.ldc_w 267, 3) := by decide +kernel
theorem dJ6_bitCount_0f7a4_32 : decode cJ6_bitCount_0f7a4 32 = .ok (.iand, 1) := by decide +kernel
theorem dJ6_bitCount_0f7a4_33 : decode cJ6_bitCount_0f7a4 33 = .ok (.istore_n 0, 1) := by decide +kernel
theorem dJ6_bitCount_0f7a4_34 : decode cJ6_bitCount_0f7a4 34 = .ok (.iload_n 0, 1) := by decide +kernel
theorem dJ6_bitCount_0f7a4_35 : decode cJ6_bitCount_0f7a4 35 = .ok (.iload_n 0, 1) := by decide +kernel
theorem dJ6_bitCount_0f7a4_36 : decode cJ6_bitCount_0f7a4 36 = .ok (.bipush 8, 2) := by decide +kernel
theorem dJ6_bitCount_0f7a4_38 : decode cJ6_bitCount_0f7a4 38 = .ok (.iushr, 1) := by decide +kernel
theorem dJ6_bitCount_0f7a4_39 : decode cJ6_bitCount_0f7a4 39 = .ok (.iadd, 1) := by decide +kernel
theorem dJ6_bitCount_0f7a4_40 : decode cJ6_bitCount_0f7a4 40 = .ok (.istore_n 0, 1) := by decide +kernel
theorem dJ6_bitCount_0f7a4_41 : decode cJ6_bitCount_0f7a4 41 = .ok (.iload_n 0, 1) := by decide +kernel
theorem dJ6_bitCount_0f7a4_42 : decode cJ6_bitCount_0f7a4 42 = .ok (.iload_n 0, 1) := by decide +kernel
theorem dJ6_bitCount_0f7a4_43 : decode cJ6_bitCount_0f7a4 43 = .ok (.bipush 16, 2) := by decide +kernel
theorem dJ6_bitCount_0f7a4_45 : decode cJ6_bitCount_0f7a4 45 = .ok (.iushr, 1) := by decide +kernel
theorem dJ6_bitCount_0f7a4_46 : decode cJ6_bitCount_0f7a4 46 = .ok (.iadd, 1) := by decide +kernel
theorem dJ6_bitCount_0f7a4_47 : decode cJ6_bitCount_0f7a4 47 = .ok (.istore_n 0, 1) := by decide +kernel
theorem dJ6_bitCount_0f7a4_48 : decode cJ6_bitCount_0f7a4 48 = .ok (.iload_n 0, 1) := by decide +kernel
theorem dJ6_bitCount_0f7a4_49 : decode cJ6_bitCount_0f7a4 49 = .ok (.bipush 63, 2) := by decide +kernel
theorem dJ6_bitCount_0f7a4_51 : decode cJ6_bitCount_0f7a4 51 = .ok (.iand, 1) := by decide +kernel
theorem dJ6_bitCount_0f7a4_52 : decode cJ6_bitCount_0f7a4 52 = .ok (.ireturn, 1) := by decide +kernel
def c_J6_bitCount_0f7a4 (F : Nat) (x1 : Int32) (h0 : z_Hp) : Option (Int32 × z_Hp) := (lt_ (x1 - ((((x1 : Int32).toUInt32 >>> ((1 : Int32).toUInt32 &&& Int32.toUInt32 31)).toInt32) &&& 1431655765)) (fun x2 => (lt_ ((x2 &&& 858993459) + ((((x2 : Int32).toUInt32 >>> ((2 : Int32).toUInt32 &&& Int32.toUInt32 31)).toInt32) &&& 858993459)) (fun x3 => (lt_ ((x3 + (((x3 : Int32).toUInt32 >>> ((4 : Int32).toUInt32 &&& Int32.toUInt32 31)).toInt32)) &&& 252645135) (fun x4 => (lt_ (x4 + (((x4 : Int32).toUInt32 >>> ((8 : Int32).toUInt32 &&& Int32.toUInt32 31)).toInt32)) (fun x5 => (lt_ (x5 + (((x5 : Int32).toUInt32 >>> ((16 : Int32).toUInt32 &&& Int32.toUInt32 31)).toInt32)) (fun x6 => (some (x6 &&& 63, h0))))))))))))
set_option maxRecDepth 20000 in
set_option maxHeartbeats 4000000 in
theorem t_J6_bitCount_0f7a4 (F : Nat) (x1 : Int32) (h0 : z_Hp) : z_Ct zi mi_J6_bitCount_0f7a4 [vi x1] h0 (c_J6_bitCount_0f7a4 F x1 h0) := by
  refine z_entry (by decide) (Nat.le_of_ble_eq_true rfl) [(0, vi x1)] rfl ?_
  unfold c_J6_bitCount_0f7a4
  refine z_iload_n (pc := 0) dJ6_bitCount_0f7a4_0 rfl 0 rfl (z_iload_n (pc := 1) dJ6_bitCount_0f7a4_1 rfl 0 rfl (z_iconst (pc := 2) dJ6_bitCount_0f7a4_2 ic_1 (z_iushr (pc := 3) dJ6_bitCount_0f7a4_3 (z_ldcw (pc := 4) dJ6_bitCount_0f7a4_4 wk_RJ6_265 (z_iand (pc := 7) dJ6_bitCount_0f7a4_7 (z_isub (pc := 8) dJ6_bitCount_0f7a4_8 (z_istorel_n (pc := 9) (L' := fun x2 => [(0, vi x2)]) dJ6_bitCount_0f7a4_9 rfl (Nat.le_of_ble_eq_true rfl) (fun _ => rfl) (fun x2 => (?_)))))))))
  refine z_iload_n (pc := 10) dJ6_bitCount_0f7a4_10 rfl 0 rfl (z_ldcw (pc := 11) dJ6_bitCount_0f7a4_11 wk_RJ6_266 (z_iand (pc := 14) dJ6_bitCount_0f7a4_14 (z_iload_n (pc := 15) dJ6_bitCount_0f7a4_15 rfl 0 rfl (z_iconst (pc := 16) dJ6_bitCount_0f7a4_16 ic_2 (z_iushr (pc := 17) dJ6_bitCount_0f7a4_17 (z_ldcw (pc := 18) dJ6_bitCount_0f7a4_18 wk_RJ6_266 (z_iand (pc := 21) dJ6_bitCount_0f7a4_21 (?_))))))))
  refine z_iadd (pc := 22) dJ6_bitCount_0f7a4_22 (z_istorel_n (pc := 23) (L' := fun x3 => [(0, vi x3)]) dJ6_bitCount_0f7a4_23 rfl (Nat.le_of_ble_eq_true rfl) (fun _ => rfl) (fun x3 => (z_iload_n (pc := 24) dJ6_bitCount_0f7a4_24 rfl 0 rfl (z_iload_n (pc := 25) dJ6_bitCount_0f7a4_25 rfl 0 rfl (z_iconst (pc := 26) dJ6_bitCount_0f7a4_26 ic_4 (z_iushr (pc := 27) dJ6_bitCount_0f7a4_27 (z_iadd (pc := 28) dJ6_bitCount_0f7a4_28 (z_ldcw (pc := 29) dJ6_bitCount_0f7a4_29 wk_RJ6_267 (?_)))))))))
  refine z_iand (pc := 32) dJ6_bitCount_0f7a4_32 (z_istorel_n (pc := 33) (L' := fun x4 => [(0, vi x4)]) dJ6_bitCount_0f7a4_33 rfl (Nat.le_of_ble_eq_true rfl) (fun _ => rfl) (fun x4 => (z_iload_n (pc := 34) dJ6_bitCount_0f7a4_34 rfl 0 rfl (z_iload_n (pc := 35) dJ6_bitCount_0f7a4_35 rfl 0 rfl (z_bipush (pc := 36) dJ6_bitCount_0f7a4_36 bp_8 (z_iushr (pc := 38) dJ6_bitCount_0f7a4_38 (z_iadd (pc := 39) dJ6_bitCount_0f7a4_39 (z_istorel_n (pc := 40) (L' := fun x5 => [(0, vi x5)]) dJ6_bitCount_0f7a4_40 rfl (Nat.le_of_ble_eq_true rfl) (fun _ => rfl) (fun x5 => (?_))))))))))
  refine z_iload_n (pc := 41) dJ6_bitCount_0f7a4_41 rfl 0 rfl (z_iload_n (pc := 42) dJ6_bitCount_0f7a4_42 rfl 0 rfl (z_bipush (pc := 43) dJ6_bitCount_0f7a4_43 bp_16 (z_iushr (pc := 45) dJ6_bitCount_0f7a4_45 (z_iadd (pc := 46) dJ6_bitCount_0f7a4_46 (z_istorel_n (pc := 47) (L' := fun x6 => [(0, vi x6)]) dJ6_bitCount_0f7a4_47 rfl (Nat.le_of_ble_eq_true rfl) (fun _ => rfl) (fun x6 => (z_iload_n (pc := 48) dJ6_bitCount_0f7a4_48 rfl 0 rfl (z_bipush (pc := 49) dJ6_bitCount_0f7a4_49 bp_63 (?_)))))))))
  refine z_iand (pc := 51) dJ6_bitCount_0f7a4_51 (?_)
  exact z_iret (pc := 52) dJ6_bitCount_0f7a4_52 rfl rfl
theorem dX6_sharing_0 : decode cX6_sharing 0 = .ok (.iconst 0, 1) := by decide +kernel
theorem dX6_sharing_1 : decode cX6_sharing 1 = .ok (.istore_n 3, 1) := by decide +kernel
theorem dX6_sharing_2 : decode cX6_sharing 2 = .ok (.iconst 0, 1) := by decide +kernel
theorem dX6_sharing_3 : decode cX6_sharing 3 = .ok (.istore 4, 2) := by decide +kernel
theorem dX6_sharing_5 : decode cX6_sharing 5 = .ok (.iload 4, 2) := by decide +kernel
theorem dX6_sharing_7 : decode cX6_sharing 7 = .ok (.aload_n 0, 1) := by decide +kernel
theorem dX6_sharing_8 : decode cX6_sharing 8 = .ok (.getfield 17, 3) := by decide +kernel
theorem dX6_sharing_11 : decode cX6_sharing 11 = .ok (.if_icmp .ge 45, 3) := by decide +kernel
theorem dX6_sharing_14 : decode cX6_sharing 14 = .ok (.iload 4, 2) := by decide +kernel
theorem dX6_sharing_16 : decode cX6_sharing 16 = .ok (.iload_n 1, 1) := by decide +kernel
theorem dX6_sharing_17 : decode cX6_sharing 17 = .ok (.if_icmp .eq 33, 3) := by decide +kernel
theorem dX6_sharing_20 : decode cX6_sharing 20 = .ok (.aload_n 0, 1) := by decide +kernel
theorem dX6_sharing_21 : decode cX6_sharing 21 = .ok (.getfield 11, 3) := by decide +kernel
theorem dX6_sharing_24 : decode cX6_sharing 24 = .ok (.iload_n 1, 1) := by decide +kernel
theorem dX6_sharing_25 : decode cX6_sharing 25 = .ok (.aaload, 1) := by decide +kernel
theorem dX6_sharing_26 : decode cX6_sharing 26 = .ok (.getfield 43, 3) := by decide +kernel
theorem dX6_sharing_29 : decode cX6_sharing 29 = .ok (.aload_n 0, 1) := by decide +kernel
theorem dX6_sharing_30 : decode cX6_sharing 30 = .ok (.getfield 11, 3) := by decide +kernel
theorem dX6_sharing_33 : decode cX6_sharing 33 = .ok (.iload 4, 2) := by decide +kernel
theorem dX6_sharing_35 : decode cX6_sharing 35 = .ok (.aaload, 1) := by decide +kernel
theorem dX6_sharing_36 : decode cX6_sharing 36 = .ok (.getfield 43, 3) := by decide +kernel
theorem dX6_sharing_39 : decode cX6_sharing 39 = .ok (.iand, 1) := by decide +kernel
theorem dX6_sharing_40 : decode cX6_sharing 40 = .ok (.invokestatic 46, 3) := by decide +kernel
theorem dX6_sharing_43 : decode cX6_sharing 43 = .ok (.iload_n 2, 1) := by decide +kernel
theorem dX6_sharing_44 : decode cX6_sharing 44 = .ok (.if_icmp .lt 6, 3) := by decide +kernel
theorem dX6_sharing_47 : decode cX6_sharing 47 = .ok (.iinc 3 1, 3) := by decide +kernel
theorem dX6_sharing_50 : decode cX6_sharing 50 = .ok (.iinc 4 1, 3) := by decide +kernel
theorem dX6_sharing_53 : decode cX6_sharing 53 = .ok (.goto (-48), 3) := by decide +kernel
theorem dX6_sharing_56 : decode cX6_sharing 56 = .ok (.iload_n 3, 1) := by decide +kernel
theorem dX6_sharing_57 : decode cX6_sharing 57 = .ok (.ireturn, 1) := by decide +kernel
def c_X6_sharing_L5 (F : Nat) (a3 : Nat) (x4 : Int32) (x5 : Int32) : Nat → Int32 → Int32 → z_Hp → Option (Int32 × z_Hp)
  | 0, _, _, _ => none
  | n + 1, x6, x7, h8 => (if hT h8 a3 = 6 then (if (hI h8 a3 1) ≤ x7 then (some (x6, h8)) else (lt_ (fun (x10 : Int32) (h11 : z_Hp) => (lt_ (x7 + 1) (fun x12 => (c_X6_sharing_L5 F a3 x4 x5 n x10 x12 h11)))) (fun (j50_9 : Int32 → z_Hp → Option (Int32 × z_Hp)) => (if x7 = x4 then (j50_9 x6 h8) else (if hT h8 a3 = 6 then (lt_ (hR h8 a3 0) (fun o13 => (nn o13 (fun a14 => (if okA h8 a14 26 x4 = true then (lt_ (hR h8 a14 (ix x4)) (fun o15 => (nn o15 (fun a16 => (if hT h8 a16 = 5 then (if hT h8 a3 = 6 then (lt_ (hR h8 a3 0) (fun o17 => (nn o17 (fun a18 => (if okA h8 a18 26 x7 = true then (lt_ (hR h8 a18 (ix x7)) (fun o19 => (nn o19 (fun a20 => (if hT h8 a20 = 5 then (bI (c_J6_bitCount_0f7a4 F ((hI h8 a16 8) &&& (hI h8 a20 8)) h8) (fun x22 h21 => (if x22 < x5 then (j50_9 x6 h21) else (lt_ (x6 + 1) (fun x23 => (j50_9 x23 h21)))))) else none))))) else none))))) else none) else none))))) else none))))) else none))))) else none)
def c_X6_sharing (F : Nat) (a0 : Nat) (x1 : Int32) (x2 : Int32) (h0 : z_Hp) : Option (Int32 × z_Hp) := (c_X6_sharing_L5 F a0 x1 x2 F 0 0 h0)
set_option maxRecDepth 20000 in
set_option maxHeartbeats 4000000 in
theorem g_X6_sharing_L5 (F : Nat) (a3 : Nat) (x4 : Int32) (x5 : Int32) : ∀ (n : Nat) (x6 : Int32) (x7 : Int32) (h8 : z_Hp), z_G zi mi_X6_sharing 5 [(0, vr (some a3)), (1, vi x4), (2, vi x5), (3, vi x6), (4, vi x7)] [] h8 (c_X6_sharing_L5 F a3 x4 x5 n x6 x7 h8) := by
  intro n
  induction n with
  | zero => intro x6 x7 h8; rw [c_X6_sharing_L5]; exact z_none
  | succ n ih =>
    intro x6 x7 h8
    rw [c_X6_sharing_L5]
    refine z_iload (pc := 5) dX6_sharing_5 4 rfl (z_aload_n (pc := 7) dX6_sharing_7 rfl 0 rfl (z_getI (pc := 8) fl_RX6_17 rfl dX6_sharing_8 (?_)))
    refine z_icmp_ge (pc := 11) (tgt := 56) dX6_sharing_11 (by decide) ?_ ?_
    · refine z_iload_n (pc := 56) dX6_sharing_56 rfl 3 rfl (?_)
      exact z_iret (pc := 57) dX6_sharing_57 rfl rfl
    · refine z_iload (pc := 14) dX6_sharing_14 4 rfl (z_iload_n (pc := 16) dX6_sharing_16 rfl 1 rfl (?_))
      refine z_jn (P := fun (j : Int32 → z_Hp → Option (Int32 × z_Hp)) => ∀ (x10 : Int32) (h11 : z_Hp), z_G zi mi_X6_sharing 50 [(0, vr (some a3)), (1, vi x4), (2, vi x5), (3, vi x10), (4, vi x7)] [] h11 (j x10 h11)) (fun x10 h11 => ?_) (fun j50_9 qj50_9 => ?_)
      · refine z_iincl (pc := 50) (L' := fun x12 => [(0, vr (some a3)), (1, vi x4), (2, vi x5), (3, vi x10), (4, vi x12)]) dX6_sharing_50 4 rfl ic_1 (Nat.le_of_ble_eq_true rfl) (fun _ => rfl) (fun x12 => (z_goto (pc := 53) (tgt := 5) dX6_sharing_53 (by decide) (?_)))
        exact ih x10 x12 h11
      refine z_icmp_eq (pc := 17) (tgt := 50) dX6_sharing_17 (by decide) ?_ ?_
      · exact qj50_9 x6 h8
      · refine z_aload_n (pc := 20) dX6_sharing_20 rfl 0 rfl (z_getRl (pc := 21) fl_RX6_11 rfl dX6_sharing_21 (fun o13 => (z_iload_n (pc := 24) dX6_sharing_24 rfl 1 rfl (?_))))
        refine z_nn (fun a14 ea14 => ?_)
        subst ea14
        refine z_aaloadl (pc := 25) 26 (by decide) dX6_sharing_25 (fun o15 => (?_))
        refine z_nn (fun a16 ea16 => ?_)
        subst ea16
        refine z_getI (pc := 26) fl_RX6_43 rfl dX6_sharing_26 (z_aload_n (pc := 29) dX6_sharing_29 rfl 0 rfl (z_getRl (pc := 30) fl_RX6_11 rfl dX6_sharing_30 (fun o17 => (z_iload (pc := 33) dX6_sharing_33 4 rfl (?_)))))
        refine z_nn (fun a18 ea18 => ?_)
        subst ea18
        refine z_aaloadl (pc := 35) 26 (by decide) dX6_sharing_35 (fun o19 => (?_))
        refine z_nn (fun a20 ea20 => ?_)
        subst ea20
        refine z_getI (pc := 36) fl_RX6_43 rfl dX6_sharing_36 (z_iand (pc := 39) dX6_sharing_39 (z_callS_I (pc := 40) (avs := [vi ((hI h8 a16 8) &&& (hI h8 a20 8))]) (st := []) rfl (t_J6_bitCount_0f7a4 F ((hI h8 a16 8) &&& (hI h8 a20 8)) h8) ky_J6_bitCount_0f7a4 ws_J6_bitCount_0f7a4 wz_RX6_46 (rm_X6_sharing_J6_bitCount_0f7a4) (Nat.le_of_ble_eq_true rfl) dX6_sharing_40 (fun x22 h21 => (?_))))
        refine z_iload_n (pc := 43) dX6_sharing_43 rfl 2 rfl (?_)
        refine z_icmp_lt (pc := 44) (tgt := 50) dX6_sharing_44 (by decide) ?_ ?_
        · exact qj50_9 x6 h21
        · refine z_iincl (pc := 47) (L' := fun x23 => [(0, vr (some a3)), (1, vi x4), (2, vi x5), (3, vi x23), (4, vi x7)]) dX6_sharing_47 3 rfl ic_1 (Nat.le_of_ble_eq_true rfl) (fun _ => rfl) (fun x23 => (?_))
          exact qj50_9 x23 h21
set_option maxRecDepth 20000 in
set_option maxHeartbeats 4000000 in
theorem t_X6_sharing (F : Nat) (a0 : Nat) (x1 : Int32) (x2 : Int32) (h0 : z_Hp) : z_Ct zi mi_X6_sharing [vr (some a0), vi x1, vi x2] h0 (c_X6_sharing F a0 x1 x2 h0) := by
  refine z_entry (by decide) (Nat.le_of_ble_eq_true rfl) [(0, vr (some a0)), (1, vi x1), (2, vi x2)] rfl ?_
  unfold c_X6_sharing
  refine z_iconst (pc := 0) dX6_sharing_0 ic_0 (z_istore_n (pc := 1) (L' := [(0, vr (some a0)), (1, vi x1), (2, vi x2), (3, vi 0)]) dX6_sharing_1 rfl (Nat.le_of_ble_eq_true rfl) rfl (z_iconst (pc := 2) dX6_sharing_2 ic_0 (z_istore (pc := 3) (L' := [(0, vr (some a0)), (1, vi x1), (2, vi x2), (3, vi 0), (4, vi 0)]) dX6_sharing_3 (Nat.le_of_ble_eq_true rfl) rfl (?_))))
  refine g_X6_sharing_L5 F a0 x1 x2 F 0 0 h0
theorem dX6_firstQuarrel_0 : decode cX6_firstQuarrel 0 = .ok (.iconst 0, 1) := by decide +kernel
theorem dX6_firstQuarrel_1 : decode cX6_firstQuarrel 1 = .ok (.istore_n 1, 1) := by decide +kernel
theorem dX6_firstQuarrel_2 : decode cX6_firstQuarrel 2 = .ok (.iload_n 1, 1) := by decide +kernel
theorem dX6_firstQuarrel_3 : decode cX6_firstQuarrel 3 = .ok (.aload_n 0, 1) := by decide +kernel
theorem dX6_firstQuarrel_4 : decode cX6_firstQuarrel 4 = .ok (.getfield 17, 3) := by decide +kernel
theorem dX6_firstQuarrel_7 : decode cX6_firstQuarrel 7 = .ok (.if_icmp .ge 52, 3) := by decide +kernel
theorem dX6_firstQuarrel_10 : decode cX6_firstQuarrel 10 = .ok (.iload_n 1, 1) := by decide +kernel
theorem dX6_firstQuarrel_11 : decode cX6_firstQuarrel 11 = .ok (.iconst 1, 1) := by decide +kernel
theorem dX6_firstQuarrel_12 : decode cX6_firstQuarrel 12 = .ok (.iadd, 1) := by decide +kernel
theorem dX6_firstQuarrel_13 : decode cX6_firstQuarrel 13 = .ok (.istore_n 2, 1) := by decide +kernel
theorem dX6_firstQuarrel_14 : decode cX6_firstQuarrel 14 = .ok (.iload_n 2, 1) := by decide +kernel
theorem dX6_firstQuarrel_15 : decode cX6_firstQuarrel 15 = .ok (.aload_n 0, 1) := by decide +kernel
theorem dX6_firstQuarrel_16 : decode cX6_firstQuarrel 16 = .ok (.getfield 17, 3) := by decide +kernel
theorem dX6_firstQuarrel_19 : decode cX6_firstQuarrel 19 = .ok (.if_icmp .ge 34, 3) := by decide +kernel
theorem dX6_firstQuarrel_22 : decode cX6_firstQuarrel 22 = .ok (.aload_n 0, 1) := by decide +kernel
theorem dX6_firstQuarrel_23 : decode cX6_firstQuarrel 23 = .ok (.getfield 11, 3) := by decide +kernel
theorem dX6_firstQuarrel_26 : decode cX6_firstQuarrel 26 = .ok (.iload_n 1, 1) := by decide +kernel
theorem dX6_firstQuarrel_27 : decode cX6_firstQuarrel 27 = .ok (.aaload, 1) := by decide +kernel
theorem dX6_firstQuarrel_28 : decode cX6_firstQuarrel 28 = .ok (.aload_n 0, 1) := by decide +kernel
theorem dX6_firstQuarrel_29 : decode cX6_firstQuarrel 29 = .ok (.getfield 11, 3) := by decide +kernel
theorem dX6_firstQuarrel_32 : decode cX6_firstQuarrel 32 = .ok (.iload_n 2, 1) := by decide +kernel
theorem dX6_firstQuarrel_33 : decode cX6_firstQuarrel 33 = .ok (.aaload, 1) := by decide +kernel
theorem dX6_firstQuarrel_34 : decode cX6_firstQuarrel 34 = .ok (.invokevirtual 52, 3) := by decide +kernel
theorem dX6_firstQuarrel_37 : decode cX6_firstQuarrel 37 = .ok (.ifCond .ge 10, 3) := by decide +kernel
theorem dX6_firstQuarrel_40 : decode cX6_firstQuarrel 40 = .ok (.bipush 100, 2) := by decide +kernel
theorem dX6_firstQuarrel_42 : decode cX6_firstQuarrel 42 = .ok (.iload_n 1, 1) := by decide +kernel
theorem dX6_firstQuarrel_43 : decode cX6_firstQuarrel 43 = .ok (.imul, 1) := by decide +kernel
theorem dX6_firstQuarrel_44 : decode cX6_firstQuarrel 44 = .ok (.iload_n 2, 1) := by decide +kernel
theorem dX6_firstQuarrel_45 : decode cX6_firstQuarrel 45 = .ok (.iadd, 1) := by decide +kernel
theorem dX6_firstQuarrel_46 : decode cX6_firstQuarrel 46 = .ok (.ireturn, 1) := by decide +kernel
theorem dX6_firstQuarrel_47 : decode cX6_firstQuarrel 47 = .ok (.iinc 2 1, 3) := by decide +kernel
theorem dX6_firstQuarrel_50 : decode cX6_firstQuarrel 50 = .ok (.goto (-36), 3) := by decide +kernel
theorem dX6_firstQuarrel_53 : decode cX6_firstQuarrel 53 = .ok (.iinc 1 1, 3) := by decide +kernel
theorem dX6_firstQuarrel_56 : decode cX6_firstQuarrel 56 = .ok (.goto (-54), 3) := by decide +kernel
theorem dX6_firstQuarrel_59 : decode cX6_firstQuarrel 59 = .ok (.bipush (-9), 2) := by decide +kernel
theorem dX6_firstQuarrel_61 : decode cX6_firstQuarrel 61 = .ok (.ireturn, 1) := by decide +kernel
def c_X6_firstQuarrel_L14 (F : Nat) (a5 : Nat) (x6 : Int32) (k53 : z_Hp → Option (Int32 × z_Hp)) : Nat → Int32 → z_Hp → Option (Int32 × z_Hp)
  | 0, _, _ => none
  | n + 1, x7, h8 => (if hT h8 a5 = 6 then (if (hI h8 a5 1) ≤ x7 then (k53 h8) else (if hT h8 a5 = 6 then (lt_ (hR h8 a5 0) (fun o10 => (nn o10 (fun a11 => (if okA h8 a11 26 x6 = true then (lt_ (hR h8 a11 (ix x6)) (fun o12 => (if hT h8 a5 = 6 then (lt_ (hR h8 a5 0) (fun o13 => (nn o13 (fun a14 => (if okA h8 a14 26 x7 = true then (lt_ (hR h8 a14 (ix x7)) (fun o15 => (nn o12 (fun a16 => (if hT h8 a16 = 5 then (bI (c_X5_standing F a16 o15 h8) (fun x18 h17 => (if 0 ≤ x18 then (lt_ (x7 + 1) (fun x19 => (c_X6_firstQuarrel_L14 F a5 x6 k53 n x19 h17))) else (some ((100 * x6) + x7, h17))))) else none))))) else none))))) else none))) else none))))) else none)) else none)
def c_X6_firstQuarrel_L2 (F : Nat) (a1 : Nat) : Nat → Int32 → z_Hp → Option (Int32 × z_Hp)
  | 0, _, _ => none
  | n + 1, x2, h3 => (if hT h3 a1 = 6 then (if (hI h3 a1 1) ≤ x2 then (some ((-9), h3)) else (lt_ (x2 + 1) (fun x4 => (c_X6_firstQuarrel_L14 F a1 x2 (fun h20 => (lt_ (x2 + 1) (fun x21 => (c_X6_firstQuarrel_L2 F a1 n x21 h20)))) F x4 h3)))) else none)
def c_X6_firstQuarrel (F : Nat) (a0 : Nat) (h0 : z_Hp) : Option (Int32 × z_Hp) := (c_X6_firstQuarrel_L2 F a0 F 0 h0)
set_option maxRecDepth 20000 in
set_option maxHeartbeats 4000000 in
theorem g_X6_firstQuarrel_L14 (F : Nat) (a5 : Nat) (x6 : Int32) (k53 : z_Hp → Option (Int32 × z_Hp)) (qk53 : ∀ (h9 : z_Hp), z_G zi mi_X6_firstQuarrel 53 [(0, vr (some a5)), (1, vi x6)] [] h9 (k53 h9)) : ∀ (n : Nat) (x7 : Int32) (h8 : z_Hp), z_G zi mi_X6_firstQuarrel 14 [(0, vr (some a5)), (1, vi x6), (2, vi x7)] [] h8 (c_X6_firstQuarrel_L14 F a5 x6 k53 n x7 h8) := by
  intro n
  induction n with
  | zero => intro x7 h8; rw [c_X6_firstQuarrel_L14]; exact z_none
  | succ n ih =>
    intro x7 h8
    rw [c_X6_firstQuarrel_L14]
    refine z_iload_n (pc := 14) dX6_firstQuarrel_14 rfl 2 rfl (z_aload_n (pc := 15) dX6_firstQuarrel_15 rfl 0 rfl (z_getI (pc := 16) fl_RX6_17 rfl dX6_firstQuarrel_16 (?_)))
    refine z_icmp_ge (pc := 19) (tgt := 53) dX6_firstQuarrel_19 (by decide) ?_ ?_
    · exact z_sub [0, 1] rfl (qk53 h8)
    · refine z_aload_n (pc := 22) dX6_firstQuarrel_22 rfl 0 rfl (z_getRl (pc := 23) fl_RX6_11 rfl dX6_firstQuarrel_23 (fun o10 => (z_iload_n (pc := 26) dX6_firstQuarrel_26 rfl 1 rfl (?_))))
      refine z_nn (fun a11 ea11 => ?_)
      subst ea11
      refine z_aaloadl (pc := 27) 26 (by decide) dX6_firstQuarrel_27 (fun o12 => (z_aload_n (pc := 28) dX6_firstQuarrel_28 rfl 0 rfl (z_getRl (pc := 29) fl_RX6_11 rfl dX6_firstQuarrel_29 (fun o13 => (z_iload_n (pc := 32) dX6_firstQuarrel_32 rfl 2 rfl (?_))))))
      refine z_nn (fun a14 ea14 => ?_)
      subst ea14
      refine z_aaloadl (pc := 33) 26 (by decide) dX6_firstQuarrel_33 (fun o15 => (?_))
      refine z_nn (fun a16 ea16 => ?_)
      subst ea16
      refine z_callV_I (pc := 34) (avs := [vr o15]) (st := []) rfl (q := (RX5, TX5, 11)) rfl rfl (t_X5_standing F a16 o15 h8) ky_X5_standing wm_X5_standing we_X5_standing wz_RX6_52 (rm_X6_firstQuarrel_X5_standing) (Nat.le_of_ble_eq_true rfl) dX6_firstQuarrel_34 (fun x18 h17 => (?_))
      refine z_if_ge (pc := 37) (tgt := 47) dX6_firstQuarrel_37 (by decide) ?_ ?_
      · refine z_iincl (pc := 47) (L' := fun x19 => [(0, vr (some a5)), (1, vi x6), (2, vi x19)]) dX6_firstQuarrel_47 2 rfl ic_1 (Nat.le_of_ble_eq_true rfl) (fun _ => rfl) (fun x19 => (z_goto (pc := 50) (tgt := 14) dX6_firstQuarrel_50 (by decide) (?_)))
        exact ih x19 h17
      · refine z_bipush (pc := 40) dX6_firstQuarrel_40 bp_100 (z_iload_n (pc := 42) dX6_firstQuarrel_42 rfl 1 rfl (z_imul (pc := 43) dX6_firstQuarrel_43 (z_iload_n (pc := 44) dX6_firstQuarrel_44 rfl 2 rfl (z_iadd (pc := 45) dX6_firstQuarrel_45 (?_)))))
        exact z_iret (pc := 46) dX6_firstQuarrel_46 rfl rfl
set_option maxRecDepth 20000 in
set_option maxHeartbeats 4000000 in
theorem g_X6_firstQuarrel_L2 (F : Nat) (a1 : Nat) : ∀ (n : Nat) (x2 : Int32) (h3 : z_Hp), z_G zi mi_X6_firstQuarrel 2 [(0, vr (some a1)), (1, vi x2)] [] h3 (c_X6_firstQuarrel_L2 F a1 n x2 h3) := by
  intro n
  induction n with
  | zero => intro x2 h3; rw [c_X6_firstQuarrel_L2]; exact z_none
  | succ n ih =>
    intro x2 h3
    rw [c_X6_firstQuarrel_L2]
    refine z_iload_n (pc := 2) dX6_firstQuarrel_2 rfl 1 rfl (z_aload_n (pc := 3) dX6_firstQuarrel_3 rfl 0 rfl (z_getI (pc := 4) fl_RX6_17 rfl dX6_firstQuarrel_4 (?_)))
    refine z_icmp_ge (pc := 7) (tgt := 59) dX6_firstQuarrel_7 (by decide) ?_ ?_
    · refine z_bipush (pc := 59) dX6_firstQuarrel_59 bp_m9 (?_)
      exact z_iret (pc := 61) dX6_firstQuarrel_61 rfl rfl
    · refine z_iload_n (pc := 10) dX6_firstQuarrel_10 rfl 1 rfl (z_iconst (pc := 11) dX6_firstQuarrel_11 ic_1 (z_iadd (pc := 12) dX6_firstQuarrel_12 (z_istorel_n (pc := 13) (L' := fun x4 => [(0, vr (some a1)), (1, vi x2), (2, vi x4)]) dX6_firstQuarrel_13 rfl (Nat.le_of_ble_eq_true rfl) (fun _ => rfl) (fun x4 => (?_)))))
      refine g_X6_firstQuarrel_L14 F a1 x2 _ (fun h20 => ?_) F x4 h3
      refine z_iincl (pc := 53) (L' := fun x21 => [(0, vr (some a1)), (1, vi x21)]) dX6_firstQuarrel_53 1 rfl ic_1 (Nat.le_of_ble_eq_true rfl) (fun _ => rfl) (fun x21 => (z_goto (pc := 56) (tgt := 2) dX6_firstQuarrel_56 (by decide) (?_)))
      exact ih x21 h20
set_option maxRecDepth 20000 in
set_option maxHeartbeats 4000000 in
theorem t_X6_firstQuarrel (F : Nat) (a0 : Nat) (h0 : z_Hp) : z_Ct zi mi_X6_firstQuarrel [vr (some a0)] h0 (c_X6_firstQuarrel F a0 h0) := by
  refine z_entry (by decide) (Nat.le_of_ble_eq_true rfl) [(0, vr (some a0))] rfl ?_
  unfold c_X6_firstQuarrel
  refine z_iconst (pc := 0) dX6_firstQuarrel_0 ic_0 (z_istore_n (pc := 1) (L' := [(0, vr (some a0)), (1, vi 0)]) dX6_firstQuarrel_1 rfl (Nat.le_of_ble_eq_true rfl) rfl (?_))
  refine g_X6_firstQuarrel_L2 F a0 F 0 h0
theorem dX6_isAheadOfAny_0 : decode cX6_isAheadOfAny 0 = .ok (.iconst 0, 1) := by decide +kernel
theorem dX6_isAheadOfAny_1 : decode cX6_isAheadOfAny 1 = .ok (.istore_n 3, 1) := by decide +kernel
theorem dX6_isAheadOfAny_2 : decode cX6_isAheadOfAny 2 = .ok (.iload_n 3, 1) := by decide +kernel
theorem dX6_isAheadOfAny_3 : decode cX6_isAheadOfAny 3 = .ok (.aload_n 0, 1) := by decide +kernel
theorem dX6_isAheadOfAny_4 : decode cX6_isAheadOfAny 4 = .ok (.getfield 17, 3) := by decide +kernel
theorem dX6_isAheadOfAny_7 : decode cX6_isAheadOfAny 7 = .ok (.if_icmp .ge 37, 3) := by decide +kernel
theorem dX6_isAheadOfAny_10 : decode cX6_isAheadOfAny 10 = .ok (.iload_n 2, 1) := by decide +kernel
theorem dX6_isAheadOfAny_11 : decode cX6_isAheadOfAny 11 = .ok (.iload_n 3, 1) := by decide +kernel
theorem dX6_isAheadOfAny_12 : decode cX6_isAheadOfAny 12 = .ok (.invokestatic 55, 3) := by decide +kernel
theorem dX6_isAheadOfAny_15 : decode cX6_isAheadOfAny 15 = .ok (.ifCond .eq 23, 3) := by decide +kernel
theorem dX6_isAheadOfAny_18 : decode cX6_isAheadOfAny 18 = .ok (.aload_n 0, 1) := by decide +kernel
theorem dX6_isAheadOfAny_19 : decode cX6_isAheadOfAny 19 = .ok (.getfield 11, 3) := by decide +kernel
theorem dX6_isAheadOfAny_22 : decode cX6_isAheadOfAny 22 = .ok (.iload_n 1, 1) := by decide +kernel
theorem dX6_isAheadOfAny_23 : decode cX6_isAheadOfAny 23 = .ok (.aaload, 1) := by decide +kernel
theorem dX6_isAheadOfAny_24 : decode cX6_isAheadOfAny 24 = .ok (.aload_n 0, 1) := by decide +kernel
theorem dX6_isAheadOfAny_25 : decode cX6_isAheadOfAny 25 = .ok (.getfield 11, 3) := by decide +kernel
theorem dX6_isAheadOfAny_28 : decode cX6_isAheadOfAny 28 = .ok (.iload_n 3, 1) := by decide +kernel
theorem dX6_isAheadOfAny_29 : decode cX6_isAheadOfAny 29 = .ok (.aaload, 1) := by decide +kernel
theorem dX6_isAheadOfAny_30 : decode cX6_isAheadOfAny 30 = .ok (.invokevirtual 65, 3) := by decide +kernel
theorem dX6_isAheadOfAny_33 : decode cX6_isAheadOfAny 33 = .ok (.ifCond .eq 5, 3) := by decide +kernel
theorem dX6_isAheadOfAny_36 : decode cX6_isAheadOfAny 36 = .ok (.iconst 1, 1) := by decide +kernel
theorem dX6_isAheadOfAny_37 : decode cX6_isAheadOfAny 37 = .ok (.ireturn, 1) := by decide +kernel
theorem dX6_isAheadOfAny_38 : decode cX6_isAheadOfAny 38 = .ok (.iinc 3 1, 3) := by decide +kernel
theorem dX6_isAheadOfAny_41 : decode cX6_isAheadOfAny 41 = .ok (.goto (-39), 3) := by decide +kernel
theorem dX6_isAheadOfAny_44 : decode cX6_isAheadOfAny 44 = .ok (.iconst 0, 1) := by decide +kernel
theorem dX6_isAheadOfAny_45 : decode cX6_isAheadOfAny 45 = .ok (.ireturn, 1) := by decide +kernel
def c_X6_isAheadOfAny_L2 (F : Nat) (a3 : Nat) (x4 : Int32) (x5 : Int32) : Nat → Int32 → z_Hp → Option (Int32 × z_Hp)
  | 0, _, _ => none
  | n + 1, x6, h7 => (if hT h7 a3 = 6 then (if (hI h7 a3 1) ≤ x6 then (some (0, h7)) else (bI (c_X9_has F x5 x6 h7) (fun x9 h8 => (lt_ (fun (h11 : z_Hp) => (lt_ (x6 + 1) (fun x12 => (c_X6_isAheadOfAny_L2 F a3 x4 x5 n x12 h11)))) (fun (j38_10 : z_Hp → Option (Int32 × z_Hp)) => (if x9 = 0 then (j38_10 h8) else (if hT h8 a3 = 6 then (lt_ (hR h8 a3 0) (fun o13 => (nn o13 (fun a14 => (if okA h8 a14 26 x4 = true then (lt_ (hR h8 a14 (ix x4)) (fun o15 => (if hT h8 a3 = 6 then (lt_ (hR h8 a3 0) (fun o16 => (nn o16 (fun a17 => (if okA h8 a17 26 x6 = true then (lt_ (hR h8 a17 (ix x6)) (fun o18 => (nn o15 (fun a19 => (if hT h8 a19 = 5 then (bI (c_X5_isAheadOf F a19 o18 h8) (fun x21 h20 => (if x21 = 0 then (j38_10 h20) else (some (1, h20))))) else none))))) else none))))) else none))) else none))))) else none))))))) else none)
def c_X6_isAheadOfAny (F : Nat) (a0 : Nat) (x1 : Int32) (x2 : Int32) (h0 : z_Hp) : Option (Int32 × z_Hp) := (c_X6_isAheadOfAny_L2 F a0 x1 x2 F 0 h0)
set_option maxRecDepth 20000 in
set_option maxHeartbeats 4000000 in
theorem g_X6_isAheadOfAny_L2 (F : Nat) (a3 : Nat) (x4 : Int32) (x5 : Int32) : ∀ (n : Nat) (x6 : Int32) (h7 : z_Hp), z_G zi mi_X6_isAheadOfAny 2 [(0, vr (some a3)), (1, vi x4), (2, vi x5), (3, vi x6)] [] h7 (c_X6_isAheadOfAny_L2 F a3 x4 x5 n x6 h7) := by
  intro n
  induction n with
  | zero => intro x6 h7; rw [c_X6_isAheadOfAny_L2]; exact z_none
  | succ n ih =>
    intro x6 h7
    rw [c_X6_isAheadOfAny_L2]
    refine z_iload_n (pc := 2) dX6_isAheadOfAny_2 rfl 3 rfl (z_aload_n (pc := 3) dX6_isAheadOfAny_3 rfl 0 rfl (z_getI (pc := 4) fl_RX6_17 rfl dX6_isAheadOfAny_4 (?_)))
    refine z_icmp_ge (pc := 7) (tgt := 44) dX6_isAheadOfAny_7 (by decide) ?_ ?_
    · refine z_iconst (pc := 44) dX6_isAheadOfAny_44 ic_0 (?_)
      exact z_iret (pc := 45) dX6_isAheadOfAny_45 rfl rfl
    · refine z_iload_n (pc := 10) dX6_isAheadOfAny_10 rfl 2 rfl (z_iload_n (pc := 11) dX6_isAheadOfAny_11 rfl 3 rfl (z_callSN_I (pc := 12) (host := "BalladSheets") (avs := [vi x5, vi x6]) (st := []) rfl (t_X9_has F x5 x6 h7) ky_X9_has ws_X9_has (by decide +kernel) (rm_X6_isAheadOfAny_X9_has) (Nat.le_of_ble_eq_true rfl) dX6_isAheadOfAny_12 (fun x9 h8 => (?_))))
      refine z_jn (P := fun (j : z_Hp → Option (Int32 × z_Hp)) => ∀ (h11 : z_Hp), z_G zi mi_X6_isAheadOfAny 38 [(0, vr (some a3)), (1, vi x4), (2, vi x5), (3, vi x6)] [] h11 (j h11)) (fun h11 => ?_) (fun j38_10 qj38_10 => ?_)
      · refine z_iincl (pc := 38) (L' := fun x12 => [(0, vr (some a3)), (1, vi x4), (2, vi x5), (3, vi x12)]) dX6_isAheadOfAny_38 3 rfl ic_1 (Nat.le_of_ble_eq_true rfl) (fun _ => rfl) (fun x12 => (z_goto (pc := 41) (tgt := 2) dX6_isAheadOfAny_41 (by decide) (?_)))
        exact ih x12 h11
      refine z_if_eq (pc := 15) (tgt := 38) dX6_isAheadOfAny_15 (by decide) ?_ ?_
      · exact qj38_10 h8
      · refine z_aload_n (pc := 18) dX6_isAheadOfAny_18 rfl 0 rfl (z_getRl (pc := 19) fl_RX6_11 rfl dX6_isAheadOfAny_19 (fun o13 => (z_iload_n (pc := 22) dX6_isAheadOfAny_22 rfl 1 rfl (?_))))
        refine z_nn (fun a14 ea14 => ?_)
        subst ea14
        refine z_aaloadl (pc := 23) 26 (by decide) dX6_isAheadOfAny_23 (fun o15 => (z_aload_n (pc := 24) dX6_isAheadOfAny_24 rfl 0 rfl (z_getRl (pc := 25) fl_RX6_11 rfl dX6_isAheadOfAny_25 (fun o16 => (z_iload_n (pc := 28) dX6_isAheadOfAny_28 rfl 3 rfl (?_))))))
        refine z_nn (fun a17 ea17 => ?_)
        subst ea17
        refine z_aaloadl (pc := 29) 26 (by decide) dX6_isAheadOfAny_29 (fun o18 => (?_))
        refine z_nn (fun a19 ea19 => ?_)
        subst ea19
        refine z_callV_I (pc := 30) (avs := [vr o18]) (st := []) rfl (q := (RX5, TX5, 11)) rfl rfl (t_X5_isAheadOf F a19 o18 h8) ky_X5_isAheadOf wm_X5_isAheadOf we_X5_isAheadOf wz_RX6_65 (rm_X6_isAheadOfAny_X5_isAheadOf) (Nat.le_of_ble_eq_true rfl) dX6_isAheadOfAny_30 (fun x21 h20 => (?_))
        refine z_if_eq (pc := 33) (tgt := 38) dX6_isAheadOfAny_33 (by decide) ?_ ?_
        · exact qj38_10 h20
        · refine z_iconst (pc := 36) dX6_isAheadOfAny_36 ic_1 (?_)
          exact z_iret (pc := 37) dX6_isAheadOfAny_37 rfl rfl
set_option maxRecDepth 20000 in
set_option maxHeartbeats 4000000 in
theorem t_X6_isAheadOfAny (F : Nat) (a0 : Nat) (x1 : Int32) (x2 : Int32) (h0 : z_Hp) : z_Ct zi mi_X6_isAheadOfAny [vr (some a0), vi x1, vi x2] h0 (c_X6_isAheadOfAny F a0 x1 x2 h0) := by
  refine z_entry (by decide) (Nat.le_of_ble_eq_true rfl) [(0, vr (some a0)), (1, vi x1), (2, vi x2)] rfl ?_
  unfold c_X6_isAheadOfAny
  refine z_iconst (pc := 0) dX6_isAheadOfAny_0 ic_0 (z_istore_n (pc := 1) (L' := [(0, vr (some a0)), (1, vi x1), (2, vi x2), (3, vi 0)]) dX6_isAheadOfAny_1 rfl (Nat.le_of_ble_eq_true rfl) rfl (?_))
  refine g_X6_isAheadOfAny_L2 F a0 x1 x2 F 0 h0
theorem dX6_firstOutOfOrder_0 : decode cX6_firstOutOfOrder 0 = .ok (.iconst 0, 1) := by decide +kernel
theorem dX6_firstOutOfOrder_1 : decode cX6_firstOutOfOrder 1 = .ok (.istore_n 3, 1) := by decide +kernel
theorem dX6_firstOutOfOrder_2 : decode cX6_firstOutOfOrder 2 = .ok (.iconst 0, 1) := by decide +kernel
theorem dX6_firstOutOfOrder_3 : decode cX6_firstOutOfOrder 3 = .ok (.istore 4, 2) := by decide +kernel
theorem dX6_firstOutOfOrder_5 : decode cX6_firstOutOfOrder 5 = .ok (.iload 4, 2) := by decide +kernel
theorem dX6_firstOutOfOrder_7 : decode cX6_firstOutOfOrder 7 = .ok (.aload_n 2, 1) := by decide +kernel
theorem dX6_firstOutOfOrder_8 : decode cX6_firstOutOfOrder 8 = .ok (.arraylength, 1) := by decide +kernel
theorem dX6_firstOutOfOrder_9 : decode cX6_firstOutOfOrder 9 = .ok (.if_icmp .ge 75, 3) := by decide +kernel
theorem dX6_firstOutOfOrder_12 : decode cX6_firstOutOfOrder 12 = .ok (.aload_n 2, 1) := by decide +kernel
theorem dX6_firstOutOfOrder_13 : decode cX6_firstOutOfOrder 13 = .ok (.iload 4, 2) := by decide +kernel
theorem dX6_firstOutOfOrder_15 : decode cX6_firstOutOfOrder 15 = .ok (.iaload, 1) := by decide +kernel
theorem dX6_firstOutOfOrder_16 : decode cX6_firstOutOfOrder 16 = .ok (.istore 5, 2) := by decide +kernel
theorem dX6_firstOutOfOrder_18 : decode cX6_firstOutOfOrder 18 = .ok (.iload 5, 2) := by decide +kernel
theorem dX6_firstOutOfOrder_20 : decode cX6_firstOutOfOrder 20 = .ok (.ifCond .lt 35, 3) := by decide +kernel
theorem dX6_firstOutOfOrder_23 : decode cX6_firstOutOfOrder 23 = .ok (.iload 5, 2) := by decide +kernel
theorem dX6_firstOutOfOrder_25 : decode cX6_firstOutOfOrder 25 = .ok (.aload_n 0, 1) := by decide +kernel
theorem dX6_firstOutOfOrder_26 : decode cX6_firstOutOfOrder 26 = .ok (.getfield 17, 3) := by decide +kernel
theorem dX6_firstOutOfOrder_29 : decode cX6_firstOutOfOrder 29 = .ok (.if_icmp .ge 26, 3) := by decide +kernel
theorem dX6_firstOutOfOrder_32 : decode cX6_firstOutOfOrder 32 = .ok (.aload_n 0, 1) := by decide +kernel
theorem dX6_firstOutOfOrder_33 : decode cX6_firstOutOfOrder 33 = .ok (.getfield 11, 3) := by decide +kernel
theorem dX6_firstOutOfOrder_36 : decode cX6_firstOutOfOrder 36 = .ok (.iload 5, 2) := by decide +kernel
theorem dX6_firstOutOfOrder_38 : decode cX6_firstOutOfOrder 38 = .ok (.aaload, 1) := by decide +kernel
theorem dX6_firstOutOfOrder_39 : decode cX6_firstOutOfOrder 39 = .ok (.getfield 21, 3) := by decide +kernel
theorem dX6_firstOutOfOrder_42 : decode cX6_firstOutOfOrder 42 = .ok (.iload_n 1, 1) := by decide +kernel
theorem dX6_firstOutOfOrder_43 : decode cX6_firstOutOfOrder 43 = .ok (.if_icmp .ne 12, 3) := by decide +kernel
theorem dX6_firstOutOfOrder_46 : decode cX6_firstOutOfOrder 46 = .ok (.iload_n 3, 1) := by decide +kernel
theorem dX6_firstOutOfOrder_47 : decode cX6_firstOutOfOrder 47 = .ok (.iload 5, 2) := by decide +kernel
theorem dX6_firstOutOfOrder_49 : decode cX6_firstOutOfOrder 49 = .ok (.invokestatic 55, 3) := by decide +kernel
theorem dX6_firstOutOfOrder_52 : decode cX6_firstOutOfOrder 52 = .ok (.ifCond .eq 6, 3) := by decide +kernel
theorem dX6_firstOutOfOrder_55 : decode cX6_firstOutOfOrder 55 = .ok (.iload 4, 2) := by decide +kernel
theorem dX6_firstOutOfOrder_57 : decode cX6_firstOutOfOrder 57 = .ok (.ireturn, 1) := by decide +kernel
theorem dX6_firstOutOfOrder_58 : decode cX6_firstOutOfOrder 58 = .ok (.aload_n 0, 1) := by decide +kernel
theorem dX6_firstOutOfOrder_59 : decode cX6_firstOutOfOrder 59 = .ok (.iload 5, 2) := by decide +kernel
theorem dX6_firstOutOfOrder_61 : decode cX6_firstOutOfOrder 61 = .ok (.iload_n 3, 1) := by decide +kernel
theorem dX6_firstOutOfOrder_62 : decode cX6_firstOutOfOrder 62 = .ok (.invokevirtual 59, 3) := by decide +kernel
theorem dX6_firstOutOfOrder_65 : decode cX6_firstOutOfOrder 65 = .ok (.ifCond .eq 6, 3) := by decide +kernel
theorem dX6_firstOutOfOrder_68 : decode cX6_firstOutOfOrder 68 = .ok (.iload 4, 2) := by decide +kernel
theorem dX6_firstOutOfOrder_70 : decode cX6_firstOutOfOrder 70 = .ok (.ireturn, 1) := by decide +kernel
theorem dX6_firstOutOfOrder_71 : decode cX6_firstOutOfOrder 71 = .ok (.iload_n 3, 1) := by decide +kernel
theorem dX6_firstOutOfOrder_72 : decode cX6_firstOutOfOrder 72 = .ok (.iconst 1, 1) := by decide +kernel
theorem dX6_firstOutOfOrder_73 : decode cX6_firstOutOfOrder 73 = .ok (.iload 5, 2) := by decide +kernel
theorem dX6_firstOutOfOrder_75 : decode cX6_firstOutOfOrder 75 = .ok (.ishl, 1) := by decide +kernel
theorem dX6_firstOutOfOrder_76 : decode cX6_firstOutOfOrder 76 = .ok (.ior, 1) := by decide +kernel
theorem dX6_firstOutOfOrder_77 : decode cX6_firstOutOfOrder 77 = .ok (.istore_n 3, 1) := by decide +kernel
theorem dX6_firstOutOfOrder_78 : decode cX6_firstOutOfOrder 78 = .ok (.iinc 4 1, 3) := by decide +kernel
theorem dX6_firstOutOfOrder_81 : decode cX6_firstOutOfOrder 81 = .ok (.goto (-76), 3) := by decide +kernel
theorem dX6_firstOutOfOrder_84 : decode cX6_firstOutOfOrder 84 = .ok (.aload_n 2, 1) := by decide +kernel
theorem dX6_firstOutOfOrder_85 : decode cX6_firstOutOfOrder 85 = .ok (.arraylength, 1) := by decide +kernel
theorem dX6_firstOutOfOrder_86 : decode cX6_firstOutOfOrder 86 = .ok (.aload_n 0, 1) := by decide +kernel
theorem dX6_firstOutOfOrder_87 : decode cX6_firstOutOfOrder 87 = .ok (.iload_n 1, 1) := by decide +kernel
theorem dX6_firstOutOfOrder_88 : decode cX6_firstOutOfOrder 88 = .ok (.invokevirtual 62, 3) := by decide +kernel
theorem dX6_firstOutOfOrder_91 : decode cX6_firstOutOfOrder 91 = .ok (.if_icmp .ge 8, 3) := by decide +kernel
theorem dX6_firstOutOfOrder_94 : decode cX6_firstOutOfOrder 94 = .ok (.aload_n 2, 1) := by decide +kernel
theorem dX6_firstOutOfOrder_95 : decode cX6_firstOutOfOrder 95 = .ok (.arraylength, 1) := by decide +kernel
theorem dX6_firstOutOfOrder_96 : decode cX6_firstOutOfOrder 96 = .ok (.goto 5, 3) := by decide +kernel
theorem dX6_firstOutOfOrder_99 : decode cX6_firstOutOfOrder 99 = .ok (.bipush (-9), 2) := by decide +kernel
theorem dX6_firstOutOfOrder_101 : decode cX6_firstOutOfOrder 101 = .ok (.ireturn, 1) := by decide +kernel
def c_X6_firstOutOfOrder_L5 (F : Nat) (a3 : Nat) (x4 : Int32) (o5 : Option Nat) (k84 : z_Hp → Option (Int32 × z_Hp)) : Nat → Int32 → Int32 → z_Hp → Option (Int32 × z_Hp)
  | 0, _, _, _ => none
  | n + 1, x6, x7, h8 => (nn o5 (fun a10 => (if okL h8 a10 = true then (if (nI (hN h8 a10)) ≤ x7 then (k84 h8) else (if okA h8 a10 20 x7 = true then (lt_ (hI h8 a10 (ix x7)) (fun x11 => (if x11 < 0 then (some (x7, h8)) else (if hT h8 a3 = 6 then (if (hI h8 a3 1) ≤ x11 then (some (x7, h8)) else (if hT h8 a3 = 6 then (lt_ (hR h8 a3 0) (fun o12 => (nn o12 (fun a13 => (if okA h8 a13 26 x11 = true then (lt_ (hR h8 a13 (ix x11)) (fun o14 => (nn o14 (fun a15 => (if hT h8 a15 = 5 then (if (hI h8 a15 5) = x4 then (bI (c_X9_has F x6 x11 h8) (fun x17 h16 => (if x17 = 0 then (if hT h16 a3 = 6 then (bI (c_X6_isAheadOfAny F a3 x11 x6 h16) (fun x19 h18 => (if x19 = 0 then (lt_ (x6 ||| (1 <<< (x11 &&& 31))) (fun x20 => (lt_ (x7 + 1) (fun x21 => (c_X6_firstOutOfOrder_L5 F a3 x4 o5 k84 n x20 x21 h18))))) else (some (x7, h18))))) else none) else (some (x7, h16))))) else (some (x7, h8))) else none))))) else none))))) else none)) else none)))) else none)) else none)))
def c_X6_firstOutOfOrder (F : Nat) (a0 : Nat) (x1 : Int32) (o2 : Option Nat) (h0 : z_Hp) : Option (Int32 × z_Hp) := (c_X6_firstOutOfOrder_L5 F a0 x1 o2 (fun h22 => (nn o2 (fun a23 => (if okL h22 a23 = true then (if hT h22 a0 = 6 then (bI (c_X6_withBlock F a0 x1 h22) (fun x25 h24 => (if x25 ≤ (nI (hN h22 a23)) then (some ((-9), h24)) else (if okL h24 a23 = true then (some (nI (hN h24 a23), h24)) else none)))) else none) else none)))) F 0 0 h0)
set_option maxRecDepth 20000 in
set_option maxHeartbeats 4000000 in
theorem g_X6_firstOutOfOrder_L5 (F : Nat) (a3 : Nat) (x4 : Int32) (o5 : Option Nat) (k84 : z_Hp → Option (Int32 × z_Hp)) (qk84 : ∀ (h9 : z_Hp), z_G zi mi_X6_firstOutOfOrder 84 [(0, vr (some a3)), (1, vi x4), (2, vr o5)] [] h9 (k84 h9)) : ∀ (n : Nat) (x6 : Int32) (x7 : Int32) (h8 : z_Hp), z_G zi mi_X6_firstOutOfOrder 5 [(0, vr (some a3)), (1, vi x4), (2, vr o5), (3, vi x6), (4, vi x7)] [] h8 (c_X6_firstOutOfOrder_L5 F a3 x4 o5 k84 n x6 x7 h8) := by
  intro n
  induction n with
  | zero => intro x6 x7 h8; rw [c_X6_firstOutOfOrder_L5]; exact z_none
  | succ n ih =>
    intro x6 x7 h8
    rw [c_X6_firstOutOfOrder_L5]
    refine z_iload (pc := 5) dX6_firstOutOfOrder_5 4 rfl (z_aload_n (pc := 7) dX6_firstOutOfOrder_7 rfl 2 rfl (?_))
    refine z_nn (fun a10 ea10 => ?_)
    subst ea10
    refine z_alen (pc := 8) dX6_firstOutOfOrder_8 (?_)
    refine z_icmp_ge (pc := 9) (tgt := 84) dX6_firstOutOfOrder_9 (by decide) ?_ ?_
    · exact z_sub [0, 1, 2] rfl (qk84 h8)
    · refine z_aload_n (pc := 12) dX6_firstOutOfOrder_12 rfl 2 rfl (z_iload (pc := 13) dX6_firstOutOfOrder_13 4 rfl (z_iaload (pc := 15) dX6_firstOutOfOrder_15 (z_istorel (pc := 16) (L' := fun x11 => [(0, vr (some a3)), (1, vi x4), (2, vr (some a10)), (3, vi x6), (4, vi x7), (5, vi x11)]) dX6_firstOutOfOrder_16 (Nat.le_of_ble_eq_true rfl) (fun _ => rfl) (fun x11 => (z_iload (pc := 18) dX6_firstOutOfOrder_18 5 rfl (?_))))))
      refine z_if_lt (pc := 20) (tgt := 55) dX6_firstOutOfOrder_20 (by decide) ?_ ?_
      · refine z_iload (pc := 55) dX6_firstOutOfOrder_55 4 rfl (?_)
        exact z_iret (pc := 57) dX6_firstOutOfOrder_57 rfl rfl
      · refine z_iload (pc := 23) dX6_firstOutOfOrder_23 5 rfl (z_aload_n (pc := 25) dX6_firstOutOfOrder_25 rfl 0 rfl (z_getI (pc := 26) fl_RX6_17 rfl dX6_firstOutOfOrder_26 (?_)))
        refine z_icmp_ge (pc := 29) (tgt := 55) dX6_firstOutOfOrder_29 (by decide) ?_ ?_
        · refine z_iload (pc := 55) dX6_firstOutOfOrder_55 4 rfl (?_)
          exact z_iret (pc := 57) dX6_firstOutOfOrder_57 rfl rfl
        · refine z_aload_n (pc := 32) dX6_firstOutOfOrder_32 rfl 0 rfl (z_getRl (pc := 33) fl_RX6_11 rfl dX6_firstOutOfOrder_33 (fun o12 => (z_iload (pc := 36) dX6_firstOutOfOrder_36 5 rfl (?_))))
          refine z_nn (fun a13 ea13 => ?_)
          subst ea13
          refine z_aaloadl (pc := 38) 26 (by decide) dX6_firstOutOfOrder_38 (fun o14 => (?_))
          refine z_nn (fun a15 ea15 => ?_)
          subst ea15
          refine z_getI (pc := 39) fl_RX6_21 rfl dX6_firstOutOfOrder_39 (z_iload_n (pc := 42) dX6_firstOutOfOrder_42 rfl 1 rfl (?_))
          refine z_icmp_ne (pc := 43) (tgt := 55) dX6_firstOutOfOrder_43 (by decide) ?_ ?_
          · refine z_iload (pc := 55) dX6_firstOutOfOrder_55 4 rfl (?_)
            exact z_iret (pc := 57) dX6_firstOutOfOrder_57 rfl rfl
          · refine z_iload_n (pc := 46) dX6_firstOutOfOrder_46 rfl 3 rfl (z_iload (pc := 47) dX6_firstOutOfOrder_47 5 rfl (z_callSN_I (pc := 49) (host := "BalladSheets") (avs := [vi x6, vi x11]) (st := []) rfl (t_X9_has F x6 x11 h8) ky_X9_has ws_X9_has (by decide +kernel) (rm_X6_firstOutOfOrder_X9_has) (Nat.le_of_ble_eq_true rfl) dX6_firstOutOfOrder_49 (fun x17 h16 => (?_))))
            refine z_if_eq (pc := 52) (tgt := 58) dX6_firstOutOfOrder_52 (by decide) ?_ ?_
            · refine z_aload_n (pc := 58) dX6_firstOutOfOrder_58 rfl 0 rfl (z_iload (pc := 59) dX6_firstOutOfOrder_59 5 rfl (z_iload_n (pc := 61) dX6_firstOutOfOrder_61 rfl 3 rfl (z_callV_I (pc := 62) (avs := [vi x11, vi x6]) (st := []) rfl (q := (RX6, TX6, 2)) rfl rfl (t_X6_isAheadOfAny F a3 x11 x6 h16) ky_X6_isAheadOfAny wm_X6_isAheadOfAny we_X6_isAheadOfAny wz_RX6_59 (rm_X6_firstOutOfOrder_X6_isAheadOfAny) (Nat.le_of_ble_eq_true rfl) dX6_firstOutOfOrder_62 (fun x19 h18 => (?_)))))
              refine z_if_eq (pc := 65) (tgt := 71) dX6_firstOutOfOrder_65 (by decide) ?_ ?_
              · refine z_iload_n (pc := 71) dX6_firstOutOfOrder_71 rfl 3 rfl (z_iconst (pc := 72) dX6_firstOutOfOrder_72 ic_1 (z_iload (pc := 73) dX6_firstOutOfOrder_73 5 rfl (z_ishl (pc := 75) dX6_firstOutOfOrder_75 (z_ior (pc := 76) dX6_firstOutOfOrder_76 (z_istorel_n (pc := 77) (L' := fun x20 => [(0, vr (some a3)), (1, vi x4), (2, vr (some a10)), (3, vi x20), (4, vi x7), (5, vi x11)]) dX6_firstOutOfOrder_77 rfl (Nat.le_of_ble_eq_true rfl) (fun _ => rfl) (fun x20 => (z_iincl (pc := 78) (L' := fun x21 => [(0, vr (some a3)), (1, vi x4), (2, vr (some a10)), (3, vi x20), (4, vi x21), (5, vi x11)]) dX6_firstOutOfOrder_78 4 rfl ic_1 (Nat.le_of_ble_eq_true rfl) (fun _ => rfl) (fun x21 => (z_goto (pc := 81) (tgt := 5) dX6_firstOutOfOrder_81 (by decide) (?_))))))))))
                exact z_sub [0, 1, 2, 3, 4] rfl (ih x20 x21 h18)
              · refine z_iload (pc := 68) dX6_firstOutOfOrder_68 4 rfl (?_)
                exact z_iret (pc := 70) dX6_firstOutOfOrder_70 rfl rfl
            · refine z_iload (pc := 55) dX6_firstOutOfOrder_55 4 rfl (?_)
              exact z_iret (pc := 57) dX6_firstOutOfOrder_57 rfl rfl
set_option maxRecDepth 20000 in
set_option maxHeartbeats 4000000 in
theorem t_X6_firstOutOfOrder (F : Nat) (a0 : Nat) (x1 : Int32) (o2 : Option Nat) (h0 : z_Hp) : z_Ct zi mi_X6_firstOutOfOrder [vr (some a0), vi x1, vr o2] h0 (c_X6_firstOutOfOrder F a0 x1 o2 h0) := by
  refine z_entry (by decide) (Nat.le_of_ble_eq_true rfl) [(0, vr (some a0)), (1, vi x1), (2, vr o2)] rfl ?_
  unfold c_X6_firstOutOfOrder
  refine z_iconst (pc := 0) dX6_firstOutOfOrder_0 ic_0 (z_istore_n (pc := 1) (L' := [(0, vr (some a0)), (1, vi x1), (2, vr o2), (3, vi 0)]) dX6_firstOutOfOrder_1 rfl (Nat.le_of_ble_eq_true rfl) rfl (z_iconst (pc := 2) dX6_firstOutOfOrder_2 ic_0 (z_istore (pc := 3) (L' := [(0, vr (some a0)), (1, vi x1), (2, vr o2), (3, vi 0), (4, vi 0)]) dX6_firstOutOfOrder_3 (Nat.le_of_ble_eq_true rfl) rfl (?_))))
  refine g_X6_firstOutOfOrder_L5 F a0 x1 o2 _ (fun h22 => ?_) F 0 0 h0
  refine z_aload_n (pc := 84) dX6_firstOutOfOrder_84 rfl 2 rfl (?_)
  refine z_nn (fun a23 ea23 => ?_)
  subst ea23
  refine z_alen (pc := 85) dX6_firstOutOfOrder_85 (z_aload_n (pc := 86) dX6_firstOutOfOrder_86 rfl 0 rfl (z_iload_n (pc := 87) dX6_firstOutOfOrder_87 rfl 1 rfl (z_callV_I (pc := 88) (avs := [vi x1]) (st := [vi (nI (hN h22 a23))]) rfl (q := (RX6, TX6, 2)) rfl rfl (t_X6_withBlock F a0 x1 h22) ky_X6_withBlock wm_X6_withBlock we_X6_withBlock wz_RX6_62 (rm_X6_firstOutOfOrder_X6_withBlock) (Nat.le_of_ble_eq_true rfl) dX6_firstOutOfOrder_88 (fun x25 h24 => (?_)))))
  refine z_icmp_ge (pc := 91) (tgt := 99) dX6_firstOutOfOrder_91 (by decide) ?_ ?_
  · refine z_bipush (pc := 99) dX6_firstOutOfOrder_99 bp_m9 (?_)
    exact z_iret (pc := 101) dX6_firstOutOfOrder_101 rfl rfl
  · refine z_aload_n (pc := 94) dX6_firstOutOfOrder_94 rfl 2 rfl (z_alen (pc := 95) dX6_firstOutOfOrder_95 (z_goto (pc := 96) (tgt := 101) dX6_firstOutOfOrder_96 (by decide) (?_)))
    exact z_iret (pc := 101) dX6_firstOutOfOrder_101 rfl rfl
theorem dX6_mixAll_0 : decode cX6_mixAll 0 = .ok (.lload_n 1, 1) := by decide +kernel
theorem dX6_mixAll_1 : decode cX6_mixAll 1 = .ok (.lstore_n 3, 1) := by decide +kernel
theorem dX6_mixAll_2 : decode cX6_mixAll 2 = .ok (.iconst 0, 1) := by decide +kernel
theorem dX6_mixAll_3 : decode cX6_mixAll 3 = .ok (.istore 5, 2) := by decide +kernel
theorem dX6_mixAll_5 : decode cX6_mixAll 5 = .ok (.iload 5, 2) := by decide +kernel
theorem dX6_mixAll_7 : decode cX6_mixAll 7 = .ok (.aload_n 0, 1) := by decide +kernel
theorem dX6_mixAll_8 : decode cX6_mixAll 8 = .ok (.getfield 17, 3) := by decide +kernel
theorem dX6_mixAll_11 : decode cX6_mixAll 11 = .ok (.if_icmp .ge 71, 3) := by decide +kernel
theorem dX6_mixAll_14 : decode cX6_mixAll 14 = .ok (.iconst 0, 1) := by decide +kernel
theorem dX6_mixAll_15 : decode cX6_mixAll 15 = .ok (.istore 6, 2) := by decide +kernel
theorem dX6_mixAll_17 : decode cX6_mixAll 17 = .ok (.iload 6, 2) := by decide +kernel
theorem dX6_mixAll_19 : decode cX6_mixAll 19 = .ok (.bipush 9, 2) := by decide +kernel
theorem dX6_mixAll_21 : decode cX6_mixAll 21 = .ok (.if_icmp .ge 26, 3) := by decide +kernel
theorem dX6_mixAll_24 : decode cX6_mixAll 24 = .ok (.lload_n 3, 1) := by decide +kernel
theorem dX6_mixAll_25 : decode cX6_mixAll 25 = .ok (.aload_n 0, 1) := by decide +kernel
theorem dX6_mixAll_26 : decode cX6_mixAll 26 = .ok (.getfield 11, 3) := by decide +kernel
theorem dX6_mixAll_29 : decode cX6_mixAll 29 = .ok (.iload 5, 2) := by decide +kernel
theorem dX6_mixAll_31 : decode cX6_mixAll 31 = .ok (.aaload, 1) := by decide +kernel
theorem dX6_mixAll_32 : decode cX6_mixAll 32 = .ok (.iload 6, 2) := by decide +kernel
theorem dX6_mixAll_34 : decode cX6_mixAll 34 = .ok (.invokevirtual 68, 3) := by decide +kernel
theorem dX6_mixAll_37 : decode cX6_mixAll 37 = .ok (.invokestatic 71, 3) := by decide +kernel
theorem dX6_mixAll_40 : decode cX6_mixAll 40 = .ok (.lstore_n 3, 1) := by decide +kernel
theorem dX6_mixAll_41 : decode cX6_mixAll 41 = .ok (.iinc 6 1, 3) := by decide +kernel
theorem dX6_mixAll_44 : decode cX6_mixAll 44 = .ok (.goto (-27), 3) := by decide +kernel
theorem dX6_mixAll_47 : decode cX6_mixAll 47 = .ok (.aload_n 0, 1) := by decide +kernel
theorem dX6_mixAll_48 : decode cX6_mixAll 48 = .ok (.getfield 11, 3) := by decide +kernel
theorem dX6_mixAll_51 : decode cX6_mixAll 51 = .ok (.iload 5, 2) := by decide +kernel
theorem dX6_mixAll_53 : decode cX6_mixAll 53 = .ok (.aaload, 1) := by decide +kernel
theorem dX6_mixAll_54 : decode cX6_mixAll 54 = .ok (.getfield 75, 3) := by decide +kernel
theorem dX6_mixAll_57 : decode cX6_mixAll 57 = .ok (.iconst 2, 1) := by decide +kernel
theorem dX6_mixAll_58 : decode cX6_mixAll 58 = .ok (.if_icmp .ne 18, 3) := by decide +kernel
theorem dX6_mixAll_61 : decode cX6_mixAll 61 = .ok (.lload_n 3, 1) := by decide +kernel
theorem dX6_mixAll_62 : decode cX6_mixAll 62 = .ok (.aload_n 0, 1) := by decide +kernel
theorem dX6_mixAll_63 : decode cX6_mixAll 63 = .ok (.getfield 11, 3) := by decide +kernel
theorem dX6_mixAll_66 : decode cX6_mixAll 66 = .ok (.iload 5, 2) := by decide +kernel
theorem dX6_mixAll_68 : decode cX6_mixAll 68 = .ok (.aaload, 1) := by decide +kernel
theorem dX6_mixAll_69 : decode cX6_mixAll 69 = .ok (.getfield 78, 3) := by decide +kernel
theorem dX6_mixAll_72 : decode cX6_mixAll 72 = .ok (.invokestatic 82, 3) := by decide +kernel
theorem dX6_mixAll_75 : decode cX6_mixAll 75 = .ok (.lstore_n 3, 1) := by decide +kernel
theorem dX6_mixAll_76 : decode cX6_mixAll 76 = .ok (.iinc 5 1, 3) := by decide +kernel
theorem dX6_mixAll_79 : decode cX6_mixAll 79 = .ok (.goto (-74), 3) := by decide +kernel
theorem dX6_mixAll_82 : decode cX6_mixAll 82 = .ok (.lload_n 3, 1) := by decide +kernel
theorem dX6_mixAll_83 : decode cX6_mixAll 83 = .ok (.lreturn, 1) := by decide +kernel
def c_X6_mixAll_L17 (F : Nat) (a6 : Nat) (x7 : Int32) (k47 : Int64 → z_Hp → Option (Int64 × z_Hp)) : Nat → Int64 → Int32 → z_Hp → Option (Int64 × z_Hp)
  | 0, _, _, _ => none
  | n + 1, y8, x9, h10 => (if 9 ≤ x9 then (k47 y8 h10) else (if hT h10 a6 = 6 then (lt_ (hR h10 a6 0) (fun o13 => (nn o13 (fun a14 => (if okA h10 a14 26 x7 = true then (lt_ (hR h10 a14 (ix x7)) (fun o15 => (nn o15 (fun a16 => (if hT h10 a16 = 5 then (bI (c_X5_tells F a16 x9 h10) (fun x18 h17 => (bL (c_X9_mix F y8 x18 h17) (fun y20 h19 => (lt_ (x9 + 1) (fun x21 => (c_X6_mixAll_L17 F a6 x7 k47 n y20 x21 h19))))))) else none))))) else none))))) else none))
def c_X6_mixAll_L5 (F : Nat) (a2 : Nat) : Nat → Int64 → Int32 → z_Hp → Option (Int64 × z_Hp)
  | 0, _, _, _ => none
  | n + 1, y3, x4, h5 => (if hT h5 a2 = 6 then (if (hI h5 a2 1) ≤ x4 then (some (y3, h5)) else (c_X6_mixAll_L17 F a2 x4 (fun y22 h23 => (if hT h23 a2 = 6 then (lt_ (hR h23 a2 0) (fun o24 => (nn o24 (fun a25 => (if okA h23 a25 26 x4 = true then (lt_ (hR h23 a25 (ix x4)) (fun o26 => (nn o26 (fun a27 => (if hT h23 a27 = 5 then (lt_ (fun (y29 : Int64) (h30 : z_Hp) => (lt_ (x4 + 1) (fun x31 => (c_X6_mixAll_L5 F a2 n y29 x31 h30)))) (fun (j76_28 : Int64 → z_Hp → Option (Int64 × z_Hp)) => (if (hI h23 a27 0) = 2 then (if hT h23 a2 = 6 then (lt_ (hR h23 a2 0) (fun o32 => (nn o32 (fun a33 => (if okA h23 a33 26 x4 = true then (lt_ (hR h23 a33 (ix x4)) (fun o34 => (nn o34 (fun a35 => (if hT h23 a35 = 5 then (lt_ (hR h23 a35 4) (fun o36 => (bL (c_X9_mixRow F y22 o36 h23) (fun y38 h37 => (j76_28 y38 h37))))) else none))))) else none))))) else none) else (j76_28 y22 h23)))) else none))))) else none))))) else none)) F y3 0 h5)) else none)
def c_X6_mixAll (F : Nat) (a0 : Nat) (y1 : Int64) (h0 : z_Hp) : Option (Int64 × z_Hp) := (c_X6_mixAll_L5 F a0 F y1 0 h0)
set_option maxRecDepth 20000 in
set_option maxHeartbeats 4000000 in
theorem g_X6_mixAll_L17 (F : Nat) (a6 : Nat) (x7 : Int32) (k47 : Int64 → z_Hp → Option (Int64 × z_Hp)) (qk47 : ∀ (y11 : Int64) (h12 : z_Hp), z_G zl mi_X6_mixAll 47 [(0, vr (some a6)), (3, vl y11), (5, vi x7)] [] h12 (k47 y11 h12)) : ∀ (n : Nat) (y8 : Int64) (x9 : Int32) (h10 : z_Hp), z_G zl mi_X6_mixAll 17 [(0, vr (some a6)), (3, vl y8), (5, vi x7), (6, vi x9)] [] h10 (c_X6_mixAll_L17 F a6 x7 k47 n y8 x9 h10) := by
  intro n
  induction n with
  | zero => intro y8 x9 h10; rw [c_X6_mixAll_L17]; exact z_none
  | succ n ih =>
    intro y8 x9 h10
    rw [c_X6_mixAll_L17]
    refine z_iload (pc := 17) dX6_mixAll_17 3 rfl (z_bipush (pc := 19) dX6_mixAll_19 bp_9 (?_))
    refine z_icmp_ge (pc := 21) (tgt := 47) dX6_mixAll_21 (by decide) ?_ ?_
    · exact z_sub [0, 1, 2] rfl (qk47 y8 h10)
    · refine z_lload_n (pc := 24) dX6_mixAll_24 rfl 1 rfl (z_aload_n (pc := 25) dX6_mixAll_25 rfl 0 rfl (z_getRl (pc := 26) fl_RX6_11 rfl dX6_mixAll_26 (fun o13 => (z_iload (pc := 29) dX6_mixAll_29 2 rfl (?_)))))
      refine z_nn (fun a14 ea14 => ?_)
      subst ea14
      refine z_aaloadl (pc := 31) 26 (by decide) dX6_mixAll_31 (fun o15 => (z_iload (pc := 32) dX6_mixAll_32 3 rfl (?_)))
      refine z_nn (fun a16 ea16 => ?_)
      subst ea16
      refine z_callV_I (pc := 34) (avs := [vi x9]) (st := [vl y8]) rfl (q := (RX5, TX5, 11)) rfl rfl (t_X5_tells F a16 x9 h10) ky_X5_tells wm_X5_tells we_X5_tells wz_RX6_68 (rm_X6_mixAll_X5_tells) (Nat.le_of_ble_eq_true rfl) dX6_mixAll_34 (fun x18 h17 => (?_))
      refine z_callSN_L (pc := 37) (host := "BalladSheets") (avs := [vl y8, vi x18]) (st := []) rfl (t_X9_mix F y8 x18 h17) ky_X9_mix ws_X9_mix (by decide +kernel) (rm_X6_mixAll_X9_mix) (Nat.le_of_ble_eq_true rfl) dX6_mixAll_37 (fun y20 h19 => (?_))
      refine z_lstore_n (pc := 40) (L' := [(0, vr (some a6)), (3, vl y20), (5, vi x7), (6, vi x9)]) dX6_mixAll_40 rfl (Nat.le_of_ble_eq_true rfl) rfl (z_iincl (pc := 41) (L' := fun x21 => [(0, vr (some a6)), (3, vl y20), (5, vi x7), (6, vi x21)]) dX6_mixAll_41 3 rfl ic_1 (Nat.le_of_ble_eq_true rfl) (fun _ => rfl) (fun x21 => (z_goto (pc := 44) (tgt := 17) dX6_mixAll_44 (by decide) (?_))))
      exact ih y20 x21 h19
set_option maxRecDepth 20000 in
set_option maxHeartbeats 4000000 in
theorem g_X6_mixAll_L5 (F : Nat) (a2 : Nat) : ∀ (n : Nat) (y3 : Int64) (x4 : Int32) (h5 : z_Hp), z_G zl mi_X6_mixAll 5 [(0, vr (some a2)), (3, vl y3), (5, vi x4)] [] h5 (c_X6_mixAll_L5 F a2 n y3 x4 h5) := by
  intro n
  induction n with
  | zero => intro y3 x4 h5; rw [c_X6_mixAll_L5]; exact z_none
  | succ n ih =>
    intro y3 x4 h5
    rw [c_X6_mixAll_L5]
    refine z_iload (pc := 5) dX6_mixAll_5 2 rfl (z_aload_n (pc := 7) dX6_mixAll_7 rfl 0 rfl (z_getI (pc := 8) fl_RX6_17 rfl dX6_mixAll_8 (?_)))
    refine z_icmp_ge (pc := 11) (tgt := 82) dX6_mixAll_11 (by decide) ?_ ?_
    · refine z_lload_n (pc := 82) dX6_mixAll_82 rfl 1 rfl (?_)
      exact z_lret (pc := 83) dX6_mixAll_83 rfl
    · refine z_iconst (pc := 14) dX6_mixAll_14 ic_0 (z_istore (pc := 15) (L' := [(0, vr (some a2)), (3, vl y3), (5, vi x4), (6, vi 0)]) dX6_mixAll_15 (Nat.le_of_ble_eq_true rfl) rfl (?_))
      refine g_X6_mixAll_L17 F a2 x4 _ (fun y22 h23 => ?_) F y3 0 h5
      refine z_aload_n (pc := 47) dX6_mixAll_47 rfl 0 rfl (z_getRl (pc := 48) fl_RX6_11 rfl dX6_mixAll_48 (fun o24 => (z_iload (pc := 51) dX6_mixAll_51 2 rfl (?_))))
      refine z_nn (fun a25 ea25 => ?_)
      subst ea25
      refine z_aaloadl (pc := 53) 26 (by decide) dX6_mixAll_53 (fun o26 => (?_))
      refine z_nn (fun a27 ea27 => ?_)
      subst ea27
      refine z_getI (pc := 54) fl_RX6_75 rfl dX6_mixAll_54 (z_iconst (pc := 57) dX6_mixAll_57 ic_2 (?_))
      refine z_jn (P := fun (j : Int64 → z_Hp → Option (Int64 × z_Hp)) => ∀ (y29 : Int64) (h30 : z_Hp), z_G zl mi_X6_mixAll 76 [(0, vr (some a2)), (3, vl y29), (5, vi x4)] [] h30 (j y29 h30)) (fun y29 h30 => ?_) (fun j76_28 qj76_28 => ?_)
      · refine z_iincl (pc := 76) (L' := fun x31 => [(0, vr (some a2)), (3, vl y29), (5, vi x31)]) dX6_mixAll_76 2 rfl ic_1 (Nat.le_of_ble_eq_true rfl) (fun _ => rfl) (fun x31 => (z_goto (pc := 79) (tgt := 5) dX6_mixAll_79 (by decide) (?_)))
        exact ih y29 x31 h30
      refine z_icmp_ne (pc := 58) (tgt := 76) dX6_mixAll_58 (by decide) ?_ ?_
      · exact qj76_28 y22 h23
      · refine z_lload_n (pc := 61) dX6_mixAll_61 rfl 1 rfl (z_aload_n (pc := 62) dX6_mixAll_62 rfl 0 rfl (z_getRl (pc := 63) fl_RX6_11 rfl dX6_mixAll_63 (fun o32 => (z_iload (pc := 66) dX6_mixAll_66 2 rfl (?_)))))
        refine z_nn (fun a33 ea33 => ?_)
        subst ea33
        refine z_aaloadl (pc := 68) 26 (by decide) dX6_mixAll_68 (fun o34 => (?_))
        refine z_nn (fun a35 ea35 => ?_)
        subst ea35
        refine z_getRl (pc := 69) fl_RX6_78 rfl dX6_mixAll_69 (fun o36 => (z_callSN_L (pc := 72) (host := "BalladSheets") (avs := [vl y22, vr o36]) (st := []) rfl (t_X9_mixRow F y22 o36 h23) ky_X9_mixRow ws_X9_mixRow (by decide +kernel) (rm_X6_mixAll_X9_mixRow) (Nat.le_of_ble_eq_true rfl) dX6_mixAll_72 (fun y38 h37 => (?_))))
        refine z_lstore_n (pc := 75) (L' := [(0, vr (some a2)), (3, vl y38), (5, vi x4)]) dX6_mixAll_75 rfl (Nat.le_of_ble_eq_true rfl) rfl (?_)
        exact qj76_28 y38 h37
set_option maxRecDepth 20000 in
set_option maxHeartbeats 4000000 in
theorem t_X6_mixAll (F : Nat) (a0 : Nat) (y1 : Int64) (h0 : z_Hp) : z_Ct zl mi_X6_mixAll [vr (some a0), vl y1] h0 (c_X6_mixAll F a0 y1 h0) := by
  refine z_entry (by decide) (Nat.le_of_ble_eq_true rfl) [(0, vr (some a0)), (1, vl y1)] rfl ?_
  unfold c_X6_mixAll
  refine z_lload_n (pc := 0) dX6_mixAll_0 rfl 1 rfl (z_lstore_n (pc := 1) (L' := [(0, vr (some a0)), (1, vl y1), (3, vl y1)]) dX6_mixAll_1 rfl (Nat.le_of_ble_eq_true rfl) rfl (z_iconst (pc := 2) dX6_mixAll_2 ic_0 (z_istore (pc := 3) (L' := [(0, vr (some a0)), (1, vl y1), (3, vl y1), (5, vi 0)]) dX6_mixAll_3 (Nat.le_of_ble_eq_true rfl) rfl (?_))))
  refine z_sub [0, 2, 3] rfl (g_X6_mixAll_L5 F a0 F y1 0 h0)
theorem dJ7_copyOf_9075b_0 : decode cJ7_copyOf_9075b 0 = .ok (.iload_n 1, 1) := by decide +kernel
theorem dJ7_copyOf_9075b_1 : decode cJ7_copyOf_9075b 1 = .ok (.aload_n 0, 1) := by decide +kernel
theorem dJ7_copyOf_9075b_2 : decode cJ7_copyOf_9075b 2 = .ok (.arraylength, 1) := by decide +kernel
theorem dJ7_copyOf_9075b_3 : decode cJ7_copyOf_9075b 3 = .ok (.if_icmp .ne 11, 3) := by decide +kernel
theorem dJ7_copyOf_9075b_6 : decode cJ7_copyOf_9075b 6 = .ok (.aload_n 0, 1) := by decide +kernel
theorem dJ7_copyOf_9075b_7 : decode cJ7_copyOf_9075b 7 = .ok (.invokevirtual 310, 3) := by decide +kernel
theorem dJ7_copyOf_9075b_10 : decode cJ7_copyOf_9075b 10 = .ok (.checkcast 311, 3) := by decide +kernel
theorem dJ7_copyOf_9075b_13 : decode cJ7_copyOf_9075b 13 = .ok (.areturn, 1) := by decide +kernel
theorem dJ7_copyOf_9075b_14 : decode cJ7_copyOf_9075b 14 = .ok (.iload_n 1, 1) := by decide +kernel
theorem dJ7_copyOf_9075b_15 : decode cJ7_copyOf_9075b 15 = .ok (.newarray .byte, 2) := by decide +kernel
theorem dJ7_copyOf_9075b_17 : decode cJ7_copyOf_9075b 17 = .ok (.astore_n 2, 1) := by decide +kernel
theorem dJ7_copyOf_9075b_18 : decode cJ7_copyOf_9075b 18 = .ok (.aload_n 0, 1) := by decide +kernel
theorem dJ7_copyOf_9075b_19 : decode cJ7_copyOf_9075b 19 = .ok (.iconst 0, 1) := by decide +kernel
theorem dJ7_copyOf_9075b_20 : decode cJ7_copyOf_9075b 20 = .ok (.aload_n 2, 1) := by decide +kernel
theorem dJ7_copyOf_9075b_21 : decode cJ7_copyOf_9075b 21 = .ok (.iconst 0, 1) := by decide +kernel
theorem dJ7_copyOf_9075b_22 : decode cJ7_copyOf_9075b 22 = .ok (.aload_n 0, 1) := by decide +kernel
theorem dJ7_copyOf_9075b_23 : decode cJ7_copyOf_9075b 23 = .ok (.arraylength, 1) := by decide +kernel
theorem dJ7_copyOf_9075b_24 : decode cJ7_copyOf_9075b 24 = .ok (.iload_n 1, 1) := by decide +kernel
theorem dJ7_copyOf_9075b_25 : decode cJ7_copyOf_9075b 25 = .ok (.invokestatic 304, 3) := by decide +kernel
theorem dJ7_copyOf_9075b_28 : decode cJ7_copyOf_9075b 28 = .ok (.invokestatic 150, 3) := by decide +kernel
theorem dJ7_copyOf_9075b_31 : decode cJ7_copyOf_9075b 31 = .ok (.aload_n 2, 1) := by decide +kernel
theorem dJ7_copyOf_9075b_32 : decode cJ7_copyOf_9075b 32 = .ok (.areturn, 1) := by decide +kernel
def c_J7_copyOf_9075b (F : Nat) (o1 : Option Nat) (x2 : Int32) (h0 : z_Hp) : Option (Option Nat × z_Hp) := (nn o1 (fun a3 => (if okL h0 a3 = true then (if x2 = (nI (hN h0 a3)) then (if hT h0 a3 = 21 then (clo h0 a3 (fun a4 h5 => (if hT h5 a4 = 21 then (some ((some a4), h5)) else none))) else none) else none) else none)))
set_option maxRecDepth 20000 in
set_option maxHeartbeats 4000000 in
theorem t_J7_copyOf_9075b (F : Nat) (o1 : Option Nat) (x2 : Int32) (h0 : z_Hp) : z_Ct zr mi_J7_copyOf_9075b [vr o1, vi x2] h0 (c_J7_copyOf_9075b F o1 x2 h0) := by
  refine z_entry (by decide) (Nat.le_of_ble_eq_true rfl) [(0, vr o1), (1, vi x2)] rfl ?_
  unfold c_J7_copyOf_9075b
  refine z_iload_n (pc := 0) dJ7_copyOf_9075b_0 rfl 1 rfl (z_aload_n (pc := 1) dJ7_copyOf_9075b_1 rfl 0 rfl (?_))
  refine z_nn (fun a3 ea3 => ?_)
  subst ea3
  refine z_alen (pc := 2) dJ7_copyOf_9075b_2 (?_)
  refine z_icmp_ne (pc := 3) (tgt := 14) dJ7_copyOf_9075b_3 (by decide) ?_ ?_
  · exact z_none
  · refine z_aload_n (pc := 6) dJ7_copyOf_9075b_6 rfl 0 rfl (z_clonel (pc := 7) 21 (by decide) wq_21_l wq_21_s wq_n wq_i wq_21_e (Nat.le_of_ble_eq_true rfl) (Nat.le_of_ble_eq_true rfl) (Nat.le_of_ble_eq_true rfl) dJ7_copyOf_9075b_7 (fun a4 h5 => (z_castA (pc := 10) 21 (by decide) wl_RJ7_311 dJ7_copyOf_9075b_10 (?_))))
    exact z_aret (pc := 13) dJ7_copyOf_9075b_13 rfl
theorem dX7_isLetter_0 : decode cX7_isLetter 0 = .ok (.iload_n 0, 1) := by decide +kernel
theorem dX7_isLetter_1 : decode cX7_isLetter 1 = .ok (.bipush 97, 2) := by decide +kernel
theorem dX7_isLetter_3 : decode cX7_isLetter 3 = .ok (.if_icmp .lt 13, 3) := by decide +kernel
theorem dX7_isLetter_6 : decode cX7_isLetter 6 = .ok (.iload_n 0, 1) := by decide +kernel
theorem dX7_isLetter_7 : decode cX7_isLetter 7 = .ok (.bipush 122, 2) := by decide +kernel
theorem dX7_isLetter_9 : decode cX7_isLetter 9 = .ok (.if_icmp .gt 7, 3) := by decide +kernel
theorem dX7_isLetter_12 : decode cX7_isLetter 12 = .ok (.iconst 1, 1) := by decide +kernel
theorem dX7_isLetter_13 : decode cX7_isLetter 13 = .ok (.goto 4, 3) := by decide +kernel
theorem dX7_isLetter_16 : decode cX7_isLetter 16 = .ok (.iconst 0, 1) := by decide +kernel
theorem dX7_isLetter_17 : decode cX7_isLetter 17 = .ok (.ireturn, 1) := by decide +kernel
def c_X7_isLetter (F : Nat) (x1 : Int32) (h0 : z_Hp) : Option (Int32 × z_Hp) := (if x1 < 97 then (some (0, h0)) else (if 122 < x1 then (some (0, h0)) else (some (1, h0))))
set_option maxRecDepth 20000 in
set_option maxHeartbeats 4000000 in
theorem t_X7_isLetter (F : Nat) (x1 : Int32) (h0 : z_Hp) : z_Ct zi mi_X7_isLetter [vi x1] h0 (c_X7_isLetter F x1 h0) := by
  refine z_entry (by decide) (Nat.le_of_ble_eq_true rfl) [(0, vi x1)] rfl ?_
  unfold c_X7_isLetter
  refine z_iload_n (pc := 0) dX7_isLetter_0 rfl 0 rfl (z_bipush (pc := 1) dX7_isLetter_1 bp_97 (?_))
  refine z_icmp_lt (pc := 3) (tgt := 16) dX7_isLetter_3 (by decide) ?_ ?_
  · refine z_iconst (pc := 16) dX7_isLetter_16 ic_0 (?_)
    exact z_iret (pc := 17) dX7_isLetter_17 rfl rfl
  · refine z_iload_n (pc := 6) dX7_isLetter_6 rfl 0 rfl (z_bipush (pc := 7) dX7_isLetter_7 bp_122 (?_))
    refine z_icmp_gt (pc := 9) (tgt := 16) dX7_isLetter_9 (by decide) ?_ ?_
    · refine z_iconst (pc := 16) dX7_isLetter_16 ic_0 (?_)
      exact z_iret (pc := 17) dX7_isLetter_17 rfl rfl
    · refine z_iconst (pc := 12) dX7_isLetter_12 ic_1 (z_goto (pc := 13) (tgt := 17) dX7_isLetter_13 (by decide) (?_))
      exact z_iret (pc := 17) dX7_isLetter_17 rfl rfl
theorem dX7_init_0 : decode cX7_init 0 = .ok (.aload_n 0, 1) := by decide +kernel
theorem dX7_init_1 : decode cX7_init 1 = .ok (.invokespecial 3, 3) := by decide +kernel
theorem dX7_init_4 : decode cX7_init 4 = .ok (.aload_n 0, 1) := by decide +kernel
theorem dX7_init_5 : decode cX7_init 5 = .ok (.aload_n 1, 1) := by decide +kernel
theorem dX7_init_6 : decode cX7_init 6 = .ok (.aload_n 1, 1) := by decide +kernel
theorem dX7_init_7 : decode cX7_init 7 = .ok (.arraylength, 1) := by decide +kernel
theorem dX7_init_8 : decode cX7_init 8 = .ok (.invokestatic 9, 3) := by decide +kernel
theorem dX7_init_11 : decode cX7_init 11 = .ok (.putfield 15, 3) := by decide +kernel
theorem dX7_init_14 : decode cX7_init 14 = .ok (.aload_n 0, 1) := by decide +kernel
theorem dX7_init_15 : decode cX7_init 15 = .ok (.iload_n 2, 1) := by decide +kernel
theorem dX7_init_16 : decode cX7_init 16 = .ok (.putfield 21, 3) := by decide +kernel
theorem dX7_init_19 : decode cX7_init 19 = .ok (.aload_n 0, 1) := by decide +kernel
theorem dX7_init_20 : decode cX7_init 20 = .ok (.aload_n 1, 1) := by decide +kernel
theorem dX7_init_21 : decode cX7_init 21 = .ok (.arraylength, 1) := by decide +kernel
theorem dX7_init_22 : decode cX7_init 22 = .ok (.newarray .int, 2) := by decide +kernel
theorem dX7_init_24 : decode cX7_init 24 = .ok (.putfield 25, 3) := by decide +kernel
theorem dX7_init_27 : decode cX7_init 27 = .ok (.aload_n 0, 1) := by decide +kernel
theorem dX7_init_28 : decode cX7_init 28 = .ok (.aload_n 1, 1) := by decide +kernel
theorem dX7_init_29 : decode cX7_init 29 = .ok (.arraylength, 1) := by decide +kernel
theorem dX7_init_30 : decode cX7_init 30 = .ok (.newarray .int, 2) := by decide +kernel
theorem dX7_init_32 : decode cX7_init 32 = .ok (.putfield 29, 3) := by decide +kernel
theorem dX7_init_35 : decode cX7_init 35 = .ok (.iconst 0, 1) := by decide +kernel
theorem dX7_init_36 : decode cX7_init 36 = .ok (.istore_n 3, 1) := by decide +kernel
theorem dX7_init_37 : decode cX7_init 37 = .ok (.iconst 0, 1) := by decide +kernel
theorem dX7_init_38 : decode cX7_init 38 = .ok (.istore 4, 2) := by decide +kernel
theorem dX7_init_40 : decode cX7_init 40 = .ok (.iload 4, 2) := by decide +kernel
theorem dX7_init_42 : decode cX7_init 42 = .ok (.aload_n 0, 1) := by decide +kernel
theorem dX7_init_43 : decode cX7_init 43 = .ok (.getfield 15, 3) := by decide +kernel
theorem dX7_init_46 : decode cX7_init 46 = .ok (.arraylength, 1) := by decide +kernel
theorem dX7_init_47 : decode cX7_init 47 = .ok (.if_icmp .ge 91, 3) := by decide +kernel
theorem dX7_init_50 : decode cX7_init 50 = .ok (.aload_n 0, 1) := by decide +kernel
theorem dX7_init_51 : decode cX7_init 51 = .ok (.getfield 15, 3) := by decide +kernel
theorem dX7_init_54 : decode cX7_init 54 = .ok (.iload 4, 2) := by decide +kernel
theorem dX7_init_56 : decode cX7_init 56 = .ok (.baload, 1) := by decide +kernel
theorem dX7_init_57 : decode cX7_init 57 = .ok (.bipush 32, 2) := by decide +kernel
theorem dX7_init_59 : decode cX7_init 59 = .ok (.if_icmp .ne 6, 3) := by decide +kernel
theorem dX7_init_62 : decode cX7_init 62 = .ok (.goto 70, 3) := by decide +kernel
theorem dX7_init_65 : decode cX7_init 65 = .ok (.iload_n 3, 1) := by decide +kernel
theorem dX7_init_66 : decode cX7_init 66 = .ok (.ifCond .le 35, 3) := by decide +kernel
theorem dX7_init_69 : decode cX7_init 69 = .ok (.aload_n 0, 1) := by decide +kernel
theorem dX7_init_70 : decode cX7_init 70 = .ok (.getfield 15, 3) := by decide +kernel
theorem dX7_init_73 : decode cX7_init 73 = .ok (.iload 4, 2) := by decide +kernel
theorem dX7_init_75 : decode cX7_init 75 = .ok (.baload, 1) := by decide +kernel
theorem dX7_init_76 : decode cX7_init 76 = .ok (.invokestatic 32, 3) := by decide +kernel
theorem dX7_init_79 : decode cX7_init 79 = .ok (.ifCond .eq 22, 3) := by decide +kernel
theorem dX7_init_82 : decode cX7_init 82 = .ok (.aload_n 0, 1) := by decide +kernel
theorem dX7_init_83 : decode cX7_init 83 = .ok (.getfield 15, 3) := by decide +kernel
theorem dX7_init_86 : decode cX7_init 86 = .ok (.iload 4, 2) := by decide +kernel
theorem dX7_init_88 : decode cX7_init 88 = .ok (.iconst 1, 1) := by decide +kernel
theorem dX7_init_89 : decode cX7_init 89 = .ok (.isub, 1) := by decide +kernel
theorem dX7_init_90 : decode cX7_init 90 = .ok (.baload, 1) := by decide +kernel
theorem dX7_init_91 : decode cX7_init 91 = .ok (.invokestatic 32, 3) := by decide +kernel
theorem dX7_init_94 : decode cX7_init 94 = .ok (.ifCond .eq 7, 3) := by decide +kernel
theorem dX7_init_97 : decode cX7_init 97 = .ok (.iconst 1, 1) := by decide +kernel
theorem dX7_init_98 : decode cX7_init 98 = .ok (.goto 4, 3) := by decide +kernel
theorem dX7_init_101 : decode cX7_init 101 = .ok (.iconst 0, 1) := by decide +kernel
theorem dX7_init_102 : decode cX7_init 102 = .ok (.istore 5, 2) := by decide +kernel
theorem dX7_init_104 : decode cX7_init 104 = .ok (.iload 5, 2) := by decide +kernel
theorem dX7_init_106 : decode cX7_init 106 = .ok (.ifCond .ne 14, 3) := by decide +kernel
theorem dX7_init_109 : decode cX7_init 109 = .ok (.aload_n 0, 1) := by decide +kernel
theorem dX7_init_110 : decode cX7_init 110 = .ok (.getfield 25, 3) := by decide +kernel
theorem dX7_init_113 : decode cX7_init 113 = .ok (.iload_n 3, 1) := by decide +kernel
theorem dX7_init_114 : decode cX7_init 114 = .ok (.iinc 3 1, 3) := by decide +kernel
theorem dX7_init_117 : decode cX7_init 117 = .ok (.iload 4, 2) := by decide +kernel
theorem dX7_init_119 : decode cX7_init 119 = .ok (.iastore, 1) := by decide +kernel
theorem dX7_init_120 : decode cX7_init 120 = .ok (.aload_n 0, 1) := by decide +kernel
theorem dX7_init_121 : decode cX7_init 121 = .ok (.getfield 29, 3) := by decide +kernel
theorem dX7_init_124 : decode cX7_init 124 = .ok (.iload_n 3, 1) := by decide +kernel
theorem dX7_init_125 : decode cX7_init 125 = .ok (.iconst 1, 1) := by decide +kernel
theorem dX7_init_126 : decode cX7_init 126 = .ok (.isub, 1) := by decide +kernel
theorem dX7_init_127 : decode cX7_init 127 = .ok (.iload 4, 2) := by decide +kernel
theorem dX7_init_129 : decode cX7_init 129 = .ok (.iconst 1, 1) := by decide +kernel
theorem dX7_init_130 : decode cX7_init 130 = .ok (.iadd, 1) := by decide +kernel
theorem dX7_init_131 : decode cX7_init 131 = .ok (.iastore, 1) := by decide +kernel
theorem dX7_init_132 : decode cX7_init 132 = .ok (.iinc 4 1, 3) := by decide +kernel
theorem dX7_init_135 : decode cX7_init 135 = .ok (.goto (-95), 3) := by decide +kernel
theorem dX7_init_138 : decode cX7_init 138 = .ok (.aload_n 0, 1) := by decide +kernel
theorem dX7_init_139 : decode cX7_init 139 = .ok (.iload_n 3, 1) := by decide +kernel
theorem dX7_init_140 : decode cX7_init 140 = .ok (.putfield 36, 3) := by decide +kernel
theorem dX7_init_143 : decode cX7_init 143 = .ok (.return_, 1) := by decide +kernel
def c_X7_init_L40 (F : Nat) (a14 : Nat) : Nat → Int32 → Int32 → z_Hp → Option (z_Hp)
  | 0, _, _, _ => none
  | n + 1, x15, x16, h17 => (if hT h17 a14 = 7 then (lt_ (hR h17 a14 0) (fun o18 => (nn o18 (fun a19 => (if okL h17 a19 = true then (if (nI (hN h17 a19)) ≤ x16 then (if hT h17 a14 = 7 then (lt_ (sI h17 a14 4 x15) (fun h20 => (some h20))) else none) else (if hT h17 a14 = 7 then (lt_ (hR h17 a14 0) (fun o21 => (nn o21 (fun a22 => (if okA h17 a22 21 x16 = true then (lt_ (fun (x24 : Int32) (h25 : z_Hp) => (lt_ (x16 + 1) (fun x26 => (c_X7_init_L40 F a14 n x24 x26 h25)))) (fun (j132_23 : Int32 → z_Hp → Option (z_Hp)) => (if (hI h17 a22 (ix x16)) = 32 then (j132_23 x15 h17) else (lt_ (fun (x28 : Int32) (h29 : z_Hp) => (lt_ (fun (x31 : Int32) (h32 : z_Hp) => (if hT h32 a14 = 7 then (lt_ (hR h32 a14 3) (fun o33 => (nn o33 (fun a34 => (if okA h32 a34 20 (x31 - 1) = true then (lt_ (sI h32 a34 (ix (x31 - 1)) (x16 + 1)) (fun h35 => (j132_23 x31 h35))) else none))))) else none)) (fun (j120_30 : Int32 → z_Hp → Option (z_Hp)) => (if x28 = 0 then (if hT h29 a14 = 7 then (lt_ (hR h29 a14 2) (fun o36 => (lt_ (x15 + 1) (fun x37 => (nn o36 (fun a38 => (if okA h29 a38 20 x15 = true then (lt_ (sI h29 a38 (ix x15) x16) (fun h39 => (j120_30 x37 h39))) else none))))))) else none) else (j120_30 x15 h29))))) (fun (j102_27 : Int32 → z_Hp → Option (z_Hp)) => (lt_ (fun (h41 : z_Hp) => (j102_27 0 h41)) (fun (j101_40 : z_Hp → Option (z_Hp)) => (if x15 ≤ 0 then (j101_40 h17) else (if hT h17 a14 = 7 then (lt_ (hR h17 a14 0) (fun o42 => (nn o42 (fun a43 => (if okA h17 a43 21 x16 = true then (bI (c_X7_isLetter F (hI h17 a43 (ix x16)) h17) (fun x45 h44 => (if x45 = 0 then (j101_40 h44) else (if hT h44 a14 = 7 then (lt_ (hR h44 a14 0) (fun o46 => (nn o46 (fun a47 => (if okA h44 a47 21 (x16 - 1) = true then (bI (c_X7_isLetter F (hI h44 a47 (ix (x16 - 1))) h44) (fun x49 h48 => (if x49 = 0 then (j101_40 h48) else (j102_27 1 h48)))) else none))))) else none)))) else none))))) else none))))))))) else none))))) else none)) else none))))) else none)
def c_X7_init (F : Nat) (a0 : Nat) (o1 : Option Nat) (x2 : Int32) (h0 : z_Hp) : Option (z_Hp) := (nn o1 (fun a3 => (if okL h0 a3 = true then (bR (c_J7_copyOf_9075b F (some a3) (nI (hN h0 a3)) h0) (fun o5 h4 => (if hT h4 a0 = 7 then (lt_ (sR h4 a0 0 o5) (fun h6 => (if hT h6 a0 = 7 then (lt_ (sI h6 a0 1 x2) (fun h7 => (if okL h7 a3 = true then (if inb (nI (hN h7 a3)) 100000 = true then (nwo h7 20 (ix (nI (hN h7 a3))) (fun a8 h9 => (if hT h9 a0 = 7 then (lt_ (sR h9 a0 2 (some a8)) (fun h10 => (if okL h10 a3 = true then (if inb (nI (hN h10 a3)) 100000 = true then (nwo h10 20 (ix (nI (hN h10 a3))) (fun a11 h12 => (if hT h12 a0 = 7 then (lt_ (sR h12 a0 3 (some a11)) (fun h13 => (c_X7_init_L40 F a0 F 0 0 h13))) else none))) else none) else none))) else none))) else none) else none))) else none))) else none))) else none)))
set_option maxRecDepth 20000 in
set_option maxHeartbeats 4000000 in
theorem g_X7_init_L40 (F : Nat) (a14 : Nat) : ∀ (n : Nat) (x15 : Int32) (x16 : Int32) (h17 : z_Hp), z_G zv mi_X7_init 40 [(0, vr (some a14)), (3, vi x15), (4, vi x16)] [] h17 (c_X7_init_L40 F a14 n x15 x16 h17) := by
  intro n
  induction n with
  | zero => intro x15 x16 h17; rw [c_X7_init_L40]; exact z_none
  | succ n ih =>
    intro x15 x16 h17
    rw [c_X7_init_L40]
    refine z_iload (pc := 40) dX7_init_40 2 rfl (z_aload_n (pc := 42) dX7_init_42 rfl 0 rfl (z_getRl (pc := 43) fl_RX7_15 rfl dX7_init_43 (fun o18 => (?_))))
    refine z_nn (fun a19 ea19 => ?_)
    subst ea19
    refine z_alen (pc := 46) dX7_init_46 (?_)
    refine z_icmp_ge (pc := 47) (tgt := 138) dX7_init_47 (by decide) ?_ ?_
    · refine z_aload_n (pc := 138) dX7_init_138 rfl 0 rfl (z_iload_n (pc := 139) dX7_init_139 rfl 1 rfl (z_putIl (pc := 140) fl_RX7_36 fin_X7_init_7_4 rfl dX7_init_140 (fun h20 => (?_))))
      exact z_vret (pc := 143) dX7_init_143 rfl
    · refine z_aload_n (pc := 50) dX7_init_50 rfl 0 rfl (z_getRl (pc := 51) fl_RX7_15 rfl dX7_init_51 (fun o21 => (z_iload (pc := 54) dX7_init_54 2 rfl (?_))))
      refine z_nn (fun a22 ea22 => ?_)
      subst ea22
      refine z_baload (pc := 56) dX7_init_56 (z_bipush (pc := 57) dX7_init_57 bp_32 (?_))
      refine z_jn (P := fun (j : Int32 → z_Hp → Option (z_Hp)) => ∀ (x24 : Int32) (h25 : z_Hp), z_G zv mi_X7_init 132 [(0, vr (some a14)), (3, vi x24), (4, vi x16)] [] h25 (j x24 h25)) (fun x24 h25 => ?_) (fun j132_23 qj132_23 => ?_)
      · refine z_iincl (pc := 132) (L' := fun x26 => [(0, vr (some a14)), (3, vi x24), (4, vi x26)]) dX7_init_132 2 rfl ic_1 (Nat.le_of_ble_eq_true rfl) (fun _ => rfl) (fun x26 => (z_goto (pc := 135) (tgt := 40) dX7_init_135 (by decide) (?_)))
        exact ih x24 x26 h25
      refine z_icmp_ne (pc := 59) (tgt := 65) dX7_init_59 (by decide) ?_ ?_
      · refine z_iload_n (pc := 65) dX7_init_65 rfl 1 rfl (?_)
        refine z_jn (P := fun (j : Int32 → z_Hp → Option (z_Hp)) => ∀ (x28 : Int32) (h29 : z_Hp), z_G zv mi_X7_init 102 [(0, vr (some a14)), (3, vi x15), (4, vi x16)] [vi x28] h29 (j x28 h29)) (fun x28 h29 => ?_) (fun j102_27 qj102_27 => ?_)
        · refine z_istore (pc := 102) (L' := [(0, vr (some a14)), (3, vi x15), (4, vi x16), (5, vi x28)]) dX7_init_102 (Nat.le_of_ble_eq_true rfl) rfl (z_iload (pc := 104) dX7_init_104 3 rfl (?_))
          refine z_jn (P := fun (j : Int32 → z_Hp → Option (z_Hp)) => ∀ (x31 : Int32) (h32 : z_Hp), z_G zv mi_X7_init 120 [(0, vr (some a14)), (3, vi x31), (4, vi x16)] [] h32 (j x31 h32)) (fun x31 h32 => ?_) (fun j120_30 qj120_30 => ?_)
          · refine z_aload_n (pc := 120) dX7_init_120 rfl 0 rfl (z_getRl (pc := 121) fl_RX7_29 rfl dX7_init_121 (fun o33 => (z_iload_n (pc := 124) dX7_init_124 rfl 1 rfl (z_iconst (pc := 125) dX7_init_125 ic_1 (z_isub (pc := 126) dX7_init_126 (z_iload (pc := 127) dX7_init_127 2 rfl (z_iconst (pc := 129) dX7_init_129 ic_1 (z_iadd (pc := 130) dX7_init_130 (?_)))))))))
            refine z_nn (fun a34 ea34 => ?_)
            subst ea34
            refine z_iastorel (pc := 131) dX7_init_131 (fun h35 => (?_))
            exact qj132_23 x31 h35
          refine z_if_ne (pc := 106) (tgt := 120) dX7_init_106 (by decide) ?_ ?_
          · exact z_sub [0, 1, 2] rfl (qj120_30 x15 h29)
          · refine z_aload_n (pc := 109) dX7_init_109 rfl 0 rfl (z_getRl (pc := 110) fl_RX7_25 rfl dX7_init_110 (fun o36 => (z_iload_n (pc := 113) dX7_init_113 rfl 1 rfl (z_iincl (pc := 114) (L' := fun x37 => [(0, vr (some a14)), (3, vi x37), (4, vi x16), (5, vi x28)]) dX7_init_114 1 rfl ic_1 (Nat.le_of_ble_eq_true rfl) (fun _ => rfl) (fun x37 => (z_iload (pc := 117) dX7_init_117 2 rfl (?_)))))))
            refine z_nn (fun a38 ea38 => ?_)
            subst ea38
            refine z_iastorel (pc := 119) dX7_init_119 (fun h39 => (?_))
            exact z_sub [0, 1, 2] rfl (qj120_30 x37 h39)
        refine z_jn (P := fun (j : z_Hp → Option (z_Hp)) => ∀ (h41 : z_Hp), z_G zv mi_X7_init 101 [(0, vr (some a14)), (3, vi x15), (4, vi x16)] [] h41 (j h41)) (fun h41 => ?_) (fun j101_40 qj101_40 => ?_)
        · refine z_iconst (pc := 101) dX7_init_101 ic_0 (?_)
          exact qj102_27 0 h41
        refine z_if_le (pc := 66) (tgt := 101) dX7_init_66 (by decide) ?_ ?_
        · exact qj101_40 h17
        · refine z_aload_n (pc := 69) dX7_init_69 rfl 0 rfl (z_getRl (pc := 70) fl_RX7_15 rfl dX7_init_70 (fun o42 => (z_iload (pc := 73) dX7_init_73 2 rfl (?_))))
          refine z_nn (fun a43 ea43 => ?_)
          subst ea43
          refine z_baload (pc := 75) dX7_init_75 (z_callS_I (pc := 76) (avs := [vi (hI h17 a43 (ix x16))]) (st := []) rfl (t_X7_isLetter F (hI h17 a43 (ix x16)) h17) ky_X7_isLetter ws_X7_isLetter wz_RX7_32 (rm_X7_init_X7_isLetter) (Nat.le_of_ble_eq_true rfl) dX7_init_76 (fun x45 h44 => (?_)))
          refine z_if_eq (pc := 79) (tgt := 101) dX7_init_79 (by decide) ?_ ?_
          · exact qj101_40 h44
          · refine z_aload_n (pc := 82) dX7_init_82 rfl 0 rfl (z_getRl (pc := 83) fl_RX7_15 rfl dX7_init_83 (fun o46 => (z_iload (pc := 86) dX7_init_86 2 rfl (z_iconst (pc := 88) dX7_init_88 ic_1 (z_isub (pc := 89) dX7_init_89 (?_))))))
            refine z_nn (fun a47 ea47 => ?_)
            subst ea47
            refine z_baload (pc := 90) dX7_init_90 (z_callS_I (pc := 91) (avs := [vi (hI h44 a47 (ix (x16 - 1)))]) (st := []) rfl (t_X7_isLetter F (hI h44 a47 (ix (x16 - 1))) h44) ky_X7_isLetter ws_X7_isLetter wz_RX7_32 (rm_X7_init_X7_isLetter) (Nat.le_of_ble_eq_true rfl) dX7_init_91 (fun x49 h48 => (?_)))
            refine z_if_eq (pc := 94) (tgt := 101) dX7_init_94 (by decide) ?_ ?_
            · exact qj101_40 h48
            · refine z_iconst (pc := 97) dX7_init_97 ic_1 (z_goto (pc := 98) (tgt := 102) dX7_init_98 (by decide) (?_))
              exact qj102_27 1 h48
      · refine z_goto (pc := 62) (tgt := 132) dX7_init_62 (by decide) (?_)
        exact qj132_23 x15 h17
set_option maxRecDepth 20000 in
set_option maxHeartbeats 4000000 in
theorem t_X7_init (F : Nat) (a0 : Nat) (o1 : Option Nat) (x2 : Int32) (h0 : z_Hp) : z_Ct zv mi_X7_init [vr (some a0), vr o1, vi x2] h0 (c_X7_init F a0 o1 x2 h0) := by
  refine z_entry (by decide) (Nat.le_of_ble_eq_true rfl) [(0, vr (some a0)), (1, vr o1), (2, vi x2)] rfl ?_
  unfold c_X7_init
  refine z_aload_n (pc := 0) dX7_init_0 rfl 0 rfl (z_objinit (pc := 1) wo_RX7_3 wo_im wo_cd (Nat.le_of_ble_eq_true rfl) (Nat.le_of_ble_eq_true rfl) (Nat.le_of_ble_eq_true rfl) dX7_init_1 (z_aload_n (pc := 4) dX7_init_4 rfl 0 rfl (z_aload_n (pc := 5) dX7_init_5 rfl 1 rfl (z_aload_n (pc := 6) dX7_init_6 rfl 1 rfl (?_)))))
  refine z_nn (fun a3 ea3 => ?_)
  subst ea3
  refine z_alen (pc := 7) dX7_init_7 (z_callS_R (pc := 8) (avs := [vr (some a3), vi (nI (hN h0 a3))]) (st := [vr (some a0)]) rfl (t_J7_copyOf_9075b F (some a3) (nI (hN h0 a3)) h0) ky_J7_copyOf_9075b ws_J7_copyOf_9075b wz_RX7_9 (rm_X7_init_J7_copyOf_9075b) (Nat.le_of_ble_eq_true rfl) dX7_init_8 (fun o5 h4 => (?_)))
  refine z_putRl (pc := 11) fl_RX7_15 fin_X7_init_7_0 rfl dX7_init_11 (fun h6 => (z_aload_n (pc := 14) dX7_init_14 rfl 0 rfl (z_iload_n (pc := 15) dX7_init_15 rfl 2 rfl (z_putIl (pc := 16) fl_RX7_21 fin_X7_init_7_1 rfl dX7_init_16 (fun h7 => (z_aload_n (pc := 19) dX7_init_19 rfl 0 rfl (z_aload_n (pc := 20) dX7_init_20 rfl 1 rfl (z_alen (pc := 21) dX7_init_21 (z_newarrl (pc := 22) 20 (by decide) rfl wa_20 dX7_init_22 (fun a8 h9 => (?_)))))))))))
  refine z_putRl (pc := 24) fl_RX7_25 fin_X7_init_7_2 rfl dX7_init_24 (fun h10 => (z_aload_n (pc := 27) dX7_init_27 rfl 0 rfl (z_aload_n (pc := 28) dX7_init_28 rfl 1 rfl (z_alen (pc := 29) dX7_init_29 (z_newarrl (pc := 30) 20 (by decide) rfl wa_20 dX7_init_30 (fun a11 h12 => (z_putRl (pc := 32) fl_RX7_29 fin_X7_init_7_3 rfl dX7_init_32 (fun h13 => (z_iconst (pc := 35) dX7_init_35 ic_0 (z_istore_n (pc := 36) (L' := [(0, vr (some a0)), (1, vr (some a3)), (2, vi x2), (3, vi 0)]) dX7_init_36 rfl (Nat.le_of_ble_eq_true rfl) rfl (?_)))))))))))
  refine z_iconst (pc := 37) dX7_init_37 ic_0 (z_istore (pc := 38) (L' := [(0, vr (some a0)), (1, vr (some a3)), (2, vi x2), (3, vi 0), (4, vi 0)]) dX7_init_38 (Nat.le_of_ble_eq_true rfl) rfl (?_))
  refine z_sub [0, 3, 4] rfl (g_X7_init_L40 F a0 F 0 0 h13)
theorem dX7_linesIn_0 : decode cX7_linesIn 0 = .ok (.iconst 1, 1) := by decide +kernel
theorem dX7_linesIn_1 : decode cX7_linesIn 1 = .ok (.istore_n 1, 1) := by decide +kernel
theorem dX7_linesIn_2 : decode cX7_linesIn 2 = .ok (.iconst 0, 1) := by decide +kernel
theorem dX7_linesIn_3 : decode cX7_linesIn 3 = .ok (.istore_n 2, 1) := by decide +kernel
theorem dX7_linesIn_4 : decode cX7_linesIn 4 = .ok (.iconst 0, 1) := by decide +kernel
theorem dX7_linesIn_5 : decode cX7_linesIn 5 = .ok (.istore_n 3, 1) := by decide +kernel
theorem dX7_linesIn_6 : decode cX7_linesIn 6 = .ok (.iload_n 3, 1) := by decide +kernel
theorem dX7_linesIn_7 : decode cX7_linesIn 7 = .ok (.aload_n 0, 1) := by decide +kernel
theorem dX7_linesIn_8 : decode cX7_linesIn 8 = .ok (.arraylength, 1) := by decide +kernel
theorem dX7_linesIn_9 : decode cX7_linesIn 9 = .ok (.if_icmp .ge 57, 3) := by decide +kernel
theorem dX7_linesIn_12 : decode cX7_linesIn 12 = .ok (.aload_n 0, 1) := by decide +kernel
theorem dX7_linesIn_13 : decode cX7_linesIn 13 = .ok (.iload_n 3, 1) := by decide +kernel
theorem dX7_linesIn_14 : decode cX7_linesIn 14 = .ok (.baload, 1) := by decide +kernel
theorem dX7_linesIn_15 : decode cX7_linesIn 15 = .ok (.invokestatic 32, 3) := by decide +kernel
theorem dX7_linesIn_18 : decode cX7_linesIn 18 = .ok (.ifCond .eq 8, 3) := by decide +kernel
theorem dX7_linesIn_21 : decode cX7_linesIn 21 = .ok (.iconst 1, 1) := by decide +kernel
theorem dX7_linesIn_22 : decode cX7_linesIn 22 = .ok (.istore_n 2, 1) := by decide +kernel
theorem dX7_linesIn_23 : decode cX7_linesIn 23 = .ok (.goto 37, 3) := by decide +kernel
theorem dX7_linesIn_26 : decode cX7_linesIn 26 = .ok (.aload_n 0, 1) := by decide +kernel
theorem dX7_linesIn_27 : decode cX7_linesIn 27 = .ok (.iload_n 3, 1) := by decide +kernel
theorem dX7_linesIn_28 : decode cX7_linesIn 28 = .ok (.baload, 1) := by decide +kernel
theorem dX7_linesIn_29 : decode cX7_linesIn 29 = .ok (.bipush 47, 2) := by decide +kernel
theorem dX7_linesIn_31 : decode cX7_linesIn 31 = .ok (.if_icmp .ne 18, 3) := by decide +kernel
theorem dX7_linesIn_34 : decode cX7_linesIn 34 = .ok (.iload_n 2, 1) := by decide +kernel
theorem dX7_linesIn_35 : decode cX7_linesIn 35 = .ok (.ifCond .ne 6, 3) := by decide +kernel
theorem dX7_linesIn_38 : decode cX7_linesIn 38 = .ok (.bipush (-9), 2) := by decide +kernel
theorem dX7_linesIn_40 : decode cX7_linesIn 40 = .ok (.ireturn, 1) := by decide +kernel
theorem dX7_linesIn_41 : decode cX7_linesIn 41 = .ok (.iconst 0, 1) := by decide +kernel
theorem dX7_linesIn_42 : decode cX7_linesIn 42 = .ok (.istore_n 2, 1) := by decide +kernel
theorem dX7_linesIn_43 : decode cX7_linesIn 43 = .ok (.iinc 1 1, 3) := by decide +kernel
theorem dX7_linesIn_46 : decode cX7_linesIn 46 = .ok (.goto 14, 3) := by decide +kernel
theorem dX7_linesIn_49 : decode cX7_linesIn 49 = .ok (.aload_n 0, 1) := by decide +kernel
theorem dX7_linesIn_50 : decode cX7_linesIn 50 = .ok (.iload_n 3, 1) := by decide +kernel
theorem dX7_linesIn_51 : decode cX7_linesIn 51 = .ok (.baload, 1) := by decide +kernel
theorem dX7_linesIn_52 : decode cX7_linesIn 52 = .ok (.bipush 32, 2) := by decide +kernel
theorem dX7_linesIn_54 : decode cX7_linesIn 54 = .ok (.if_icmp .eq 6, 3) := by decide +kernel
theorem dX7_linesIn_57 : decode cX7_linesIn 57 = .ok (.bipush (-9), 2) := by decide +kernel
theorem dX7_linesIn_59 : decode cX7_linesIn 59 = .ok (.ireturn, 1) := by decide +kernel
theorem dX7_linesIn_60 : decode cX7_linesIn 60 = .ok (.iinc 3 1, 3) := by decide +kernel
theorem dX7_linesIn_63 : decode cX7_linesIn 63 = .ok (.goto (-57), 3) := by decide +kernel
theorem dX7_linesIn_66 : decode cX7_linesIn 66 = .ok (.iload_n 2, 1) := by decide +kernel
theorem dX7_linesIn_67 : decode cX7_linesIn 67 = .ok (.ifCond .eq 13, 3) := by decide +kernel
theorem dX7_linesIn_70 : decode cX7_linesIn 70 = .ok (.iload_n 1, 1) := by decide +kernel
theorem dX7_linesIn_71 : decode cX7_linesIn 71 = .ok (.bipush 8, 2) := by decide +kernel
theorem dX7_linesIn_73 : decode cX7_linesIn 73 = .ok (.if_icmp .gt 7, 3) := by decide +kernel
theorem dX7_linesIn_76 : decode cX7_linesIn 76 = .ok (.iload_n 1, 1) := by decide +kernel
theorem dX7_linesIn_77 : decode cX7_linesIn 77 = .ok (.goto 5, 3) := by decide +kernel
theorem dX7_linesIn_80 : decode cX7_linesIn 80 = .ok (.bipush (-9), 2) := by decide +kernel
theorem dX7_linesIn_82 : decode cX7_linesIn 82 = .ok (.ireturn, 1) := by decide +kernel
def c_X7_linesIn_L6 (F : Nat) (o2 : Option Nat) (k66 : Int32 → Int32 → z_Hp → Option (Int32 × z_Hp)) : Nat → Int32 → Int32 → Int32 → z_Hp → Option (Int32 × z_Hp)
  | 0, _, _, _, _ => none
  | n + 1, x3, x4, x5, h6 => (nn o2 (fun a10 => (if okL h6 a10 = true then (if (nI (hN h6 a10)) ≤ x5 then (k66 x3 x4 h6) else (if okA h6 a10 21 x5 = true then (bI (c_X7_isLetter F (hI h6 a10 (ix x5)) h6) (fun x12 h11 => (lt_ (fun (x14 : Int32) (x15 : Int32) (h16 : z_Hp) => (lt_ (x5 + 1) (fun x17 => (c_X7_linesIn_L6 F o2 k66 n x14 x15 x17 h16)))) (fun (j60_13 : Int32 → Int32 → z_Hp → Option (Int32 × z_Hp)) => (if x12 = 0 then (if okA h11 a10 21 x5 = true then (if (hI h11 a10 (ix x5)) = 47 then (if x4 = 0 then (some ((-9), h11)) else (lt_ (x3 + 1) (fun x18 => (j60_13 x18 0 h11)))) else (if okA h11 a10 21 x5 = true then (if (hI h11 a10 (ix x5)) = 32 then (j60_13 x3 x4 h11) else (some ((-9), h11))) else none)) else none) else (j60_13 x3 1 h11)))))) else none)) else none)))
def c_X7_linesIn (F : Nat) (o1 : Option Nat) (h0 : z_Hp) : Option (Int32 × z_Hp) := (c_X7_linesIn_L6 F o1 (fun x19 x20 h21 => (if x20 = 0 then (some ((-9), h21)) else (if 8 < x19 then (some ((-9), h21)) else (some (x19, h21))))) F 1 0 0 h0)
set_option maxRecDepth 20000 in
set_option maxHeartbeats 4000000 in
theorem g_X7_linesIn_L6 (F : Nat) (o2 : Option Nat) (k66 : Int32 → Int32 → z_Hp → Option (Int32 × z_Hp)) (qk66 : ∀ (x7 : Int32) (x8 : Int32) (h9 : z_Hp), z_G zi mi_X7_linesIn 66 [(1, vi x7), (2, vi x8)] [] h9 (k66 x7 x8 h9)) : ∀ (n : Nat) (x3 : Int32) (x4 : Int32) (x5 : Int32) (h6 : z_Hp), z_G zi mi_X7_linesIn 6 [(0, vr o2), (1, vi x3), (2, vi x4), (3, vi x5)] [] h6 (c_X7_linesIn_L6 F o2 k66 n x3 x4 x5 h6) := by
  intro n
  induction n with
  | zero => intro x3 x4 x5 h6; rw [c_X7_linesIn_L6]; exact z_none
  | succ n ih =>
    intro x3 x4 x5 h6
    rw [c_X7_linesIn_L6]
    refine z_iload_n (pc := 6) dX7_linesIn_6 rfl 3 rfl (z_aload_n (pc := 7) dX7_linesIn_7 rfl 0 rfl (?_))
    refine z_nn (fun a10 ea10 => ?_)
    subst ea10
    refine z_alen (pc := 8) dX7_linesIn_8 (?_)
    refine z_icmp_ge (pc := 9) (tgt := 66) dX7_linesIn_9 (by decide) ?_ ?_
    · exact z_sub [1, 2] rfl (qk66 x3 x4 h6)
    · refine z_aload_n (pc := 12) dX7_linesIn_12 rfl 0 rfl (z_iload_n (pc := 13) dX7_linesIn_13 rfl 3 rfl (z_baload (pc := 14) dX7_linesIn_14 (z_callS_I (pc := 15) (avs := [vi (hI h6 a10 (ix x5))]) (st := []) rfl (t_X7_isLetter F (hI h6 a10 (ix x5)) h6) ky_X7_isLetter ws_X7_isLetter wz_RX7_32 (rm_X7_linesIn_X7_isLetter) (Nat.le_of_ble_eq_true rfl) dX7_linesIn_15 (fun x12 h11 => (?_)))))
      refine z_jn (P := fun (j : Int32 → Int32 → z_Hp → Option (Int32 × z_Hp)) => ∀ (x14 : Int32) (x15 : Int32) (h16 : z_Hp), z_G zi mi_X7_linesIn 60 [(0, vr (some a10)), (1, vi x14), (2, vi x15), (3, vi x5)] [] h16 (j x14 x15 h16)) (fun x14 x15 h16 => ?_) (fun j60_13 qj60_13 => ?_)
      · refine z_iincl (pc := 60) (L' := fun x17 => [(0, vr (some a10)), (1, vi x14), (2, vi x15), (3, vi x17)]) dX7_linesIn_60 3 rfl ic_1 (Nat.le_of_ble_eq_true rfl) (fun _ => rfl) (fun x17 => (z_goto (pc := 63) (tgt := 6) dX7_linesIn_63 (by decide) (?_)))
        exact ih x14 x15 x17 h16
      refine z_if_eq (pc := 18) (tgt := 26) dX7_linesIn_18 (by decide) ?_ ?_
      · refine z_aload_n (pc := 26) dX7_linesIn_26 rfl 0 rfl (z_iload_n (pc := 27) dX7_linesIn_27 rfl 3 rfl (z_baload (pc := 28) dX7_linesIn_28 (z_bipush (pc := 29) dX7_linesIn_29 bp_47 (?_))))
        refine z_icmp_ne (pc := 31) (tgt := 49) dX7_linesIn_31 (by decide) ?_ ?_
        · refine z_aload_n (pc := 49) dX7_linesIn_49 rfl 0 rfl (z_iload_n (pc := 50) dX7_linesIn_50 rfl 3 rfl (z_baload (pc := 51) dX7_linesIn_51 (z_bipush (pc := 52) dX7_linesIn_52 bp_32 (?_))))
          refine z_icmp_eq (pc := 54) (tgt := 60) dX7_linesIn_54 (by decide) ?_ ?_
          · exact qj60_13 x3 x4 h11
          · refine z_bipush (pc := 57) dX7_linesIn_57 bp_m9 (?_)
            exact z_iret (pc := 59) dX7_linesIn_59 rfl rfl
        · refine z_iload_n (pc := 34) dX7_linesIn_34 rfl 2 rfl (?_)
          refine z_if_ne (pc := 35) (tgt := 41) dX7_linesIn_35 (by decide) ?_ ?_
          · refine z_iconst (pc := 41) dX7_linesIn_41 ic_0 (z_istore_n (pc := 42) (L' := [(0, vr (some a10)), (1, vi x3), (2, vi 0), (3, vi x5)]) dX7_linesIn_42 rfl (Nat.le_of_ble_eq_true rfl) rfl (z_iincl (pc := 43) (L' := fun x18 => [(0, vr (some a10)), (1, vi x18), (2, vi 0), (3, vi x5)]) dX7_linesIn_43 1 rfl ic_1 (Nat.le_of_ble_eq_true rfl) (fun _ => rfl) (fun x18 => (z_goto (pc := 46) (tgt := 60) dX7_linesIn_46 (by decide) (?_)))))
            exact qj60_13 x18 0 h11
          · refine z_bipush (pc := 38) dX7_linesIn_38 bp_m9 (?_)
            exact z_iret (pc := 40) dX7_linesIn_40 rfl rfl
      · refine z_iconst (pc := 21) dX7_linesIn_21 ic_1 (z_istore_n (pc := 22) (L' := [(0, vr (some a10)), (1, vi x3), (2, vi 1), (3, vi x5)]) dX7_linesIn_22 rfl (Nat.le_of_ble_eq_true rfl) rfl (z_goto (pc := 23) (tgt := 60) dX7_linesIn_23 (by decide) (?_)))
        exact qj60_13 x3 1 h11
set_option maxRecDepth 20000 in
set_option maxHeartbeats 4000000 in
theorem t_X7_linesIn (F : Nat) (o1 : Option Nat) (h0 : z_Hp) : z_Ct zi mi_X7_linesIn [vr o1] h0 (c_X7_linesIn F o1 h0) := by
  refine z_entry (by decide) (Nat.le_of_ble_eq_true rfl) [(0, vr o1)] rfl ?_
  unfold c_X7_linesIn
  refine z_iconst (pc := 0) dX7_linesIn_0 ic_1 (z_istore_n (pc := 1) (L' := [(0, vr o1), (1, vi 1)]) dX7_linesIn_1 rfl (Nat.le_of_ble_eq_true rfl) rfl (z_iconst (pc := 2) dX7_linesIn_2 ic_0 (z_istore_n (pc := 3) (L' := [(0, vr o1), (1, vi 1), (2, vi 0)]) dX7_linesIn_3 rfl (Nat.le_of_ble_eq_true rfl) rfl (z_iconst (pc := 4) dX7_linesIn_4 ic_0 (z_istore_n (pc := 5) (L' := [(0, vr o1), (1, vi 1), (2, vi 0), (3, vi 0)]) dX7_linesIn_5 rfl (Nat.le_of_ble_eq_true rfl) rfl (?_))))))
  refine g_X7_linesIn_L6 F o1 _ (fun x19 x20 h21 => ?_) F 1 0 0 h0
  refine z_iload_n (pc := 66) dX7_linesIn_66 rfl 1 rfl (?_)
  refine z_if_eq (pc := 67) (tgt := 80) dX7_linesIn_67 (by decide) ?_ ?_
  · refine z_bipush (pc := 80) dX7_linesIn_80 bp_m9 (?_)
    exact z_iret (pc := 82) dX7_linesIn_82 rfl rfl
  · refine z_iload_n (pc := 70) dX7_linesIn_70 rfl 0 rfl (z_bipush (pc := 71) dX7_linesIn_71 bp_8 (?_))
    refine z_icmp_gt (pc := 73) (tgt := 80) dX7_linesIn_73 (by decide) ?_ ?_
    · refine z_bipush (pc := 80) dX7_linesIn_80 bp_m9 (?_)
      exact z_iret (pc := 82) dX7_linesIn_82 rfl rfl
    · refine z_iload_n (pc := 76) dX7_linesIn_76 rfl 0 rfl (z_goto (pc := 77) (tgt := 82) dX7_linesIn_77 (by decide) (?_))
      exact z_iret (pc := 82) dX7_linesIn_82 rfl rfl
