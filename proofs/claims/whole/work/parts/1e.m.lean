theorem dX9_family_0 : decode cX9_family 0 = .ok (.aload_n 0, 1) := by decide +kernel
theorem dX9_family_1 : decode cX9_family 1 = .ok (.iload_n 1, 1) := by decide +kernel
theorem dX9_family_2 : decode cX9_family 2 = .ok (.invokevirtual 334, 3) := by decide +kernel
theorem dX9_family_5 : decode cX9_family 5 = .ok (.ifCond .ne 5, 3) := by decide +kernel
theorem dX9_family_8 : decode cX9_family 8 = .ok (.iconst (-1), 1) := by decide +kernel
theorem dX9_family_9 : decode cX9_family 9 = .ok (.ireturn, 1) := by decide +kernel
theorem dX9_family_10 : decode cX9_family 10 = .ok (.iload_n 1, 1) := by decide +kernel
theorem dX9_family_11 : decode cX9_family 11 = .ok (.invokestatic 271, 3) := by decide +kernel
theorem dX9_family_14 : decode cX9_family 14 = .ok (.bipush 10, 2) := by decide +kernel
theorem dX9_family_16 : decode cX9_family 16 = .ok (.if_icmp .le 6, 3) := by decide +kernel
theorem dX9_family_19 : decode cX9_family 19 = .ok (.bipush (-6), 2) := by decide +kernel
theorem dX9_family_21 : decode cX9_family 21 = .ok (.ireturn, 1) := by decide +kernel
theorem dX9_family_22 : decode cX9_family 22 = .ok (.aload_n 0, 1) := by decide +kernel
theorem dX9_family_23 : decode cX9_family 23 = .ok (.iload_n 1, 1) := by decide +kernel
theorem dX9_family_24 : decode cX9_family 24 = .ok (.invokevirtual 337, 3) := by decide +kernel
theorem dX9_family_27 : decode cX9_family 27 = .ok (.ifCond .ne 9, 3) := by decide +kernel
theorem dX9_family_30 : decode cX9_family 30 = .ok (.aload_n 0, 1) := by decide +kernel
theorem dX9_family_31 : decode cX9_family 31 = .ok (.iconst 1, 1) := by decide +kernel
theorem dX9_family_32 : decode cX9_family 32 = .ok (.invokevirtual 90, 3) := by decide +kernel
theorem dX9_family_35 : decode cX9_family 35 = .ok (.ireturn, 1) := by decide +kernel
theorem dX9_family_36 : decode cX9_family 36 = .ok (.aload_n 0, 1) := by decide +kernel
theorem dX9_family_37 : decode cX9_family 37 = .ok (.getfield 54, 3) := by decide +kernel
theorem dX9_family_40 : decode cX9_family 40 = .ok (.aload_n 0, 1) := by decide +kernel
theorem dX9_family_41 : decode cX9_family 41 = .ok (.getfield 40, 3) := by decide +kernel
theorem dX9_family_44 : decode cX9_family 44 = .ok (.aload_n 0, 1) := by decide +kernel
theorem dX9_family_45 : decode cX9_family 45 = .ok (.iconst 3, 1) := by decide +kernel
theorem dX9_family_46 : decode cX9_family 46 = .ok (.invokevirtual 157, 3) := by decide +kernel
theorem dX9_family_49 : decode cX9_family 49 = .ok (.invokevirtual 313, 3) := by decide +kernel
theorem dX9_family_52 : decode cX9_family 52 = .ok (.ifCond .ne 6, 3) := by decide +kernel
theorem dX9_family_55 : decode cX9_family 55 = .ok (.bipush (-4), 2) := by decide +kernel
theorem dX9_family_57 : decode cX9_family 57 = .ok (.ireturn, 1) := by decide +kernel
theorem dX9_family_58 : decode cX9_family 58 = .ok (.aload_n 0, 1) := by decide +kernel
theorem dX9_family_59 : decode cX9_family 59 = .ok (.getfield 61, 3) := by decide +kernel
theorem dX9_family_62 : decode cX9_family 62 = .ok (.iload_n 1, 1) := by decide +kernel
theorem dX9_family_63 : decode cX9_family 63 = .ok (.aload_n 0, 1) := by decide +kernel
theorem dX9_family_64 : decode cX9_family 64 = .ok (.getfield 40, 3) := by decide +kernel
theorem dX9_family_67 : decode cX9_family 67 = .ok (.aload_n 0, 1) := by decide +kernel
theorem dX9_family_68 : decode cX9_family 68 = .ok (.getfield 23, 3) := by decide +kernel
theorem dX9_family_71 : decode cX9_family 71 = .ok (.aload_n 0, 1) := by decide +kernel
theorem dX9_family_72 : decode cX9_family 72 = .ok (.getfield 54, 3) := by decide +kernel
theorem dX9_family_75 : decode cX9_family 75 = .ok (.getfield 320, 3) := by decide +kernel
theorem dX9_family_78 : decode cX9_family 78 = .ok (.invokevirtual 340, 3) := by decide +kernel
theorem dX9_family_81 : decode cX9_family 81 = .ok (.aload_n 0, 1) := by decide +kernel
theorem dX9_family_82 : decode cX9_family 82 = .ok (.getfield 61, 3) := by decide +kernel
theorem dX9_family_85 : decode cX9_family 85 = .ok (.invokevirtual 343, 3) := by decide +kernel
theorem dX9_family_88 : decode cX9_family 88 = .ok (.istore_n 2, 1) := by decide +kernel
theorem dX9_family_89 : decode cX9_family 89 = .ok (.aload_n 0, 1) := by decide +kernel
theorem dX9_family_90 : decode cX9_family 90 = .ok (.aload_n 0, 1) := by decide +kernel
theorem dX9_family_91 : decode cX9_family 91 = .ok (.getfield 61, 3) := by decide +kernel
theorem dX9_family_94 : decode cX9_family 94 = .ok (.getfield 346, 3) := by decide +kernel
theorem dX9_family_97 : decode cX9_family 97 = .ok (.i2l, 1) := by decide +kernel
theorem dX9_family_98 : decode cX9_family 98 = .ok (.putfield 301, 3) := by decide +kernel
theorem dX9_family_101 : decode cX9_family 101 = .ok (.iload_n 2, 1) := by decide +kernel
theorem dX9_family_102 : decode cX9_family 102 = .ok (.ireturn, 1) := by decide +kernel
def c_X9_family (F : Nat) (a0 : Nat) (x1 : Int32) (h0 : z_Hp) : Option (Int32 × z_Hp) := (if hT h0 a0 = 9 then (bI (c_X9_isSetOfSheets F a0 x1 h0) (fun x3 h2 => (if x3 = 0 then (some ((-1), h2)) else (bI (c_J6_bitCount_0f7a4 F x1 h2) (fun x5 h4 => (if x5 ≤ 10 then (if hT h4 a0 = 9 then (bI (c_X9_haveSongs F a0 x1 h4) (fun x7 h6 => (if x7 = 0 then (if hT h6 a0 = 9 then (bI (c_X9_found F a0 1 h6) (fun x31 h30 => (some (x31, h30)))) else none) else (if hT h6 a0 = 9 then (lt_ (hR h6 a0 8) (fun o8 => (if hT h6 a0 = 9 then (lt_ (hR h6 a0 6) (fun o9 => (if hT h6 a0 = 9 then (bI (c_X9_inForceToday F a0 3 h6) (fun x11 h10 => (nn o8 (fun a12 => (if hT h10 a12 = 8 then (bI (c_X8_work F a12 o9 x11 h10) (fun x14 h13 => (if x14 = 0 then (some ((-4), h13)) else (if hT h13 a0 = 9 then (lt_ (hR h13 a0 9) (fun o15 => (if hT h13 a0 = 9 then (lt_ (hR h13 a0 6) (fun o16 => (if hT h13 a0 = 9 then (lt_ (hR h13 a0 2) (fun o17 => (if hT h13 a0 = 9 then (lt_ (hR h13 a0 8) (fun o18 => (nn o18 (fun a19 => (if hT h13 a19 = 8 then (lt_ (hR h13 a19 5) (fun o20 => (nn o15 (fun a21 => (if hT h13 a21 = 0 then (bV (c_X0_gather F a21 x1 o16 o17 o20 h13) (fun h22 => (if hT h22 a0 = 9 then (lt_ (hR h22 a0 9) (fun o23 => (nn o23 (fun a24 => (if hT h22 a24 = 0 then (bI (c_X0_leastSum F a24 h22) (fun x26 h25 => (if hT h25 a0 = 9 then (lt_ (hR h25 a0 9) (fun o27 => (nn o27 (fun a28 => (if hT h25 a28 = 0 then (if hT h25 a0 = 9 then (lt_ (sJ h25 a0 14 ((hI h25 a28 6 : Int32).toInt64)) (fun h29 => (some (x26, h29)))) else none) else none))))) else none))) else none))))) else none))) else none))))) else none))))) else none))) else none))) else none))) else none)))) else none))))) else none))) else none))) else none)))) else none) else (some ((-6), h4)))))))) else none)
set_option maxRecDepth 20000 in
set_option maxHeartbeats 4000000 in
theorem t_X9_family (F : Nat) (a0 : Nat) (x1 : Int32) (h0 : z_Hp) : z_Ct zi mi_X9_family [vr (some a0), vi x1] h0 (c_X9_family F a0 x1 h0) := by
  refine z_entry (by decide) (Nat.le_of_ble_eq_true rfl) [(0, vr (some a0)), (1, vi x1)] rfl ?_
  unfold c_X9_family
  refine z_aload_n (pc := 0) dX9_family_0 rfl 0 rfl (z_iload_n (pc := 1) dX9_family_1 rfl 1 rfl (z_callV_I (pc := 2) (avs := [vi x1]) (st := []) rfl (q := (RX9, TX9, 18)) rfl rfl (t_X9_isSetOfSheets F a0 x1 h0) ky_X9_isSetOfSheets wm_X9_isSetOfSheets we_X9_isSetOfSheets wz_RX9_334 (rm_X9_family_X9_isSetOfSheets) (Nat.le_of_ble_eq_true rfl) dX9_family_2 (fun x3 h2 => (?_))))
  refine z_if_ne (pc := 5) (tgt := 10) dX9_family_5 (by decide) ?_ ?_
  · refine z_iload_n (pc := 10) dX9_family_10 rfl 1 rfl (z_callS_I (pc := 11) (avs := [vi x1]) (st := []) rfl (t_J6_bitCount_0f7a4 F x1 h2) ky_J6_bitCount_0f7a4 ws_J6_bitCount_0f7a4 wz_RX9_271 (rm_X9_family_J6_bitCount_0f7a4) (Nat.le_of_ble_eq_true rfl) dX9_family_11 (fun x5 h4 => (?_)))
    refine z_bipush (pc := 14) dX9_family_14 bp_10 (?_)
    refine z_icmp_le (pc := 16) (tgt := 22) dX9_family_16 (by decide) ?_ ?_
    · refine z_aload_n (pc := 22) dX9_family_22 rfl 0 rfl (z_iload_n (pc := 23) dX9_family_23 rfl 1 rfl (z_callV_I (pc := 24) (avs := [vi x1]) (st := []) rfl (q := (RX9, TX9, 18)) rfl rfl (t_X9_haveSongs F a0 x1 h4) ky_X9_haveSongs wm_X9_haveSongs we_X9_haveSongs wz_RX9_337 (rm_X9_family_X9_haveSongs) (Nat.le_of_ble_eq_true rfl) dX9_family_24 (fun x7 h6 => (?_))))
      refine z_if_ne (pc := 27) (tgt := 36) dX9_family_27 (by decide) ?_ ?_
      · refine z_aload_n (pc := 36) dX9_family_36 rfl 0 rfl (z_getRl (pc := 37) fl_RX9_54 rfl dX9_family_37 (fun o8 => (z_aload_n (pc := 40) dX9_family_40 rfl 0 rfl (z_getRl (pc := 41) fl_RX9_40 rfl dX9_family_41 (fun o9 => (z_aload_n (pc := 44) dX9_family_44 rfl 0 rfl (z_iconst (pc := 45) dX9_family_45 ic_3 (z_callV_I (pc := 46) (avs := [vi 3]) (st := [vr o9, vr o8]) rfl (q := (RX9, TX9, 18)) rfl rfl (t_X9_inForceToday F a0 3 h6) ky_X9_inForceToday wm_X9_inForceToday we_X9_inForceToday wz_RX9_157 (rm_X9_family_X9_inForceToday) (Nat.le_of_ble_eq_true rfl) dX9_family_46 (fun x11 h10 => (?_))))))))))
        refine z_nn (fun a12 ea12 => ?_)
        subst ea12
        refine z_callV_I (pc := 49) (avs := [vr o9, vi x11]) (st := []) rfl (q := (RX8, TX8, 7)) rfl rfl (t_X8_work F a12 o9 x11 h10) ky_X8_work wm_X8_work we_X8_work wz_RX9_313 (rm_X9_family_X8_work) (Nat.le_of_ble_eq_true rfl) dX9_family_49 (fun x14 h13 => (?_))
        refine z_if_ne (pc := 52) (tgt := 58) dX9_family_52 (by decide) ?_ ?_
        · refine z_aload_n (pc := 58) dX9_family_58 rfl 0 rfl (z_getRl (pc := 59) fl_RX9_61 rfl dX9_family_59 (fun o15 => (z_iload_n (pc := 62) dX9_family_62 rfl 1 rfl (z_aload_n (pc := 63) dX9_family_63 rfl 0 rfl (z_getRl (pc := 64) fl_RX9_40 rfl dX9_family_64 (fun o16 => (z_aload_n (pc := 67) dX9_family_67 rfl 0 rfl (z_getRl (pc := 68) fl_RX9_23 rfl dX9_family_68 (fun o17 => (z_aload_n (pc := 71) dX9_family_71 rfl 0 rfl (?_)))))))))))
          refine z_getRl (pc := 72) fl_RX9_54 rfl dX9_family_72 (fun o18 => (?_))
          refine z_nn (fun a19 ea19 => ?_)
          subst ea19
          refine z_getRl (pc := 75) fl_RX9_320 rfl dX9_family_75 (fun o20 => (?_))
          refine z_nn (fun a21 ea21 => ?_)
          subst ea21
          refine z_callV_V (pc := 78) (avs := [vi x1, vr o16, vr o17, vr o20]) (st := []) rfl (q := (RX0, TX0, 7)) rfl rfl (t_X0_gather F a21 x1 o16 o17 o20 h13) ky_X0_gather wm_X0_gather we_X0_gather wz_RX9_340 (rm_X9_family_X0_gather) (Nat.le_of_ble_eq_true rfl) dX9_family_78 (fun h22 => (?_))
          refine z_aload_n (pc := 81) dX9_family_81 rfl 0 rfl (z_getRl (pc := 82) fl_RX9_61 rfl dX9_family_82 (fun o23 => (?_)))
          refine z_nn (fun a24 ea24 => ?_)
          subst ea24
          refine z_callV_I (pc := 85) (avs := []) (st := []) rfl (q := (RX0, TX0, 7)) rfl rfl (t_X0_leastSum F a24 h22) ky_X0_leastSum wm_X0_leastSum we_X0_leastSum wz_RX9_343 (rm_X9_family_X0_leastSum) (Nat.le_of_ble_eq_true rfl) dX9_family_85 (fun x26 h25 => (?_))
          refine z_istore_n (pc := 88) (L' := [(0, vr (some a0)), (1, vi x1), (2, vi x26)]) dX9_family_88 rfl (Nat.le_of_ble_eq_true rfl) rfl (z_aload_n (pc := 89) dX9_family_89 rfl 0 rfl (z_aload_n (pc := 90) dX9_family_90 rfl 0 rfl (z_getRl (pc := 91) fl_RX9_61 rfl dX9_family_91 (fun o27 => (?_)))))
          refine z_nn (fun a28 ea28 => ?_)
          subst ea28
          refine z_getI (pc := 94) fl_RX9_346 rfl dX9_family_94 (z_i2l (pc := 97) dX9_family_97 (z_putJl (pc := 98) fl_RX9_301 (fin_X_9_14 _) rfl dX9_family_98 (fun h29 => (z_iload_n (pc := 101) dX9_family_101 rfl 2 rfl (?_)))))
          exact z_iret (pc := 102) dX9_family_102 rfl rfl
        · refine z_bipush (pc := 55) dX9_family_55 bp_m4 (?_)
          exact z_iret (pc := 57) dX9_family_57 rfl rfl
      · refine z_aload_n (pc := 30) dX9_family_30 rfl 0 rfl (z_iconst (pc := 31) dX9_family_31 ic_1 (z_callV_I (pc := 32) (avs := [vi 1]) (st := []) rfl (q := (RX9, TX9, 18)) rfl rfl (t_X9_found F a0 1 h6) ky_X9_found wm_X9_found we_X9_found wz_RX9_90 (rm_X9_family_X9_found) (Nat.le_of_ble_eq_true rfl) dX9_family_32 (fun x31 h30 => (?_))))
        exact z_iret (pc := 35) dX9_family_35 rfl rfl
    · refine z_bipush (pc := 19) dX9_family_19 bp_m6 (?_)
      exact z_iret (pc := 21) dX9_family_21 rfl rfl
  · refine z_iconst (pc := 8) dX9_family_8 ic_m1 (?_)
    exact z_iret (pc := 9) dX9_family_9 rfl rfl
theorem dX9_judge_0 : decode cX9_judge 0 = .ok (.aload_n 0, 1) := by decide +kernel
theorem dX9_judge_1 : decode cX9_judge 1 = .ok (.iload_n 1, 1) := by decide +kernel
theorem dX9_judge_2 : decode cX9_judge 2 = .ok (.invokevirtual 334, 3) := by decide +kernel
theorem dX9_judge_5 : decode cX9_judge 5 = .ok (.ifCond .eq 10, 3) := by decide +kernel
theorem dX9_judge_8 : decode cX9_judge 8 = .ok (.iload_n 2, 1) := by decide +kernel
theorem dX9_judge_9 : decode cX9_judge 9 = .ok (.invokestatic 86, 3) := by decide +kernel
theorem dX9_judge_12 : decode cX9_judge 12 = .ok (.ifCond .ne 5, 3) := by decide +kernel
theorem dX9_judge_15 : decode cX9_judge 15 = .ok (.iconst (-1), 1) := by decide +kernel
theorem dX9_judge_16 : decode cX9_judge 16 = .ok (.ireturn, 1) := by decide +kernel
theorem dX9_judge_17 : decode cX9_judge 17 = .ok (.iload_n 1, 1) := by decide +kernel
theorem dX9_judge_18 : decode cX9_judge 18 = .ok (.invokestatic 271, 3) := by decide +kernel
theorem dX9_judge_21 : decode cX9_judge 21 = .ok (.istore_n 3, 1) := by decide +kernel
theorem dX9_judge_22 : decode cX9_judge 22 = .ok (.iload_n 3, 1) := by decide +kernel
theorem dX9_judge_23 : decode cX9_judge 23 = .ok (.bipush 10, 2) := by decide +kernel
theorem dX9_judge_25 : decode cX9_judge 25 = .ok (.if_icmp .le 6, 3) := by decide +kernel
theorem dX9_judge_28 : decode cX9_judge 28 = .ok (.bipush (-6), 2) := by decide +kernel
theorem dX9_judge_30 : decode cX9_judge 30 = .ok (.ireturn, 1) := by decide +kernel
theorem dX9_judge_31 : decode cX9_judge 31 = .ok (.aload_n 0, 1) := by decide +kernel
theorem dX9_judge_32 : decode cX9_judge 32 = .ok (.getfield 11, 3) := by decide +kernel
theorem dX9_judge_35 : decode cX9_judge 35 = .ok (.iload_n 2, 1) := by decide +kernel
theorem dX9_judge_36 : decode cX9_judge 36 = .ok (.aaload, 1) := by decide +kernel
theorem dX9_judge_37 : decode cX9_judge 37 = .ok (.astore 4, 2) := by decide +kernel
theorem dX9_judge_39 : decode cX9_judge 39 = .ok (.aload 4, 2) := by decide +kernel
theorem dX9_judge_41 : decode cX9_judge 41 = .ok (.ifnull 11, 3) := by decide +kernel
theorem dX9_judge_44 : decode cX9_judge 44 = .ok (.aload_n 0, 1) := by decide +kernel
theorem dX9_judge_45 : decode cX9_judge 45 = .ok (.iload_n 1, 1) := by decide +kernel
theorem dX9_judge_46 : decode cX9_judge 46 = .ok (.invokevirtual 337, 3) := by decide +kernel
theorem dX9_judge_49 : decode cX9_judge 49 = .ok (.ifCond .ne 9, 3) := by decide +kernel
theorem dX9_judge_52 : decode cX9_judge 52 = .ok (.aload_n 0, 1) := by decide +kernel
theorem dX9_judge_53 : decode cX9_judge 53 = .ok (.iconst 1, 1) := by decide +kernel
theorem dX9_judge_54 : decode cX9_judge 54 = .ok (.invokevirtual 90, 3) := by decide +kernel
theorem dX9_judge_57 : decode cX9_judge 57 = .ok (.ireturn, 1) := by decide +kernel
theorem dX9_judge_58 : decode cX9_judge 58 = .ok (.aload 4, 2) := by decide +kernel
theorem dX9_judge_60 : decode cX9_judge 60 = .ok (.arraylength, 1) := by decide +kernel
theorem dX9_judge_61 : decode cX9_judge 61 = .ok (.iload_n 3, 1) := by decide +kernel
theorem dX9_judge_62 : decode cX9_judge 62 = .ok (.if_icmp .eq 9, 3) := by decide +kernel
theorem dX9_judge_65 : decode cX9_judge 65 = .ok (.aload_n 0, 1) := by decide +kernel
theorem dX9_judge_66 : decode cX9_judge 66 = .ok (.iconst 5, 1) := by decide +kernel
theorem dX9_judge_67 : decode cX9_judge 67 = .ok (.invokevirtual 90, 3) := by decide +kernel
theorem dX9_judge_70 : decode cX9_judge 70 = .ok (.ireturn, 1) := by decide +kernel
theorem dX9_judge_71 : decode cX9_judge 71 = .ok (.aload_n 0, 1) := by decide +kernel
theorem dX9_judge_72 : decode cX9_judge 72 = .ok (.getfield 54, 3) := by decide +kernel
theorem dX9_judge_75 : decode cX9_judge 75 = .ok (.aload_n 0, 1) := by decide +kernel
theorem dX9_judge_76 : decode cX9_judge 76 = .ok (.getfield 40, 3) := by decide +kernel
theorem dX9_judge_79 : decode cX9_judge 79 = .ok (.aload_n 0, 1) := by decide +kernel
theorem dX9_judge_80 : decode cX9_judge 80 = .ok (.iconst 3, 1) := by decide +kernel
theorem dX9_judge_81 : decode cX9_judge 81 = .ok (.invokevirtual 157, 3) := by decide +kernel
theorem dX9_judge_84 : decode cX9_judge 84 = .ok (.invokevirtual 313, 3) := by decide +kernel
theorem dX9_judge_87 : decode cX9_judge 87 = .ok (.ifCond .ne 6, 3) := by decide +kernel
theorem dX9_judge_90 : decode cX9_judge 90 = .ok (.bipush (-4), 2) := by decide +kernel
theorem dX9_judge_92 : decode cX9_judge 92 = .ok (.ireturn, 1) := by decide +kernel
theorem dX9_judge_93 : decode cX9_judge 93 = .ok (.aload_n 0, 1) := by decide +kernel
theorem dX9_judge_94 : decode cX9_judge 94 = .ok (.getfield 61, 3) := by decide +kernel
theorem dX9_judge_97 : decode cX9_judge 97 = .ok (.iload_n 1, 1) := by decide +kernel
theorem dX9_judge_98 : decode cX9_judge 98 = .ok (.aload_n 0, 1) := by decide +kernel
theorem dX9_judge_99 : decode cX9_judge 99 = .ok (.getfield 40, 3) := by decide +kernel
theorem dX9_judge_102 : decode cX9_judge 102 = .ok (.aload_n 0, 1) := by decide +kernel
theorem dX9_judge_103 : decode cX9_judge 103 = .ok (.getfield 23, 3) := by decide +kernel
theorem dX9_judge_106 : decode cX9_judge 106 = .ok (.aload_n 0, 1) := by decide +kernel
theorem dX9_judge_107 : decode cX9_judge 107 = .ok (.getfield 54, 3) := by decide +kernel
theorem dX9_judge_110 : decode cX9_judge 110 = .ok (.getfield 320, 3) := by decide +kernel
theorem dX9_judge_113 : decode cX9_judge 113 = .ok (.invokevirtual 340, 3) := by decide +kernel
theorem dX9_judge_116 : decode cX9_judge 116 = .ok (.aload_n 0, 1) := by decide +kernel
theorem dX9_judge_117 : decode cX9_judge 117 = .ok (.getfield 61, 3) := by decide +kernel
theorem dX9_judge_120 : decode cX9_judge 120 = .ok (.aload 4, 2) := by decide +kernel
theorem dX9_judge_122 : decode cX9_judge 122 = .ok (.invokevirtual 349, 3) := by decide +kernel
theorem dX9_judge_125 : decode cX9_judge 125 = .ok (.istore 5, 2) := by decide +kernel
theorem dX9_judge_127 : decode cX9_judge 127 = .ok (.iload 5, 2) := by decide +kernel
theorem dX9_judge_129 : decode cX9_judge 129 = .ok (.bipush (-9), 2) := by decide +kernel
theorem dX9_judge_131 : decode cX9_judge 131 = .ok (.if_icmp .ne 16, 3) := by decide +kernel
theorem dX9_judge_134 : decode cX9_judge 134 = .ok (.aload_n 0, 1) := by decide +kernel
theorem dX9_judge_135 : decode cX9_judge 135 = .ok (.aload_n 0, 1) := by decide +kernel
theorem dX9_judge_136 : decode cX9_judge 136 = .ok (.getfield 61, 3) := by decide +kernel
theorem dX9_judge_139 : decode cX9_judge 139 = .ok (.aload 4, 2) := by decide +kernel
theorem dX9_judge_141 : decode cX9_judge 141 = .ok (.invokevirtual 353, 3) := by decide +kernel
theorem dX9_judge_144 : decode cX9_judge 144 = .ok (.putfield 94, 3) := by decide +kernel
theorem dX9_judge_147 : decode cX9_judge 147 = .ok (.iload 5, 2) := by decide +kernel
theorem dX9_judge_149 : decode cX9_judge 149 = .ok (.ireturn, 1) := by decide +kernel
def c_X9_judge (F : Nat) (a0 : Nat) (x1 : Int32) (x2 : Int32) (h0 : z_Hp) : Option (Int32 × z_Hp) := (if hT h0 a0 = 9 then (bI (c_X9_isSetOfSheets F a0 x1 h0) (fun x4 h3 => (if x4 = 0 then (some ((-1), h3)) else (bI (c_X9_isRow F x2 h3) (fun x6 h5 => (if x6 = 0 then (some ((-1), h5)) else (bI (c_J6_bitCount_0f7a4 F x1 h5) (fun x8 h7 => (if x8 ≤ 10 then (if hT h7 a0 = 9 then (lt_ (hR h7 a0 0) (fun o9 => (nn o9 (fun a10 => (if okA h7 a10 23 x2 = true then (lt_ (hR h7 a10 (ix x2)) (fun o11 => (lt_ (fun (h13 : z_Hp) => (if hT h13 a0 = 9 then (bI (c_X9_found F a0 1 h13) (fun x15 h14 => (some (x15, h14)))) else none)) (fun (j52_12 : z_Hp → Option (Int32 × z_Hp)) => (nl o11 (j52_12 h7) (fun a16 => (if hT h7 a0 = 9 then (bI (c_X9_haveSongs F a0 x1 h7) (fun x18 h17 => (if x18 = 0 then (j52_12 h17) else (if okL h17 a16 = true then (if (nI (hN h17 a16)) = x8 then (if hT h17 a0 = 9 then (lt_ (hR h17 a0 8) (fun o19 => (if hT h17 a0 = 9 then (lt_ (hR h17 a0 6) (fun o20 => (if hT h17 a0 = 9 then (bI (c_X9_inForceToday F a0 3 h17) (fun x22 h21 => (nn o19 (fun a23 => (if hT h21 a23 = 8 then (bI (c_X8_work F a23 o20 x22 h21) (fun x25 h24 => (if x25 = 0 then (some ((-4), h24)) else (if hT h24 a0 = 9 then (lt_ (hR h24 a0 9) (fun o26 => (if hT h24 a0 = 9 then (lt_ (hR h24 a0 6) (fun o27 => (if hT h24 a0 = 9 then (lt_ (hR h24 a0 2) (fun o28 => (if hT h24 a0 = 9 then (lt_ (hR h24 a0 8) (fun o29 => (nn o29 (fun a30 => (if hT h24 a30 = 8 then (lt_ (hR h24 a30 5) (fun o31 => (nn o26 (fun a32 => (if hT h24 a32 = 0 then (bV (c_X0_gather F a32 x1 o27 o28 o31 h24) (fun h33 => (if hT h33 a0 = 9 then (lt_ (hR h33 a0 9) (fun o34 => (nn o34 (fun a35 => (if hT h33 a35 = 0 then (bI (c_X0_firstWrongParent F a35 (some a16) h33) (fun x37 h36 => (if x37 = (-9) then (if hT h36 a0 = 9 then (lt_ (hR h36 a0 9) (fun o38 => (nn o38 (fun a39 => (if hT h36 a39 = 0 then (bI (c_X0_sumOf F a39 (some a16) h36) (fun x41 h40 => (if hT h40 a0 = 9 then (lt_ (sI h40 a0 15 x41) (fun h42 => (some (x37, h42)))) else none))) else none))))) else none) else (some (x37, h36))))) else none))))) else none))) else none))))) else none))))) else none))) else none))) else none))) else none)))) else none))))) else none))) else none))) else none) else (if hT h17 a0 = 9 then (bI (c_X9_found F a0 5 h17) (fun x44 h43 => (some (x44, h43)))) else none)) else none)))) else none))))))) else none))))) else none) else (some ((-6), h7))))))))))) else none)
set_option maxRecDepth 20000 in
set_option maxHeartbeats 4000000 in
theorem t_X9_judge (F : Nat) (a0 : Nat) (x1 : Int32) (x2 : Int32) (h0 : z_Hp) : z_Ct zi mi_X9_judge [vr (some a0), vi x1, vi x2] h0 (c_X9_judge F a0 x1 x2 h0) := by
  refine z_entry (by decide) (Nat.le_of_ble_eq_true rfl) [(0, vr (some a0)), (1, vi x1), (2, vi x2)] rfl ?_
  unfold c_X9_judge
  refine z_aload_n (pc := 0) dX9_judge_0 rfl 0 rfl (z_iload_n (pc := 1) dX9_judge_1 rfl 1 rfl (z_callV_I (pc := 2) (avs := [vi x1]) (st := []) rfl (q := (RX9, TX9, 18)) rfl rfl (t_X9_isSetOfSheets F a0 x1 h0) ky_X9_isSetOfSheets wm_X9_isSetOfSheets we_X9_isSetOfSheets wz_RX9_334 (rm_X9_judge_X9_isSetOfSheets) (Nat.le_of_ble_eq_true rfl) dX9_judge_2 (fun x4 h3 => (?_))))
  refine z_if_eq (pc := 5) (tgt := 15) dX9_judge_5 (by decide) ?_ ?_
  · refine z_iconst (pc := 15) dX9_judge_15 ic_m1 (?_)
    exact z_iret (pc := 16) dX9_judge_16 rfl rfl
  · refine z_iload_n (pc := 8) dX9_judge_8 rfl 2 rfl (z_callS_I (pc := 9) (avs := [vi x2]) (st := []) rfl (t_X9_isRow F x2 h3) ky_X9_isRow ws_X9_isRow wz_RX9_86 (rm_X9_judge_X9_isRow) (Nat.le_of_ble_eq_true rfl) dX9_judge_9 (fun x6 h5 => (?_)))
    refine z_if_ne (pc := 12) (tgt := 17) dX9_judge_12 (by decide) ?_ ?_
    · refine z_iload_n (pc := 17) dX9_judge_17 rfl 1 rfl (z_callS_I (pc := 18) (avs := [vi x1]) (st := []) rfl (t_J6_bitCount_0f7a4 F x1 h5) ky_J6_bitCount_0f7a4 ws_J6_bitCount_0f7a4 wz_RX9_271 (rm_X9_judge_J6_bitCount_0f7a4) (Nat.le_of_ble_eq_true rfl) dX9_judge_18 (fun x8 h7 => (?_)))
      refine z_istore_n (pc := 21) (L' := [(0, vr (some a0)), (1, vi x1), (2, vi x2), (3, vi x8)]) dX9_judge_21 rfl (Nat.le_of_ble_eq_true rfl) rfl (z_iload_n (pc := 22) dX9_judge_22 rfl 3 rfl (z_bipush (pc := 23) dX9_judge_23 bp_10 (?_)))
      refine z_icmp_le (pc := 25) (tgt := 31) dX9_judge_25 (by decide) ?_ ?_
      · refine z_aload_n (pc := 31) dX9_judge_31 rfl 0 rfl (z_getRl (pc := 32) fl_RX9_11 rfl dX9_judge_32 (fun o9 => (z_iload_n (pc := 35) dX9_judge_35 rfl 2 rfl (?_))))
        refine z_nn (fun a10 ea10 => ?_)
        subst ea10
        refine z_aaloadl (pc := 36) 23 (by decide) dX9_judge_36 (fun o11 => (z_astore (pc := 37) (L' := [(0, vr (some a0)), (1, vi x1), (2, vi x2), (3, vi x8), (4, vr o11)]) dX9_judge_37 (Nat.le_of_ble_eq_true rfl) rfl (z_aload (pc := 39) dX9_judge_39 4 rfl (?_))))
        refine z_jn (P := fun (j : z_Hp → Option (Int32 × z_Hp)) => ∀ (h13 : z_Hp), z_G zi mi_X9_judge 52 [(0, vr (some a0))] [] h13 (j h13)) (fun h13 => ?_) (fun j52_12 qj52_12 => ?_)
        · refine z_aload_n (pc := 52) dX9_judge_52 rfl 0 rfl (z_iconst (pc := 53) dX9_judge_53 ic_1 (z_callV_I (pc := 54) (avs := [vi 1]) (st := []) rfl (q := (RX9, TX9, 18)) rfl rfl (t_X9_found F a0 1 h13) ky_X9_found wm_X9_found we_X9_found wz_RX9_90 (rm_X9_judge_X9_found) (Nat.le_of_ble_eq_true rfl) dX9_judge_54 (fun x15 h14 => (?_))))
          exact z_iret (pc := 57) dX9_judge_57 rfl rfl
        refine z_ifnull (pc := 41) (tgt := 52) dX9_judge_41 (by decide) (fun ea16 => ?_) (fun a16 ea16 => ?_)
        · subst ea16
          exact z_sub [0] rfl (qj52_12 h7)
        · subst ea16
          refine z_aload_n (pc := 44) dX9_judge_44 rfl 0 rfl (z_iload_n (pc := 45) dX9_judge_45 rfl 1 rfl (z_callV_I (pc := 46) (avs := [vi x1]) (st := []) rfl (q := (RX9, TX9, 18)) rfl rfl (t_X9_haveSongs F a0 x1 h7) ky_X9_haveSongs wm_X9_haveSongs we_X9_haveSongs wz_RX9_337 (rm_X9_judge_X9_haveSongs) (Nat.le_of_ble_eq_true rfl) dX9_judge_46 (fun x18 h17 => (?_))))
          refine z_if_ne (pc := 49) (tgt := 58) dX9_judge_49 (by decide) ?_ ?_
          · refine z_aload (pc := 58) dX9_judge_58 4 rfl (z_alen (pc := 60) dX9_judge_60 (z_iload_n (pc := 61) dX9_judge_61 rfl 3 rfl (?_)))
            refine z_icmp_eq (pc := 62) (tgt := 71) dX9_judge_62 (by decide) ?_ ?_
            · refine z_aload_n (pc := 71) dX9_judge_71 rfl 0 rfl (z_getRl (pc := 72) fl_RX9_54 rfl dX9_judge_72 (fun o19 => (z_aload_n (pc := 75) dX9_judge_75 rfl 0 rfl (z_getRl (pc := 76) fl_RX9_40 rfl dX9_judge_76 (fun o20 => (z_aload_n (pc := 79) dX9_judge_79 rfl 0 rfl (z_iconst (pc := 80) dX9_judge_80 ic_3 (z_callV_I (pc := 81) (avs := [vi 3]) (st := [vr o20, vr o19]) rfl (q := (RX9, TX9, 18)) rfl rfl (t_X9_inForceToday F a0 3 h17) ky_X9_inForceToday wm_X9_inForceToday we_X9_inForceToday wz_RX9_157 (rm_X9_judge_X9_inForceToday) (Nat.le_of_ble_eq_true rfl) dX9_judge_81 (fun x22 h21 => (?_))))))))))
              refine z_nn (fun a23 ea23 => ?_)
              subst ea23
              refine z_callV_I (pc := 84) (avs := [vr o20, vi x22]) (st := []) rfl (q := (RX8, TX8, 7)) rfl rfl (t_X8_work F a23 o20 x22 h21) ky_X8_work wm_X8_work we_X8_work wz_RX9_313 (rm_X9_judge_X8_work) (Nat.le_of_ble_eq_true rfl) dX9_judge_84 (fun x25 h24 => (?_))
              refine z_if_ne (pc := 87) (tgt := 93) dX9_judge_87 (by decide) ?_ ?_
              · refine z_aload_n (pc := 93) dX9_judge_93 rfl 0 rfl (z_getRl (pc := 94) fl_RX9_61 rfl dX9_judge_94 (fun o26 => (z_iload_n (pc := 97) dX9_judge_97 rfl 1 rfl (z_aload_n (pc := 98) dX9_judge_98 rfl 0 rfl (z_getRl (pc := 99) fl_RX9_40 rfl dX9_judge_99 (fun o27 => (z_aload_n (pc := 102) dX9_judge_102 rfl 0 rfl (z_getRl (pc := 103) fl_RX9_23 rfl dX9_judge_103 (fun o28 => (z_aload_n (pc := 106) dX9_judge_106 rfl 0 rfl (?_)))))))))))
                refine z_getRl (pc := 107) fl_RX9_54 rfl dX9_judge_107 (fun o29 => (?_))
                refine z_nn (fun a30 ea30 => ?_)
                subst ea30
                refine z_getRl (pc := 110) fl_RX9_320 rfl dX9_judge_110 (fun o31 => (?_))
                refine z_nn (fun a32 ea32 => ?_)
                subst ea32
                refine z_callV_V (pc := 113) (avs := [vi x1, vr o27, vr o28, vr o31]) (st := []) rfl (q := (RX0, TX0, 7)) rfl rfl (t_X0_gather F a32 x1 o27 o28 o31 h24) ky_X0_gather wm_X0_gather we_X0_gather wz_RX9_340 (rm_X9_judge_X0_gather) (Nat.le_of_ble_eq_true rfl) dX9_judge_113 (fun h33 => (?_))
                refine z_aload_n (pc := 116) dX9_judge_116 rfl 0 rfl (z_getRl (pc := 117) fl_RX9_61 rfl dX9_judge_117 (fun o34 => (z_aload (pc := 120) dX9_judge_120 4 rfl (?_))))
                refine z_nn (fun a35 ea35 => ?_)
                subst ea35
                refine z_callV_I (pc := 122) (avs := [vr (some a16)]) (st := []) rfl (q := (RX0, TX0, 7)) rfl rfl (t_X0_firstWrongParent F a35 (some a16) h33) ky_X0_firstWrongParent wm_X0_firstWrongParent we_X0_firstWrongParent wz_RX9_349 (rm_X9_judge_X0_firstWrongParent) (Nat.le_of_ble_eq_true rfl) dX9_judge_122 (fun x37 h36 => (?_))
                refine z_istore (pc := 125) (L' := [(0, vr (some a0)), (1, vi x1), (2, vi x2), (3, vi x8), (4, vr (some a16)), (5, vi x37)]) dX9_judge_125 (Nat.le_of_ble_eq_true rfl) rfl (z_iload (pc := 127) dX9_judge_127 5 rfl (z_bipush (pc := 129) dX9_judge_129 bp_m9 (?_)))
                refine z_icmp_ne (pc := 131) (tgt := 147) dX9_judge_131 (by decide) ?_ ?_
                · refine z_iload (pc := 147) dX9_judge_147 5 rfl (?_)
                  exact z_iret (pc := 149) dX9_judge_149 rfl rfl
                · refine z_aload_n (pc := 134) dX9_judge_134 rfl 0 rfl (z_aload_n (pc := 135) dX9_judge_135 rfl 0 rfl (z_getRl (pc := 136) fl_RX9_61 rfl dX9_judge_136 (fun o38 => (z_aload (pc := 139) dX9_judge_139 4 rfl (?_)))))
                  refine z_nn (fun a39 ea39 => ?_)
                  subst ea39
                  refine z_callV_I (pc := 141) (avs := [vr (some a16)]) (st := [vr (some a0)]) rfl (q := (RX0, TX0, 7)) rfl rfl (t_X0_sumOf F a39 (some a16) h36) ky_X0_sumOf wm_X0_sumOf we_X0_sumOf wz_RX9_353 (rm_X9_judge_X0_sumOf) (Nat.le_of_ble_eq_true rfl) dX9_judge_141 (fun x41 h40 => (?_))
                  refine z_putIl (pc := 144) fl_RX9_94 (fin_X_9_15 _) rfl dX9_judge_144 (fun h42 => (z_iload (pc := 147) dX9_judge_147 5 rfl (?_)))
                  exact z_iret (pc := 149) dX9_judge_149 rfl rfl
              · refine z_bipush (pc := 90) dX9_judge_90 bp_m4 (?_)
                exact z_iret (pc := 92) dX9_judge_92 rfl rfl
            · refine z_aload_n (pc := 65) dX9_judge_65 rfl 0 rfl (z_iconst (pc := 66) dX9_judge_66 ic_5 (z_callV_I (pc := 67) (avs := [vi 5]) (st := []) rfl (q := (RX9, TX9, 18)) rfl rfl (t_X9_found F a0 5 h17) ky_X9_found wm_X9_found we_X9_found wz_RX9_90 (rm_X9_judge_X9_found) (Nat.le_of_ble_eq_true rfl) dX9_judge_67 (fun x44 h43 => (?_))))
              exact z_iret (pc := 70) dX9_judge_70 rfl rfl
          · exact z_sub [0] rfl (qj52_12 h17)
      · refine z_bipush (pc := 28) dX9_judge_28 bp_m6 (?_)
        exact z_iret (pc := 30) dX9_judge_30 rfl rfl
    · refine z_iconst (pc := 15) dX9_judge_15 ic_m1 (?_)
      exact z_iret (pc := 16) dX9_judge_16 rfl rfl
theorem dX9_choices_0 : decode cX9_choices 0 = .ok (.iload_n 1, 1) := by decide +kernel
theorem dX9_choices_1 : decode cX9_choices 1 = .ok (.ifCond .lt 8, 3) := by decide +kernel
theorem dX9_choices_4 : decode cX9_choices 4 = .ok (.iload_n 1, 1) := by decide +kernel
theorem dX9_choices_5 : decode cX9_choices 5 = .ok (.iload_n 0, 1) := by decide +kernel
theorem dX9_choices_6 : decode cX9_choices 6 = .ok (.if_icmp .le 5, 3) := by decide +kernel
theorem dX9_choices_9 : decode cX9_choices 9 = .ok (.lconst 0, 1) := by decide +kernel
theorem dX9_choices_10 : decode cX9_choices 10 = .ok (.lreturn, 1) := by decide +kernel
theorem dX9_choices_11 : decode cX9_choices 11 = .ok (.lconst 1, 1) := by decide +kernel
theorem dX9_choices_12 : decode cX9_choices 12 = .ok (.lstore_n 2, 1) := by decide +kernel
theorem dX9_choices_13 : decode cX9_choices 13 = .ok (.iconst 1, 1) := by decide +kernel
theorem dX9_choices_14 : decode cX9_choices 14 = .ok (.istore 4, 2) := by decide +kernel
theorem dX9_choices_16 : decode cX9_choices 16 = .ok (.iload 4, 2) := by decide +kernel
theorem dX9_choices_18 : decode cX9_choices 18 = .ok (.iload_n 1, 1) := by decide +kernel
theorem dX9_choices_19 : decode cX9_choices 19 = .ok (.if_icmp .gt 23, 3) := by decide +kernel
theorem dX9_choices_22 : decode cX9_choices 22 = .ok (.lload_n 2, 1) := by decide +kernel
theorem dX9_choices_23 : decode cX9_choices 23 = .ok (.iload_n 0, 1) := by decide +kernel
theorem dX9_choices_24 : decode cX9_choices 24 = .ok (.iload_n 1, 1) := by decide +kernel
theorem dX9_choices_25 : decode cX9_choices 25 = .ok (.isub, 1) := by decide +kernel
theorem dX9_choices_26 : decode cX9_choices 26 = .ok (.iload 4, 2) := by decide +kernel
theorem dX9_choices_28 : decode cX9_choices 28 = .ok (.iadd, 1) := by decide +kernel
theorem dX9_choices_29 : decode cX9_choices 29 = .ok (.i2l, 1) := by decide +kernel
theorem dX9_choices_30 : decode cX9_choices 30 = .ok (.lmul, 1) := by decide +kernel
theorem dX9_choices_31 : decode cX9_choices 31 = .ok (.iload 4, 2) := by decide +kernel
theorem dX9_choices_33 : decode cX9_choices 33 = .ok (.i2l, 1) := by decide +kernel
theorem dX9_choices_34 : decode cX9_choices 34 = .ok (.ldiv, 1) := by decide +kernel
theorem dX9_choices_35 : decode cX9_choices 35 = .ok (.lstore_n 2, 1) := by decide +kernel
theorem dX9_choices_36 : decode cX9_choices 36 = .ok (.iinc 4 1, 3) := by decide +kernel
theorem dX9_choices_39 : decode cX9_choices 39 = .ok (.goto (-23), 3) := by decide +kernel
theorem dX9_choices_42 : decode cX9_choices 42 = .ok (.lload_n 2, 1) := by decide +kernel
theorem dX9_choices_43 : decode cX9_choices 43 = .ok (.lreturn, 1) := by decide +kernel
def c_X9_choices_L16 (F : Nat) (x3 : Int32) (x4 : Int32) : Nat → Int64 → Int32 → z_Hp → Option (Int64 × z_Hp)
  | 0, _, _, _ => none
  | n + 1, y5, x6, h7 => (if x4 < x6 then (some (y5, h7)) else (if ((x6 : Int32).toInt64) = 0 then none else (lt_ ((y5 * (((x3 - x4) + x6 : Int32).toInt64)) / ((x6 : Int32).toInt64)) (fun y8 => (lt_ (x6 + 1) (fun x9 => (c_X9_choices_L16 F x3 x4 n y8 x9 h7)))))))
def c_X9_choices (F : Nat) (x1 : Int32) (x2 : Int32) (h0 : z_Hp) : Option (Int64 × z_Hp) := (if x2 < 0 then (some (0, h0)) else (if x2 ≤ x1 then (c_X9_choices_L16 F x1 x2 F 1 1 h0) else (some (0, h0))))
set_option maxRecDepth 20000 in
set_option maxHeartbeats 4000000 in
theorem g_X9_choices_L16 (F : Nat) (x3 : Int32) (x4 : Int32) : ∀ (n : Nat) (y5 : Int64) (x6 : Int32) (h7 : z_Hp), z_G zl mi_X9_choices 16 [(0, vi x3), (1, vi x4), (2, vl y5), (4, vi x6)] [] h7 (c_X9_choices_L16 F x3 x4 n y5 x6 h7) := by
  intro n
  induction n with
  | zero => intro y5 x6 h7; rw [c_X9_choices_L16]; exact z_none
  | succ n ih =>
    intro y5 x6 h7
    rw [c_X9_choices_L16]
    refine z_iload (pc := 16) dX9_choices_16 3 rfl (z_iload_n (pc := 18) dX9_choices_18 rfl 1 rfl (?_))
    refine z_icmp_gt (pc := 19) (tgt := 42) dX9_choices_19 (by decide) ?_ ?_
    · refine z_lload_n (pc := 42) dX9_choices_42 rfl 2 rfl (?_)
      exact z_lret (pc := 43) dX9_choices_43 rfl
    · refine z_lload_n (pc := 22) dX9_choices_22 rfl 2 rfl (z_iload_n (pc := 23) dX9_choices_23 rfl 0 rfl (z_iload_n (pc := 24) dX9_choices_24 rfl 1 rfl (z_isub (pc := 25) dX9_choices_25 (z_iload (pc := 26) dX9_choices_26 3 rfl (z_iadd (pc := 28) dX9_choices_28 (z_i2l (pc := 29) dX9_choices_29 (z_lmul (pc := 30) dX9_choices_30 (?_))))))))
      refine z_iload (pc := 31) dX9_choices_31 3 rfl (z_i2l (pc := 33) dX9_choices_33 (z_ldiv (pc := 34) dX9_choices_34 (z_lstorel_n (pc := 35) (L' := fun y8 => [(0, vi x3), (1, vi x4), (2, vl y8), (4, vi x6)]) dX9_choices_35 rfl (Nat.le_of_ble_eq_true rfl) (fun _ => rfl) (fun y8 => (z_iincl (pc := 36) (L' := fun x9 => [(0, vi x3), (1, vi x4), (2, vl y8), (4, vi x9)]) dX9_choices_36 3 rfl ic_1 (Nat.le_of_ble_eq_true rfl) (fun _ => rfl) (fun x9 => (z_goto (pc := 39) (tgt := 16) dX9_choices_39 (by decide) (?_))))))))
      exact ih y8 x9 h7
set_option maxRecDepth 20000 in
set_option maxHeartbeats 4000000 in
theorem t_X9_choices (F : Nat) (x1 : Int32) (x2 : Int32) (h0 : z_Hp) : z_Ct zl mi_X9_choices [vi x1, vi x2] h0 (c_X9_choices F x1 x2 h0) := by
  refine z_entry (by decide) (Nat.le_of_ble_eq_true rfl) [(0, vi x1), (1, vi x2)] rfl ?_
  unfold c_X9_choices
  refine z_iload_n (pc := 0) dX9_choices_0 rfl 1 rfl (?_)
  refine z_if_lt (pc := 1) (tgt := 9) dX9_choices_1 (by decide) ?_ ?_
  · refine z_lconst (pc := 9) dX9_choices_9 lc_0 (?_)
    exact z_lret (pc := 10) dX9_choices_10 rfl
  · refine z_iload_n (pc := 4) dX9_choices_4 rfl 1 rfl (z_iload_n (pc := 5) dX9_choices_5 rfl 0 rfl (?_))
    refine z_icmp_le (pc := 6) (tgt := 11) dX9_choices_6 (by decide) ?_ ?_
    · refine z_lconst (pc := 11) dX9_choices_11 lc_1 (z_lstore_n (pc := 12) (L' := [(0, vi x1), (1, vi x2), (2, vl 1)]) dX9_choices_12 rfl (Nat.le_of_ble_eq_true rfl) rfl (z_iconst (pc := 13) dX9_choices_13 ic_1 (z_istore (pc := 14) (L' := [(0, vi x1), (1, vi x2), (2, vl 1), (4, vi 1)]) dX9_choices_14 (Nat.le_of_ble_eq_true rfl) rfl (?_))))
      refine g_X9_choices_L16 F x1 x2 F 1 1 h0
    · refine z_lconst (pc := 9) dX9_choices_9 lc_0 (?_)
      exact z_lret (pc := 10) dX9_choices_10 rfl
theorem dX9_greatestDivisor_0 : decode cX9_greatestDivisor 0 = .ok (.lload_n 0, 1) := by decide +kernel
theorem dX9_greatestDivisor_1 : decode cX9_greatestDivisor 1 = .ok (.lstore 4, 2) := by decide +kernel
theorem dX9_greatestDivisor_3 : decode cX9_greatestDivisor 3 = .ok (.lload_n 2, 1) := by decide +kernel
theorem dX9_greatestDivisor_4 : decode cX9_greatestDivisor 4 = .ok (.lstore 6, 2) := by decide +kernel
theorem dX9_greatestDivisor_6 : decode cX9_greatestDivisor 6 = .ok (.iconst 0, 1) := by decide +kernel
theorem dX9_greatestDivisor_7 : decode cX9_greatestDivisor 7 = .ok (.istore 8, 2) := by decide +kernel
theorem dX9_greatestDivisor_9 : decode cX9_greatestDivisor 9 = .ok (.iload 8, 2) := by decide +kernel
theorem dX9_greatestDivisor_11 : decode cX9_greatestDivisor 11 = .ok (.bipush 100, 2) := by decide +kernel
theorem dX9_greatestDivisor_13 : decode cX9_greatestDivisor 13 = .ok (.if_icmp .ge 31, 3) := by decide +kernel
theorem dX9_greatestDivisor_16 : decode cX9_greatestDivisor 16 = .ok (.lload 4, 2) := by decide +kernel
theorem dX9_greatestDivisor_18 : decode cX9_greatestDivisor 18 = .ok (.lconst 0, 1) := by decide +kernel
theorem dX9_greatestDivisor_19 : decode cX9_greatestDivisor 19 = .ok (.lcmp, 1) := by decide +kernel
theorem dX9_greatestDivisor_20 : decode cX9_greatestDivisor 20 = .ok (.ifCond .eq 24, 3) := by decide +kernel
theorem dX9_greatestDivisor_23 : decode cX9_greatestDivisor 23 = .ok (.lload 6, 2) := by decide +kernel
theorem dX9_greatestDivisor_25 : decode cX9_greatestDivisor 25 = .ok (.lload 4, 2) := by decide +kernel
theorem dX9_greatestDivisor_27 : decode cX9_greatestDivisor 27 = .ok (.lrem, 1) := by decide +kernel
theorem dX9_greatestDivisor_28 : decode cX9_greatestDivisor 28 = .ok (.lstore 9, 2) := by decide +kernel
theorem dX9_greatestDivisor_30 : decode cX9_greatestDivisor 30 = .ok (.lload 4, 2) := by decide +kernel
theorem dX9_greatestDivisor_32 : decode cX9_greatestDivisor 32 = .ok (.lstore 6, 2) := by decide +kernel
theorem dX9_greatestDivisor_34 : decode cX9_greatestDivisor 34 = .ok (.lload 9, 2) := by decide +kernel
theorem dX9_greatestDivisor_36 : decode cX9_greatestDivisor 36 = .ok (.lstore 4, 2) := by decide +kernel
theorem dX9_greatestDivisor_38 : decode cX9_greatestDivisor 38 = .ok (.iinc 8 1, 3) := by decide +kernel
theorem dX9_greatestDivisor_41 : decode cX9_greatestDivisor 41 = .ok (.goto (-32), 3) := by decide +kernel
theorem dX9_greatestDivisor_44 : decode cX9_greatestDivisor 44 = .ok (.lload 6, 2) := by decide +kernel
theorem dX9_greatestDivisor_46 : decode cX9_greatestDivisor 46 = .ok (.lreturn, 1) := by decide +kernel
def c_X9_greatestDivisor_L9 (F : Nat) : Nat → Int64 → Int64 → Int32 → z_Hp → Option (Int64 × z_Hp)
  | 0, _, _, _, _ => none
  | n + 1, y3, y4, x5, h6 => (if 100 ≤ x5 then (some (y4, h6)) else (if (lg_cmp y3 0) = 0 then (some (y4, h6)) else (if y3 = 0 then none else (lt_ (y4 - y4 / y3 * y3) (fun y7 => (lt_ (x5 + 1) (fun x8 => (c_X9_greatestDivisor_L9 F n y7 y3 x8 h6))))))))
def c_X9_greatestDivisor (F : Nat) (y1 : Int64) (y2 : Int64) (h0 : z_Hp) : Option (Int64 × z_Hp) := (c_X9_greatestDivisor_L9 F F y1 y2 0 h0)
set_option maxRecDepth 20000 in
set_option maxHeartbeats 4000000 in
theorem g_X9_greatestDivisor_L9 (F : Nat) : ∀ (n : Nat) (y3 : Int64) (y4 : Int64) (x5 : Int32) (h6 : z_Hp), z_G zl mi_X9_greatestDivisor 9 [(4, vl y3), (6, vl y4), (8, vi x5)] [] h6 (c_X9_greatestDivisor_L9 F n y3 y4 x5 h6) := by
  intro n
  induction n with
  | zero => intro y3 y4 x5 h6; rw [c_X9_greatestDivisor_L9]; exact z_none
  | succ n ih =>
    intro y3 y4 x5 h6
    rw [c_X9_greatestDivisor_L9]
    refine z_iload (pc := 9) dX9_greatestDivisor_9 2 rfl (z_bipush (pc := 11) dX9_greatestDivisor_11 bp_100 (?_))
    refine z_icmp_ge (pc := 13) (tgt := 44) dX9_greatestDivisor_13 (by decide) ?_ ?_
    · refine z_lload (pc := 44) dX9_greatestDivisor_44 1 rfl (?_)
      exact z_lret (pc := 46) dX9_greatestDivisor_46 rfl
    · refine z_lload (pc := 16) dX9_greatestDivisor_16 0 rfl (z_lconst (pc := 18) dX9_greatestDivisor_18 lc_0 (z_lcmp (pc := 19) dX9_greatestDivisor_19 (?_)))
      refine z_if_eq (pc := 20) (tgt := 44) dX9_greatestDivisor_20 (by decide) ?_ ?_
      · refine z_lload (pc := 44) dX9_greatestDivisor_44 1 rfl (?_)
        exact z_lret (pc := 46) dX9_greatestDivisor_46 rfl
      · refine z_lload (pc := 23) dX9_greatestDivisor_23 1 rfl (z_lload (pc := 25) dX9_greatestDivisor_25 0 rfl (z_lrem (pc := 27) dX9_greatestDivisor_27 (z_lstorel (pc := 28) (L' := fun y7 => [(4, vl y3), (6, vl y4), (8, vi x5), (9, vl y7)]) dX9_greatestDivisor_28 (Nat.le_of_ble_eq_true rfl) (fun _ => rfl) (fun y7 => (z_lload (pc := 30) dX9_greatestDivisor_30 0 rfl (z_lstore (pc := 32) (L' := [(4, vl y3), (6, vl y3), (8, vi x5), (9, vl y7)]) dX9_greatestDivisor_32 (Nat.le_of_ble_eq_true rfl) rfl (z_lload (pc := 34) dX9_greatestDivisor_34 3 rfl (z_lstore (pc := 36) (L' := [(4, vl y7), (6, vl y3), (8, vi x5), (9, vl y7)]) dX9_greatestDivisor_36 (Nat.le_of_ble_eq_true rfl) rfl (?_)))))))))
        refine z_iincl (pc := 38) (L' := fun x8 => [(4, vl y7), (6, vl y3), (8, vi x8), (9, vl y7)]) dX9_greatestDivisor_38 2 rfl ic_1 (Nat.le_of_ble_eq_true rfl) (fun _ => rfl) (fun x8 => (z_goto (pc := 41) (tgt := 9) dX9_greatestDivisor_41 (by decide) (?_)))
        exact z_sub [0, 1, 2] rfl (ih y7 y3 x8 h6)
set_option maxRecDepth 20000 in
set_option maxHeartbeats 4000000 in
theorem t_X9_greatestDivisor (F : Nat) (y1 : Int64) (y2 : Int64) (h0 : z_Hp) : z_Ct zl mi_X9_greatestDivisor [vl y1, vl y2] h0 (c_X9_greatestDivisor F y1 y2 h0) := by
  refine z_entry (by decide) (Nat.le_of_ble_eq_true rfl) [(0, vl y1), (2, vl y2)] rfl ?_
  unfold c_X9_greatestDivisor
  refine z_lload_n (pc := 0) dX9_greatestDivisor_0 rfl 0 rfl (z_lstore (pc := 1) (L' := [(0, vl y1), (2, vl y2), (4, vl y1)]) dX9_greatestDivisor_1 (Nat.le_of_ble_eq_true rfl) rfl (z_lload_n (pc := 3) dX9_greatestDivisor_3 rfl 1 rfl (z_lstore (pc := 4) (L' := [(0, vl y1), (2, vl y2), (4, vl y1), (6, vl y2)]) dX9_greatestDivisor_4 (Nat.le_of_ble_eq_true rfl) rfl (z_iconst (pc := 6) dX9_greatestDivisor_6 ic_0 (z_istore (pc := 7) (L' := [(0, vl y1), (2, vl y2), (4, vl y1), (6, vl y2), (8, vi 0)]) dX9_greatestDivisor_7 (Nat.le_of_ble_eq_true rfl) rfl (?_))))))
  refine z_sub [2, 3, 4] rfl (g_X9_greatestDivisor_L9 F F y1 y2 0 h0)
theorem dX9_tellFraction_0 : decode cX9_tellFraction 0 = .ok (.lconst 1, 1) := by decide +kernel
theorem dX9_tellFraction_1 : decode cX9_tellFraction 1 = .ok (.lload_n 1, 1) := by decide +kernel
theorem dX9_tellFraction_2 : decode cX9_tellFraction 2 = .ok (.lload_n 3, 1) := by decide +kernel
theorem dX9_tellFraction_3 : decode cX9_tellFraction 3 = .ok (.invokestatic 447, 3) := by decide +kernel
theorem dX9_tellFraction_6 : decode cX9_tellFraction 6 = .ok (.invokestatic 451, 3) := by decide +kernel
theorem dX9_tellFraction_9 : decode cX9_tellFraction 9 = .ok (.lstore 5, 2) := by decide +kernel
theorem dX9_tellFraction_11 : decode cX9_tellFraction 11 = .ok (.aload_n 0, 1) := by decide +kernel
theorem dX9_tellFraction_12 : decode cX9_tellFraction 12 = .ok (.lload_n 1, 1) := by decide +kernel
theorem dX9_tellFraction_13 : decode cX9_tellFraction 13 = .ok (.lload 5, 2) := by decide +kernel
theorem dX9_tellFraction_15 : decode cX9_tellFraction 15 = .ok (.ldiv, 1) := by decide +kernel
theorem dX9_tellFraction_16 : decode cX9_tellFraction 16 = .ok (.putfield 398, 3) := by decide +kernel
theorem dX9_tellFraction_19 : decode cX9_tellFraction 19 = .ok (.aload_n 0, 1) := by decide +kernel
theorem dX9_tellFraction_20 : decode cX9_tellFraction 20 = .ok (.lload_n 3, 1) := by decide +kernel
theorem dX9_tellFraction_21 : decode cX9_tellFraction 21 = .ok (.lload 5, 2) := by decide +kernel
theorem dX9_tellFraction_23 : decode cX9_tellFraction 23 = .ok (.ldiv, 1) := by decide +kernel
theorem dX9_tellFraction_24 : decode cX9_tellFraction 24 = .ok (.putfield 82, 3) := by decide +kernel
theorem dX9_tellFraction_27 : decode cX9_tellFraction 27 = .ok (.return_, 1) := by decide +kernel
def c_X9_tellFraction (F : Nat) (a0 : Nat) (y1 : Int64) (y2 : Int64) (h0 : z_Hp) : Option (z_Hp) := (bL (c_X9_greatestDivisor F y1 y2 h0) (fun y4 h3 => (bL (c_J9_max_f86c9 F 1 y4 h3) (fun y6 h5 => (if y6 = 0 then none else (if hT h5 a0 = 9 then (lt_ (sJ h5 a0 16 (y1 / y6)) (fun h7 => (if y6 = 0 then none else (if hT h7 a0 = 9 then (lt_ (sJ h7 a0 17 (y2 / y6)) (fun h8 => (some h8))) else none)))) else none))))))
set_option maxRecDepth 20000 in
set_option maxHeartbeats 4000000 in
theorem t_X9_tellFraction (F : Nat) (a0 : Nat) (y1 : Int64) (y2 : Int64) (h0 : z_Hp) : z_Ct zv mi_X9_tellFraction [vr (some a0), vl y1, vl y2] h0 (c_X9_tellFraction F a0 y1 y2 h0) := by
  refine z_entry (by decide) (Nat.le_of_ble_eq_true rfl) [(0, vr (some a0)), (1, vl y1), (3, vl y2)] rfl ?_
  unfold c_X9_tellFraction
  refine z_lconst (pc := 0) dX9_tellFraction_0 lc_1 (z_lload_n (pc := 1) dX9_tellFraction_1 rfl 1 rfl (z_lload_n (pc := 2) dX9_tellFraction_2 rfl 2 rfl (z_callS_L (pc := 3) (avs := [vl y1, vl y2]) (st := [vl 1]) rfl (t_X9_greatestDivisor F y1 y2 h0) ky_X9_greatestDivisor ws_X9_greatestDivisor wz_RX9_447 (rm_X9_tellFraction_X9_greatestDivisor) (Nat.le_of_ble_eq_true rfl) dX9_tellFraction_3 (fun y4 h3 => (?_)))))
  refine z_callS_L (pc := 6) (avs := [vl 1, vl y4]) (st := []) rfl (t_J9_max_f86c9 F 1 y4 h3) ky_J9_max_f86c9 ws_J9_max_f86c9 wz_RX9_451 (rm_X9_tellFraction_J9_max_f86c9) (Nat.le_of_ble_eq_true rfl) dX9_tellFraction_6 (fun y6 h5 => (?_))
  refine z_lstore (pc := 9) (L' := [(0, vr (some a0)), (1, vl y1), (3, vl y2), (5, vl y6)]) dX9_tellFraction_9 (Nat.le_of_ble_eq_true rfl) rfl (z_aload_n (pc := 11) dX9_tellFraction_11 rfl 0 rfl (z_lload_n (pc := 12) dX9_tellFraction_12 rfl 1 rfl (z_lload (pc := 13) dX9_tellFraction_13 3 rfl (z_ldiv (pc := 15) dX9_tellFraction_15 (z_putJl (pc := 16) fl_RX9_398 (fin_X_9_16 _) rfl dX9_tellFraction_16 (fun h7 => (z_aload_n (pc := 19) dX9_tellFraction_19 rfl 0 rfl (z_lload_n (pc := 20) dX9_tellFraction_20 rfl 2 rfl (?_)))))))))
  refine z_lload (pc := 21) dX9_tellFraction_21 3 rfl (z_ldiv (pc := 23) dX9_tellFraction_23 (z_putJl (pc := 24) fl_RX9_82 (fin_X_9_17 _) rfl dX9_tellFraction_24 (fun h8 => (?_))))
  exact z_vret (pc := 27) dX9_tellFraction_27 rfl
theorem dX9_tellWould_0 : decode cX9_tellWould 0 = .ok (.lconst 0, 1) := by decide +kernel
theorem dX9_tellWould_1 : decode cX9_tellWould 1 = .ok (.lstore 4, 2) := by decide +kernel
theorem dX9_tellWould_3 : decode cX9_tellWould 3 = .ok (.iload_n 3, 1) := by decide +kernel
theorem dX9_tellWould_4 : decode cX9_tellWould 4 = .ok (.istore 6, 2) := by decide +kernel
theorem dX9_tellWould_6 : decode cX9_tellWould 6 = .ok (.iload 6, 2) := by decide +kernel
theorem dX9_tellWould_8 : decode cX9_tellWould 8 = .ok (.iload_n 2, 1) := by decide +kernel
theorem dX9_tellWould_9 : decode cX9_tellWould 9 = .ok (.if_icmp .gt 32, 3) := by decide +kernel
theorem dX9_tellWould_12 : decode cX9_tellWould 12 = .ok (.lload 4, 2) := by decide +kernel
theorem dX9_tellWould_14 : decode cX9_tellWould 14 = .ok (.iload_n 1, 1) := by decide +kernel
theorem dX9_tellWould_15 : decode cX9_tellWould 15 = .ok (.iload 6, 2) := by decide +kernel
theorem dX9_tellWould_17 : decode cX9_tellWould 17 = .ok (.invokestatic 454, 3) := by decide +kernel
theorem dX9_tellWould_20 : decode cX9_tellWould 20 = .ok (.bipush 16, 2) := by decide +kernel
theorem dX9_tellWould_22 : decode cX9_tellWould 22 = .ok (.iload_n 1, 1) := by decide +kernel
theorem dX9_tellWould_23 : decode cX9_tellWould 23 = .ok (.isub, 1) := by decide +kernel
theorem dX9_tellWould_24 : decode cX9_tellWould 24 = .ok (.iload_n 2, 1) := by decide +kernel
theorem dX9_tellWould_25 : decode cX9_tellWould 25 = .ok (.iload 6, 2) := by decide +kernel
theorem dX9_tellWould_27 : decode cX9_tellWould 27 = .ok (.isub, 1) := by decide +kernel
theorem dX9_tellWould_28 : decode cX9_tellWould 28 = .ok (.invokestatic 454, 3) := by decide +kernel
theorem dX9_tellWould_31 : decode cX9_tellWould 31 = .ok (.lmul, 1) := by decide +kernel
theorem dX9_tellWould_32 : decode cX9_tellWould 32 = .ok (.ladd, 1) := by decide +kernel
theorem dX9_tellWould_33 : decode cX9_tellWould 33 = .ok (.lstore 4, 2) := by decide +kernel
theorem dX9_tellWould_35 : decode cX9_tellWould 35 = .ok (.iinc 6 1, 3) := by decide +kernel
theorem dX9_tellWould_38 : decode cX9_tellWould 38 = .ok (.goto (-32), 3) := by decide +kernel
theorem dX9_tellWould_41 : decode cX9_tellWould 41 = .ok (.aload_n 0, 1) := by decide +kernel
theorem dX9_tellWould_42 : decode cX9_tellWould 42 = .ok (.lload 4, 2) := by decide +kernel
theorem dX9_tellWould_44 : decode cX9_tellWould 44 = .ok (.bipush 16, 2) := by decide +kernel
theorem dX9_tellWould_46 : decode cX9_tellWould 46 = .ok (.iload_n 2, 1) := by decide +kernel
theorem dX9_tellWould_47 : decode cX9_tellWould 47 = .ok (.invokestatic 454, 3) := by decide +kernel
theorem dX9_tellWould_50 : decode cX9_tellWould 50 = .ok (.invokevirtual 394, 3) := by decide +kernel
theorem dX9_tellWould_53 : decode cX9_tellWould 53 = .ok (.return_, 1) := by decide +kernel
def c_X9_tellWould_L6 (F : Nat) (a4 : Nat) (x5 : Int32) (x6 : Int32) (k41 : Int64 → z_Hp → Option (z_Hp)) : Nat → Int64 → Int32 → z_Hp → Option (z_Hp)
  | 0, _, _, _ => none
  | n + 1, y7, x8, h9 => (if x6 < x8 then (k41 y7 h9) else (bL (c_X9_choices F x5 x8 h9) (fun y13 h12 => (bL (c_X9_choices F (16 - x5) (x6 - x8) h12) (fun y15 h14 => (lt_ (y7 + (y13 * y15)) (fun y16 => (lt_ (x8 + 1) (fun x17 => (c_X9_tellWould_L6 F a4 x5 x6 k41 n y16 x17 h14))))))))))
def c_X9_tellWould (F : Nat) (a0 : Nat) (x1 : Int32) (x2 : Int32) (x3 : Int32) (h0 : z_Hp) : Option (z_Hp) := (c_X9_tellWould_L6 F a0 x1 x2 (fun y18 h19 => (bL (c_X9_choices F 16 x2 h19) (fun y21 h20 => (if hT h20 a0 = 9 then (bV (c_X9_tellFraction F a0 y18 y21 h20) (fun h22 => (some h22))) else none)))) F 0 x3 h0)
set_option maxRecDepth 20000 in
set_option maxHeartbeats 4000000 in
theorem g_X9_tellWould_L6 (F : Nat) (a4 : Nat) (x5 : Int32) (x6 : Int32) (k41 : Int64 → z_Hp → Option (z_Hp)) (qk41 : ∀ (y10 : Int64) (h11 : z_Hp), z_G zv mi_X9_tellWould 41 [(0, vr (some a4)), (2, vi x6), (4, vl y10)] [] h11 (k41 y10 h11)) : ∀ (n : Nat) (y7 : Int64) (x8 : Int32) (h9 : z_Hp), z_G zv mi_X9_tellWould 6 [(0, vr (some a4)), (1, vi x5), (2, vi x6), (4, vl y7), (6, vi x8)] [] h9 (c_X9_tellWould_L6 F a4 x5 x6 k41 n y7 x8 h9) := by
  intro n
  induction n with
  | zero => intro y7 x8 h9; rw [c_X9_tellWould_L6]; exact z_none
  | succ n ih =>
    intro y7 x8 h9
    rw [c_X9_tellWould_L6]
    refine z_iload (pc := 6) dX9_tellWould_6 4 rfl (z_iload_n (pc := 8) dX9_tellWould_8 rfl 2 rfl (?_))
    refine z_icmp_gt (pc := 9) (tgt := 41) dX9_tellWould_9 (by decide) ?_ ?_
    · exact z_sub [0, 2, 3] rfl (qk41 y7 h9)
    · refine z_lload (pc := 12) dX9_tellWould_12 3 rfl (z_iload_n (pc := 14) dX9_tellWould_14 rfl 1 rfl (z_iload (pc := 15) dX9_tellWould_15 4 rfl (z_callS_L (pc := 17) (avs := [vi x5, vi x8]) (st := [vl y7]) rfl (t_X9_choices F x5 x8 h9) ky_X9_choices ws_X9_choices wz_RX9_454 (rm_X9_tellWould_X9_choices) (Nat.le_of_ble_eq_true rfl) dX9_tellWould_17 (fun y13 h12 => (?_)))))
      refine z_bipush (pc := 20) dX9_tellWould_20 bp_16 (z_iload_n (pc := 22) dX9_tellWould_22 rfl 1 rfl (z_isub (pc := 23) dX9_tellWould_23 (z_iload_n (pc := 24) dX9_tellWould_24 rfl 2 rfl (z_iload (pc := 25) dX9_tellWould_25 4 rfl (z_isub (pc := 27) dX9_tellWould_27 (z_callS_L (pc := 28) (avs := [vi (16 - x5), vi (x6 - x8)]) (st := [vl y13, vl y7]) rfl (t_X9_choices F (16 - x5) (x6 - x8) h12) ky_X9_choices ws_X9_choices wz_RX9_454 (rm_X9_tellWould_X9_choices) (Nat.le_of_ble_eq_true rfl) dX9_tellWould_28 (fun y15 h14 => (?_))))))))
      refine z_lmul (pc := 31) dX9_tellWould_31 (z_ladd (pc := 32) dX9_tellWould_32 (z_lstorel (pc := 33) (L' := fun y16 => [(0, vr (some a4)), (1, vi x5), (2, vi x6), (4, vl y16), (6, vi x8)]) dX9_tellWould_33 (Nat.le_of_ble_eq_true rfl) (fun _ => rfl) (fun y16 => (z_iincl (pc := 35) (L' := fun x17 => [(0, vr (some a4)), (1, vi x5), (2, vi x6), (4, vl y16), (6, vi x17)]) dX9_tellWould_35 4 rfl ic_1 (Nat.le_of_ble_eq_true rfl) (fun _ => rfl) (fun x17 => (z_goto (pc := 38) (tgt := 6) dX9_tellWould_38 (by decide) (?_)))))))
      exact ih y16 x17 h14
set_option maxRecDepth 20000 in
set_option maxHeartbeats 4000000 in
theorem t_X9_tellWould (F : Nat) (a0 : Nat) (x1 : Int32) (x2 : Int32) (x3 : Int32) (h0 : z_Hp) : z_Ct zv mi_X9_tellWould [vr (some a0), vi x1, vi x2, vi x3] h0 (c_X9_tellWould F a0 x1 x2 x3 h0) := by
  refine z_entry (by decide) (Nat.le_of_ble_eq_true rfl) [(0, vr (some a0)), (1, vi x1), (2, vi x2), (3, vi x3)] rfl ?_
  unfold c_X9_tellWould
  refine z_lconst (pc := 0) dX9_tellWould_0 lc_0 (z_lstore (pc := 1) (L' := [(0, vr (some a0)), (1, vi x1), (2, vi x2), (3, vi x3), (4, vl 0)]) dX9_tellWould_1 (Nat.le_of_ble_eq_true rfl) rfl (z_iload_n (pc := 3) dX9_tellWould_3 rfl 3 rfl (z_istore (pc := 4) (L' := [(0, vr (some a0)), (1, vi x1), (2, vi x2), (3, vi x3), (4, vl 0), (6, vi x3)]) dX9_tellWould_4 (Nat.le_of_ble_eq_true rfl) rfl (?_))))
  refine z_sub [0, 1, 2, 4, 5] rfl (g_X9_tellWould_L6 F a0 x1 x2 _ (fun y18 h19 => ?_) F 0 x3 h0)
  refine z_aload_n (pc := 41) dX9_tellWould_41 rfl 0 rfl (z_lload (pc := 42) dX9_tellWould_42 2 rfl (z_bipush (pc := 44) dX9_tellWould_44 bp_16 (z_iload_n (pc := 46) dX9_tellWould_46 rfl 1 rfl (z_callS_L (pc := 47) (avs := [vi 16, vi x2]) (st := [vl y18, vr (some a0)]) rfl (t_X9_choices F 16 x2 h19) ky_X9_choices ws_X9_choices wz_RX9_454 (rm_X9_tellWould_X9_choices) (Nat.le_of_ble_eq_true rfl) dX9_tellWould_47 (fun y21 h20 => (?_))))))
  refine z_callV_V (pc := 50) (avs := [vl y18, vl y21]) (st := []) rfl (q := (RX9, TX9, 18)) rfl rfl (t_X9_tellFraction F a0 y18 y21 h20) ky_X9_tellFraction wm_X9_tellFraction we_X9_tellFraction wz_RX9_394 (rm_X9_tellWould_X9_tellFraction) (Nat.le_of_ble_eq_true rfl) dX9_tellWould_50 (fun h22 => (?_))
  exact z_vret (pc := 53) dX9_tellWould_53 rfl
theorem dX9_taken_0 : decode cX9_taken 0 = .ok (.aload_n 0, 1) := by decide +kernel
theorem dX9_taken_1 : decode cX9_taken 1 = .ok (.iload_n 1, 1) := by decide +kernel
theorem dX9_taken_2 : decode cX9_taken 2 = .ok (.iload_n 2, 1) := by decide +kernel
theorem dX9_taken_3 : decode cX9_taken 3 = .ok (.invokevirtual 282, 3) := by decide +kernel
theorem dX9_taken_6 : decode cX9_taken 6 = .ok (.ifCond .ne 5, 3) := by decide +kernel
theorem dX9_taken_9 : decode cX9_taken 9 = .ok (.iconst (-1), 1) := by decide +kernel
theorem dX9_taken_10 : decode cX9_taken 10 = .ok (.ireturn, 1) := by decide +kernel
theorem dX9_taken_11 : decode cX9_taken 11 = .ok (.aload_n 0, 1) := by decide +kernel
theorem dX9_taken_12 : decode cX9_taken 12 = .ok (.getfield 40, 3) := by decide +kernel
theorem dX9_taken_15 : decode cX9_taken 15 = .ok (.getfield 219, 3) := by decide +kernel
theorem dX9_taken_18 : decode cX9_taken 18 = .ok (.iload_n 1, 1) := by decide +kernel
theorem dX9_taken_19 : decode cX9_taken 19 = .ok (.aaload, 1) := by decide +kernel
theorem dX9_taken_20 : decode cX9_taken 20 = .ok (.getfield 232, 3) := by decide +kernel
theorem dX9_taken_23 : decode cX9_taken 23 = .ok (.istore_n 3, 1) := by decide +kernel
theorem dX9_taken_24 : decode cX9_taken 24 = .ok (.aload_n 0, 1) := by decide +kernel
theorem dX9_taken_25 : decode cX9_taken 25 = .ok (.getfield 40, 3) := by decide +kernel
theorem dX9_taken_28 : decode cX9_taken 28 = .ok (.getfield 219, 3) := by decide +kernel
theorem dX9_taken_31 : decode cX9_taken 31 = .ok (.iload_n 2, 1) := by decide +kernel
theorem dX9_taken_32 : decode cX9_taken 32 = .ok (.aaload, 1) := by decide +kernel
theorem dX9_taken_33 : decode cX9_taken 33 = .ok (.getfield 232, 3) := by decide +kernel
theorem dX9_taken_36 : decode cX9_taken 36 = .ok (.istore 4, 2) := by decide +kernel
theorem dX9_taken_38 : decode cX9_taken 38 = .ok (.iload_n 3, 1) := by decide +kernel
theorem dX9_taken_39 : decode cX9_taken 39 = .ok (.iload 4, 2) := by decide +kernel
theorem dX9_taken_41 : decode cX9_taken 41 = .ok (.iand, 1) := by decide +kernel
theorem dX9_taken_42 : decode cX9_taken 42 = .ok (.invokestatic 271, 3) := by decide +kernel
theorem dX9_taken_45 : decode cX9_taken 45 = .ok (.istore 5, 2) := by decide +kernel
theorem dX9_taken_47 : decode cX9_taken 47 = .ok (.aload_n 0, 1) := by decide +kernel
theorem dX9_taken_48 : decode cX9_taken 48 = .ok (.iload_n 3, 1) := by decide +kernel
theorem dX9_taken_49 : decode cX9_taken 49 = .ok (.invokestatic 271, 3) := by decide +kernel
theorem dX9_taken_52 : decode cX9_taken 52 = .ok (.iload 4, 2) := by decide +kernel
theorem dX9_taken_54 : decode cX9_taken 54 = .ok (.invokestatic 271, 3) := by decide +kernel
theorem dX9_taken_57 : decode cX9_taken 57 = .ok (.iload 5, 2) := by decide +kernel
theorem dX9_taken_59 : decode cX9_taken 59 = .ok (.invokevirtual 356, 3) := by decide +kernel
theorem dX9_taken_62 : decode cX9_taken 62 = .ok (.iload 5, 2) := by decide +kernel
theorem dX9_taken_64 : decode cX9_taken 64 = .ok (.aload_n 0, 1) := by decide +kernel
theorem dX9_taken_65 : decode cX9_taken 65 = .ok (.iconst 2, 1) := by decide +kernel
theorem dX9_taken_66 : decode cX9_taken 66 = .ok (.invokevirtual 157, 3) := by decide +kernel
theorem dX9_taken_69 : decode cX9_taken 69 = .ok (.if_icmp .lt 7, 3) := by decide +kernel
theorem dX9_taken_72 : decode cX9_taken 72 = .ok (.iconst 1, 1) := by decide +kernel
theorem dX9_taken_73 : decode cX9_taken 73 = .ok (.goto 4, 3) := by decide +kernel
theorem dX9_taken_76 : decode cX9_taken 76 = .ok (.iconst 0, 1) := by decide +kernel
theorem dX9_taken_77 : decode cX9_taken 77 = .ok (.ireturn, 1) := by decide +kernel
def c_X9_taken (F : Nat) (a0 : Nat) (x1 : Int32) (x2 : Int32) (h0 : z_Hp) : Option (Int32 × z_Hp) := (if hT h0 a0 = 9 then (bI (c_X9_areTwoSheets F a0 x1 x2 h0) (fun x4 h3 => (if x4 = 0 then (some ((-1), h3)) else (if hT h3 a0 = 9 then (lt_ (hR h3 a0 6) (fun o5 => (nn o5 (fun a6 => (if hT h3 a6 = 6 then (lt_ (hR h3 a6 0) (fun o7 => (nn o7 (fun a8 => (if okA h3 a8 26 x1 = true then (lt_ (hR h3 a8 (ix x1)) (fun o9 => (nn o9 (fun a10 => (if hT h3 a10 = 5 then (lt_ (hI h3 a10 8) (fun x11 => (if hT h3 a0 = 9 then (lt_ (hR h3 a0 6) (fun o12 => (nn o12 (fun a13 => (if hT h3 a13 = 6 then (lt_ (hR h3 a13 0) (fun o14 => (nn o14 (fun a15 => (if okA h3 a15 26 x2 = true then (lt_ (hR h3 a15 (ix x2)) (fun o16 => (nn o16 (fun a17 => (if hT h3 a17 = 5 then (lt_ (hI h3 a17 8) (fun x18 => (bI (c_J6_bitCount_0f7a4 F (x11 &&& x18) h3) (fun x20 h19 => (bI (c_J6_bitCount_0f7a4 F x11 h19) (fun x22 h21 => (bI (c_J6_bitCount_0f7a4 F x18 h21) (fun x24 h23 => (if hT h23 a0 = 9 then (bV (c_X9_tellWould F a0 x22 x24 x20 h23) (fun h25 => (if hT h25 a0 = 9 then (bI (c_X9_inForceToday F a0 2 h25) (fun x27 h26 => (if x20 < x27 then (some (0, h26)) else (some (1, h26))))) else none))) else none))))))))) else none))))) else none))))) else none))))) else none))) else none))))) else none))))) else none))))) else none)))) else none)
set_option maxRecDepth 20000 in
set_option maxHeartbeats 4000000 in
theorem t_X9_taken (F : Nat) (a0 : Nat) (x1 : Int32) (x2 : Int32) (h0 : z_Hp) : z_Ct zi mi_X9_taken [vr (some a0), vi x1, vi x2] h0 (c_X9_taken F a0 x1 x2 h0) := by
  refine z_entry (by decide) (Nat.le_of_ble_eq_true rfl) [(0, vr (some a0)), (1, vi x1), (2, vi x2)] rfl ?_
  unfold c_X9_taken
  refine z_aload_n (pc := 0) dX9_taken_0 rfl 0 rfl (z_iload_n (pc := 1) dX9_taken_1 rfl 1 rfl (z_iload_n (pc := 2) dX9_taken_2 rfl 2 rfl (z_callV_I (pc := 3) (avs := [vi x1, vi x2]) (st := []) rfl (q := (RX9, TX9, 18)) rfl rfl (t_X9_areTwoSheets F a0 x1 x2 h0) ky_X9_areTwoSheets wm_X9_areTwoSheets we_X9_areTwoSheets wz_RX9_282 (rm_X9_taken_X9_areTwoSheets) (Nat.le_of_ble_eq_true rfl) dX9_taken_3 (fun x4 h3 => (?_)))))
  refine z_if_ne (pc := 6) (tgt := 11) dX9_taken_6 (by decide) ?_ ?_
  · refine z_aload_n (pc := 11) dX9_taken_11 rfl 0 rfl (z_getRl (pc := 12) fl_RX9_40 rfl dX9_taken_12 (fun o5 => (?_)))
    refine z_nn (fun a6 ea6 => ?_)
    subst ea6
    refine z_getRl (pc := 15) fl_RX9_219 rfl dX9_taken_15 (fun o7 => (z_iload_n (pc := 18) dX9_taken_18 rfl 1 rfl (?_)))
    refine z_nn (fun a8 ea8 => ?_)
    subst ea8
    refine z_aaloadl (pc := 19) 26 (by decide) dX9_taken_19 (fun o9 => (?_))
    refine z_nn (fun a10 ea10 => ?_)
    subst ea10
    refine z_getI (pc := 20) fl_RX9_232 rfl dX9_taken_20 (z_istorel_n (pc := 23) (L' := fun x11 => [(0, vr (some a0)), (1, vi x1), (2, vi x2), (3, vi x11)]) dX9_taken_23 rfl (Nat.le_of_ble_eq_true rfl) (fun _ => rfl) (fun x11 => (z_aload_n (pc := 24) dX9_taken_24 rfl 0 rfl (z_getRl (pc := 25) fl_RX9_40 rfl dX9_taken_25 (fun o12 => (?_))))))
    refine z_nn (fun a13 ea13 => ?_)
    subst ea13
    refine z_getRl (pc := 28) fl_RX9_219 rfl dX9_taken_28 (fun o14 => (z_iload_n (pc := 31) dX9_taken_31 rfl 2 rfl (?_)))
    refine z_nn (fun a15 ea15 => ?_)
    subst ea15
    refine z_aaloadl (pc := 32) 26 (by decide) dX9_taken_32 (fun o16 => (?_))
    refine z_nn (fun a17 ea17 => ?_)
    subst ea17
    refine z_getI (pc := 33) fl_RX9_232 rfl dX9_taken_33 (z_istorel (pc := 36) (L' := fun x18 => [(0, vr (some a0)), (1, vi x1), (2, vi x2), (3, vi x11), (4, vi x18)]) dX9_taken_36 (Nat.le_of_ble_eq_true rfl) (fun _ => rfl) (fun x18 => (z_iload_n (pc := 38) dX9_taken_38 rfl 3 rfl (z_iload (pc := 39) dX9_taken_39 4 rfl (z_iand (pc := 41) dX9_taken_41 (z_callS_I (pc := 42) (avs := [vi (x11 &&& x18)]) (st := []) rfl (t_J6_bitCount_0f7a4 F (x11 &&& x18) h3) ky_J6_bitCount_0f7a4 ws_J6_bitCount_0f7a4 wz_RX9_271 (rm_X9_taken_J6_bitCount_0f7a4) (Nat.le_of_ble_eq_true rfl) dX9_taken_42 (fun x20 h19 => (?_))))))))
    refine z_istore (pc := 45) (L' := [(0, vr (some a0)), (1, vi x1), (2, vi x2), (3, vi x11), (4, vi x18), (5, vi x20)]) dX9_taken_45 (Nat.le_of_ble_eq_true rfl) rfl (z_aload_n (pc := 47) dX9_taken_47 rfl 0 rfl (z_iload_n (pc := 48) dX9_taken_48 rfl 3 rfl (z_callS_I (pc := 49) (avs := [vi x11]) (st := [vr (some a0)]) rfl (t_J6_bitCount_0f7a4 F x11 h19) ky_J6_bitCount_0f7a4 ws_J6_bitCount_0f7a4 wz_RX9_271 (rm_X9_taken_J6_bitCount_0f7a4) (Nat.le_of_ble_eq_true rfl) dX9_taken_49 (fun x22 h21 => (?_)))))
    refine z_iload (pc := 52) dX9_taken_52 4 rfl (z_callS_I (pc := 54) (avs := [vi x18]) (st := [vi x22, vr (some a0)]) rfl (t_J6_bitCount_0f7a4 F x18 h21) ky_J6_bitCount_0f7a4 ws_J6_bitCount_0f7a4 wz_RX9_271 (rm_X9_taken_J6_bitCount_0f7a4) (Nat.le_of_ble_eq_true rfl) dX9_taken_54 (fun x24 h23 => (?_)))
    refine z_iload (pc := 57) dX9_taken_57 5 rfl (z_callV_V (pc := 59) (avs := [vi x22, vi x24, vi x20]) (st := []) rfl (q := (RX9, TX9, 18)) rfl rfl (t_X9_tellWould F a0 x22 x24 x20 h23) ky_X9_tellWould wm_X9_tellWould we_X9_tellWould wz_RX9_356 (rm_X9_taken_X9_tellWould) (Nat.le_of_ble_eq_true rfl) dX9_taken_59 (fun h25 => (?_)))
    refine z_iload (pc := 62) dX9_taken_62 5 rfl (z_aload_n (pc := 64) dX9_taken_64 rfl 0 rfl (z_iconst (pc := 65) dX9_taken_65 ic_2 (z_callV_I (pc := 66) (avs := [vi 2]) (st := [vi x20]) rfl (q := (RX9, TX9, 18)) rfl rfl (t_X9_inForceToday F a0 2 h25) ky_X9_inForceToday wm_X9_inForceToday we_X9_inForceToday wz_RX9_157 (rm_X9_taken_X9_inForceToday) (Nat.le_of_ble_eq_true rfl) dX9_taken_66 (fun x27 h26 => (?_)))))
    refine z_icmp_lt (pc := 69) (tgt := 76) dX9_taken_69 (by decide) ?_ ?_
    · refine z_iconst (pc := 76) dX9_taken_76 ic_0 (?_)
      exact z_iret (pc := 77) dX9_taken_77 rfl rfl
    · refine z_iconst (pc := 72) dX9_taken_72 ic_1 (z_goto (pc := 73) (tgt := 77) dX9_taken_73 (by decide) (?_))
      exact z_iret (pc := 77) dX9_taken_77 rfl rfl
  · refine z_iconst (pc := 9) dX9_taken_9 ic_m1 (?_)
    exact z_iret (pc := 10) dX9_taken_10 rfl rfl
theorem dX9_register_0 : decode cX9_register 0 = .ok (.iload_n 1, 1) := by decide +kernel
theorem dX9_register_1 : decode cX9_register 1 = .ok (.invokestatic 114, 3) := by decide +kernel
theorem dX9_register_4 : decode cX9_register 4 = .ok (.ifCond .eq 17, 3) := by decide +kernel
theorem dX9_register_7 : decode cX9_register 7 = .ok (.iload_n 2, 1) := by decide +kernel
theorem dX9_register_8 : decode cX9_register 8 = .ok (.invokestatic 188, 3) := by decide +kernel
theorem dX9_register_11 : decode cX9_register 11 = .ok (.ifCond .eq 10, 3) := by decide +kernel
theorem dX9_register_14 : decode cX9_register 14 = .ok (.iload_n 3, 1) := by decide +kernel
theorem dX9_register_15 : decode cX9_register 15 = .ok (.invokestatic 359, 3) := by decide +kernel
theorem dX9_register_18 : decode cX9_register 18 = .ok (.ifCond .ne 5, 3) := by decide +kernel
theorem dX9_register_21 : decode cX9_register 21 = .ok (.iconst (-1), 1) := by decide +kernel
theorem dX9_register_22 : decode cX9_register 22 = .ok (.ireturn, 1) := by decide +kernel
theorem dX9_register_23 : decode cX9_register 23 = .ok (.aload_n 0, 1) := by decide +kernel
theorem dX9_register_24 : decode cX9_register 24 = .ok (.getfield 68, 3) := by decide +kernel
theorem dX9_register_27 : decode cX9_register 27 = .ok (.getfield 362, 3) := by decide +kernel
theorem dX9_register_30 : decode cX9_register 30 = .ok (.bipush 40, 2) := by decide +kernel
theorem dX9_register_32 : decode cX9_register 32 = .ok (.if_icmp .lt 6, 3) := by decide +kernel
theorem dX9_register_35 : decode cX9_register 35 = .ok (.bipush (-2), 2) := by decide +kernel
theorem dX9_register_37 : decode cX9_register 37 = .ok (.ireturn, 1) := by decide +kernel
theorem dX9_register_38 : decode cX9_register 38 = .ok (.aload_n 0, 1) := by decide +kernel
theorem dX9_register_39 : decode cX9_register 39 = .ok (.getfield 68, 3) := by decide +kernel
theorem dX9_register_42 : decode cX9_register 42 = .ok (.iload_n 1, 1) := by decide +kernel
theorem dX9_register_43 : decode cX9_register 43 = .ok (.iload_n 2, 1) := by decide +kernel
theorem dX9_register_44 : decode cX9_register 44 = .ok (.iload_n 3, 1) := by decide +kernel
theorem dX9_register_45 : decode cX9_register 45 = .ok (.invokevirtual 363, 3) := by decide +kernel
theorem dX9_register_48 : decode cX9_register 48 = .ok (.aload_n 0, 1) := by decide +kernel
theorem dX9_register_49 : decode cX9_register 49 = .ok (.getfield 68, 3) := by decide +kernel
theorem dX9_register_52 : decode cX9_register 52 = .ok (.getfield 362, 3) := by decide +kernel
theorem dX9_register_55 : decode cX9_register 55 = .ok (.ireturn, 1) := by decide +kernel
def c_X9_register (F : Nat) (a0 : Nat) (x1 : Int32) (x2 : Int32) (x3 : Int32) (h0 : z_Hp) : Option (Int32 × z_Hp) := (bI (c_X9_isSong F x1 h0) (fun x5 h4 => (if x5 = 0 then (some ((-1), h4)) else (bI (c_X9_isPrinter F x2 h4) (fun x7 h6 => (if x7 = 0 then (some ((-1), h6)) else (bI (c_X9_isToldYear F x3 h6) (fun x9 h8 => (if x9 = 0 then (some ((-1), h8)) else (if hT h8 a0 = 9 then (lt_ (hR h8 a0 10) (fun o10 => (nn o10 (fun a11 => (if hT h8 a11 = 2 then (if (hI h8 a11 4) < 40 then (if hT h8 a0 = 9 then (lt_ (hR h8 a0 10) (fun o12 => (nn o12 (fun a13 => (if hT h8 a13 = 2 then (bV (c_X2_add F a13 x1 x2 x3 h8) (fun h14 => (if hT h14 a0 = 9 then (lt_ (hR h14 a0 10) (fun o15 => (nn o15 (fun a16 => (if hT h14 a16 = 2 then (some (hI h14 a16 4, h14)) else none))))) else none))) else none))))) else none) else (some ((-2), h8))) else none))))) else none))))))))))
set_option maxRecDepth 20000 in
set_option maxHeartbeats 4000000 in
theorem t_X9_register (F : Nat) (a0 : Nat) (x1 : Int32) (x2 : Int32) (x3 : Int32) (h0 : z_Hp) : z_Ct zi mi_X9_register [vr (some a0), vi x1, vi x2, vi x3] h0 (c_X9_register F a0 x1 x2 x3 h0) := by
  refine z_entry (by decide) (Nat.le_of_ble_eq_true rfl) [(0, vr (some a0)), (1, vi x1), (2, vi x2), (3, vi x3)] rfl ?_
  unfold c_X9_register
  refine z_iload_n (pc := 0) dX9_register_0 rfl 1 rfl (z_callS_I (pc := 1) (avs := [vi x1]) (st := []) rfl (t_X9_isSong F x1 h0) ky_X9_isSong ws_X9_isSong wz_RX9_114 (rm_X9_register_X9_isSong) (Nat.le_of_ble_eq_true rfl) dX9_register_1 (fun x5 h4 => (?_)))
  refine z_if_eq (pc := 4) (tgt := 21) dX9_register_4 (by decide) ?_ ?_
  · refine z_iconst (pc := 21) dX9_register_21 ic_m1 (?_)
    exact z_iret (pc := 22) dX9_register_22 rfl rfl
  · refine z_iload_n (pc := 7) dX9_register_7 rfl 2 rfl (z_callS_I (pc := 8) (avs := [vi x2]) (st := []) rfl (t_X9_isPrinter F x2 h4) ky_X9_isPrinter ws_X9_isPrinter wz_RX9_188 (rm_X9_register_X9_isPrinter) (Nat.le_of_ble_eq_true rfl) dX9_register_8 (fun x7 h6 => (?_)))
    refine z_if_eq (pc := 11) (tgt := 21) dX9_register_11 (by decide) ?_ ?_
    · refine z_iconst (pc := 21) dX9_register_21 ic_m1 (?_)
      exact z_iret (pc := 22) dX9_register_22 rfl rfl
    · refine z_iload_n (pc := 14) dX9_register_14 rfl 3 rfl (z_callS_I (pc := 15) (avs := [vi x3]) (st := []) rfl (t_X9_isToldYear F x3 h6) ky_X9_isToldYear ws_X9_isToldYear wz_RX9_359 (rm_X9_register_X9_isToldYear) (Nat.le_of_ble_eq_true rfl) dX9_register_15 (fun x9 h8 => (?_)))
      refine z_if_ne (pc := 18) (tgt := 23) dX9_register_18 (by decide) ?_ ?_
      · refine z_aload_n (pc := 23) dX9_register_23 rfl 0 rfl (z_getRl (pc := 24) fl_RX9_68 rfl dX9_register_24 (fun o10 => (?_)))
        refine z_nn (fun a11 ea11 => ?_)
        subst ea11
        refine z_getI (pc := 27) fl_RX9_362 rfl dX9_register_27 (z_bipush (pc := 30) dX9_register_30 bp_40 (?_))
        refine z_icmp_lt (pc := 32) (tgt := 38) dX9_register_32 (by decide) ?_ ?_
        · refine z_aload_n (pc := 38) dX9_register_38 rfl 0 rfl (z_getRl (pc := 39) fl_RX9_68 rfl dX9_register_39 (fun o12 => (z_iload_n (pc := 42) dX9_register_42 rfl 1 rfl (z_iload_n (pc := 43) dX9_register_43 rfl 2 rfl (z_iload_n (pc := 44) dX9_register_44 rfl 3 rfl (?_))))))
          refine z_nn (fun a13 ea13 => ?_)
          subst ea13
          refine z_callV_V (pc := 45) (avs := [vi x1, vi x2, vi x3]) (st := []) rfl (q := (RX2, TX2, 5)) rfl rfl (t_X2_add F a13 x1 x2 x3 h8) ky_X2_add wm_X2_add we_X2_add wz_RX9_363 (rm_X9_register_X2_add) (Nat.le_of_ble_eq_true rfl) dX9_register_45 (fun h14 => (?_))
          refine z_aload_n (pc := 48) dX9_register_48 rfl 0 rfl (z_getRl (pc := 49) fl_RX9_68 rfl dX9_register_49 (fun o15 => (?_)))
          refine z_nn (fun a16 ea16 => ?_)
          subst ea16
          refine z_getI (pc := 52) fl_RX9_362 rfl dX9_register_52 (?_)
          exact z_iret (pc := 55) dX9_register_55 rfl rfl
        · refine z_bipush (pc := 35) dX9_register_35 bp_m2 (?_)
          exact z_iret (pc := 37) dX9_register_37 rfl rfl
      · refine z_iconst (pc := 21) dX9_register_21 ic_m1 (?_)
        exact z_iret (pc := 22) dX9_register_22 rfl rfl
theorem dX9_right_0 : decode cX9_right 0 = .ok (.iload_n 1, 1) := by decide +kernel
theorem dX9_right_1 : decode cX9_right 1 = .ok (.invokestatic 114, 3) := by decide +kernel
theorem dX9_right_4 : decode cX9_right 4 = .ok (.ifCond .eq 10, 3) := by decide +kernel
theorem dX9_right_7 : decode cX9_right 7 = .ok (.iload_n 2, 1) := by decide +kernel
theorem dX9_right_8 : decode cX9_right 8 = .ok (.invokestatic 359, 3) := by decide +kernel
theorem dX9_right_11 : decode cX9_right 11 = .ok (.ifCond .ne 5, 3) := by decide +kernel
theorem dX9_right_14 : decode cX9_right 14 = .ok (.iconst (-1), 1) := by decide +kernel
theorem dX9_right_15 : decode cX9_right 15 = .ok (.ireturn, 1) := by decide +kernel
theorem dX9_right_16 : decode cX9_right 16 = .ok (.aload_n 0, 1) := by decide +kernel
theorem dX9_right_17 : decode cX9_right 17 = .ok (.getfield 68, 3) := by decide +kernel
theorem dX9_right_20 : decode cX9_right 20 = .ok (.iload_n 1, 1) := by decide +kernel
theorem dX9_right_21 : decode cX9_right 21 = .ok (.iload_n 2, 1) := by decide +kernel
theorem dX9_right_22 : decode cX9_right 22 = .ok (.aload_n 0, 1) := by decide +kernel
theorem dX9_right_23 : decode cX9_right 23 = .ok (.iconst 1, 1) := by decide +kernel
theorem dX9_right_24 : decode cX9_right 24 = .ok (.invokevirtual 157, 3) := by decide +kernel
theorem dX9_right_27 : decode cX9_right 27 = .ok (.invokevirtual 365, 3) := by decide +kernel
theorem dX9_right_30 : decode cX9_right 30 = .ok (.ireturn, 1) := by decide +kernel
def c_X9_right (F : Nat) (a0 : Nat) (x1 : Int32) (x2 : Int32) (h0 : z_Hp) : Option (Int32 × z_Hp) := (bI (c_X9_isSong F x1 h0) (fun x4 h3 => (if x4 = 0 then (some ((-1), h3)) else (bI (c_X9_isToldYear F x2 h3) (fun x6 h5 => (if x6 = 0 then (some ((-1), h5)) else (if hT h5 a0 = 9 then (lt_ (hR h5 a0 10) (fun o7 => (if hT h5 a0 = 9 then (bI (c_X9_inForceToday F a0 1 h5) (fun x9 h8 => (nn o7 (fun a10 => (if hT h8 a10 = 2 then (bI (c_X2_holder F a10 x1 x2 x9 h8) (fun x12 h11 => (some (x12, h11)))) else none))))) else none))) else none)))))))
set_option maxRecDepth 20000 in
set_option maxHeartbeats 4000000 in
theorem t_X9_right (F : Nat) (a0 : Nat) (x1 : Int32) (x2 : Int32) (h0 : z_Hp) : z_Ct zi mi_X9_right [vr (some a0), vi x1, vi x2] h0 (c_X9_right F a0 x1 x2 h0) := by
  refine z_entry (by decide) (Nat.le_of_ble_eq_true rfl) [(0, vr (some a0)), (1, vi x1), (2, vi x2)] rfl ?_
  unfold c_X9_right
  refine z_iload_n (pc := 0) dX9_right_0 rfl 1 rfl (z_callS_I (pc := 1) (avs := [vi x1]) (st := []) rfl (t_X9_isSong F x1 h0) ky_X9_isSong ws_X9_isSong wz_RX9_114 (rm_X9_right_X9_isSong) (Nat.le_of_ble_eq_true rfl) dX9_right_1 (fun x4 h3 => (?_)))
  refine z_if_eq (pc := 4) (tgt := 14) dX9_right_4 (by decide) ?_ ?_
  · refine z_iconst (pc := 14) dX9_right_14 ic_m1 (?_)
    exact z_iret (pc := 15) dX9_right_15 rfl rfl
  · refine z_iload_n (pc := 7) dX9_right_7 rfl 2 rfl (z_callS_I (pc := 8) (avs := [vi x2]) (st := []) rfl (t_X9_isToldYear F x2 h3) ky_X9_isToldYear ws_X9_isToldYear wz_RX9_359 (rm_X9_right_X9_isToldYear) (Nat.le_of_ble_eq_true rfl) dX9_right_8 (fun x6 h5 => (?_)))
    refine z_if_ne (pc := 11) (tgt := 16) dX9_right_11 (by decide) ?_ ?_
    · refine z_aload_n (pc := 16) dX9_right_16 rfl 0 rfl (z_getRl (pc := 17) fl_RX9_68 rfl dX9_right_17 (fun o7 => (z_iload_n (pc := 20) dX9_right_20 rfl 1 rfl (z_iload_n (pc := 21) dX9_right_21 rfl 2 rfl (z_aload_n (pc := 22) dX9_right_22 rfl 0 rfl (z_iconst (pc := 23) dX9_right_23 ic_1 (z_callV_I (pc := 24) (avs := [vi 1]) (st := [vi x2, vi x1, vr o7]) rfl (q := (RX9, TX9, 18)) rfl rfl (t_X9_inForceToday F a0 1 h5) ky_X9_inForceToday wm_X9_inForceToday we_X9_inForceToday wz_RX9_157 (rm_X9_right_X9_inForceToday) (Nat.le_of_ble_eq_true rfl) dX9_right_24 (fun x9 h8 => (?_)))))))))
      refine z_nn (fun a10 ea10 => ?_)
      subst ea10
      refine z_callV_I (pc := 27) (avs := [vi x1, vi x2, vi x9]) (st := []) rfl (q := (RX2, TX2, 5)) rfl rfl (t_X2_holder F a10 x1 x2 x9 h8) ky_X2_holder wm_X2_holder we_X2_holder wz_RX9_365 (rm_X9_right_X2_holder) (Nat.le_of_ble_eq_true rfl) dX9_right_27 (fun x12 h11 => (?_))
      exact z_iret (pc := 30) dX9_right_30 rfl rfl
    · refine z_iconst (pc := 14) dX9_right_14 ic_m1 (?_)
      exact z_iret (pc := 15) dX9_right_15 rfl rfl
theorem dX9_join_0 : decode cX9_join 0 = .ok (.aload_n 0, 1) := by decide +kernel
theorem dX9_join_1 : decode cX9_join 1 = .ok (.iload_n 1, 1) := by decide +kernel
theorem dX9_join_2 : decode cX9_join 2 = .ok (.iload_n 2, 1) := by decide +kernel
theorem dX9_join_3 : decode cX9_join 3 = .ok (.invokevirtual 282, 3) := by decide +kernel
theorem dX9_join_6 : decode cX9_join 6 = .ok (.ifCond .ne 5, 3) := by decide +kernel
theorem dX9_join_9 : decode cX9_join 9 = .ok (.iconst (-1), 1) := by decide +kernel
theorem dX9_join_10 : decode cX9_join 10 = .ok (.ireturn, 1) := by decide +kernel
theorem dX9_join_11 : decode cX9_join 11 = .ok (.aload_n 0, 1) := by decide +kernel
theorem dX9_join_12 : decode cX9_join 12 = .ok (.getfield 40, 3) := by decide +kernel
theorem dX9_join_15 : decode cX9_join 15 = .ok (.getfield 219, 3) := by decide +kernel
theorem dX9_join_18 : decode cX9_join 18 = .ok (.iload_n 1, 1) := by decide +kernel
theorem dX9_join_19 : decode cX9_join 19 = .ok (.aaload, 1) := by decide +kernel
theorem dX9_join_20 : decode cX9_join 20 = .ok (.astore_n 3, 1) := by decide +kernel
theorem dX9_join_21 : decode cX9_join 21 = .ok (.aload_n 0, 1) := by decide +kernel
theorem dX9_join_22 : decode cX9_join 22 = .ok (.getfield 40, 3) := by decide +kernel
theorem dX9_join_25 : decode cX9_join 25 = .ok (.getfield 219, 3) := by decide +kernel
theorem dX9_join_28 : decode cX9_join 28 = .ok (.iload_n 2, 1) := by decide +kernel
theorem dX9_join_29 : decode cX9_join 29 = .ok (.aaload, 1) := by decide +kernel
theorem dX9_join_30 : decode cX9_join 30 = .ok (.astore 4, 2) := by decide +kernel
theorem dX9_join_32 : decode cX9_join 32 = .ok (.aload_n 3, 1) := by decide +kernel
theorem dX9_join_33 : decode cX9_join 33 = .ok (.iconst 2, 1) := by decide +kernel
theorem dX9_join_34 : decode cX9_join 34 = .ok (.invokevirtual 244, 3) := by decide +kernel
theorem dX9_join_37 : decode cX9_join 37 = .ok (.ifCond .eq 12, 3) := by decide +kernel
theorem dX9_join_40 : decode cX9_join 40 = .ok (.aload 4, 2) := by decide +kernel
theorem dX9_join_42 : decode cX9_join 42 = .ok (.iconst 2, 1) := by decide +kernel
theorem dX9_join_43 : decode cX9_join 43 = .ok (.invokevirtual 244, 3) := by decide +kernel
theorem dX9_join_46 : decode cX9_join 46 = .ok (.ifCond .ne 9, 3) := by decide +kernel
theorem dX9_join_49 : decode cX9_join 49 = .ok (.aload_n 0, 1) := by decide +kernel
theorem dX9_join_50 : decode cX9_join 50 = .ok (.iconst 3, 1) := by decide +kernel
theorem dX9_join_51 : decode cX9_join 51 = .ok (.invokevirtual 90, 3) := by decide +kernel
theorem dX9_join_54 : decode cX9_join 54 = .ok (.ireturn, 1) := by decide +kernel
theorem dX9_join_55 : decode cX9_join 55 = .ok (.aload_n 3, 1) := by decide +kernel
theorem dX9_join_56 : decode cX9_join 56 = .ok (.getfield 260, 3) := by decide +kernel
theorem dX9_join_59 : decode cX9_join 59 = .ok (.aload 4, 2) := by decide +kernel
theorem dX9_join_61 : decode cX9_join 61 = .ok (.getfield 260, 3) := by decide +kernel
theorem dX9_join_64 : decode cX9_join 64 = .ok (.if_icmp .ne 17, 3) := by decide +kernel
theorem dX9_join_67 : decode cX9_join 67 = .ok (.aload_n 3, 1) := by decide +kernel
theorem dX9_join_68 : decode cX9_join 68 = .ok (.getfield 250, 3) := by decide +kernel
theorem dX9_join_71 : decode cX9_join 71 = .ok (.arraylength, 1) := by decide +kernel
theorem dX9_join_72 : decode cX9_join 72 = .ok (.aload 4, 2) := by decide +kernel
theorem dX9_join_74 : decode cX9_join 74 = .ok (.getfield 250, 3) := by decide +kernel
theorem dX9_join_77 : decode cX9_join 77 = .ok (.arraylength, 1) := by decide +kernel
theorem dX9_join_78 : decode cX9_join 78 = .ok (.if_icmp .eq 5, 3) := by decide +kernel
theorem dX9_join_81 : decode cX9_join 81 = .ok (.iconst 0, 1) := by decide +kernel
theorem dX9_join_82 : decode cX9_join 82 = .ok (.ireturn, 1) := by decide +kernel
theorem dX9_join_83 : decode cX9_join 83 = .ok (.aload_n 3, 1) := by decide +kernel
theorem dX9_join_84 : decode cX9_join 84 = .ok (.aload 4, 2) := by decide +kernel
theorem dX9_join_86 : decode cX9_join 86 = .ok (.invokevirtual 368, 3) := by decide +kernel
theorem dX9_join_89 : decode cX9_join 89 = .ok (.lstore 5, 2) := by decide +kernel
theorem dX9_join_91 : decode cX9_join 91 = .ok (.lload 5, 2) := by decide +kernel
theorem dX9_join_93 : decode cX9_join 93 = .ok (.lconst 0, 1) := by decide +kernel
theorem dX9_join_94 : decode cX9_join 94 = .ok (.lcmp, 1) := by decide +kernel
theorem dX9_join_95 : decode cX9_join 95 = .ok (.ifCond .ne 17, 3) := by decide +kernel
theorem dX9_join_98 : decode cX9_join 98 = .ok (.aload_n 3, 1) := by decide +kernel
theorem dX9_join_99 : decode cX9_join 99 = .ok (.getfield 229, 3) := by decide +kernel
theorem dX9_join_102 : decode cX9_join 102 = .ok (.aload 4, 2) := by decide +kernel
theorem dX9_join_104 : decode cX9_join 104 = .ok (.getfield 229, 3) := by decide +kernel
theorem dX9_join_107 : decode cX9_join 107 = .ok (.if_icmp .ne 5, 3) := by decide +kernel
theorem dX9_join_110 : decode cX9_join 110 = .ok (.iconst 2, 1) := by decide +kernel
theorem dX9_join_111 : decode cX9_join 111 = .ok (.ireturn, 1) := by decide +kernel
theorem dX9_join_112 : decode cX9_join 112 = .ok (.lload 5, 2) := by decide +kernel
theorem dX9_join_114 : decode cX9_join 114 = .ok (.aload_n 0, 1) := by decide +kernel
theorem dX9_join_115 : decode cX9_join 115 = .ok (.iconst 4, 1) := by decide +kernel
theorem dX9_join_116 : decode cX9_join 116 = .ok (.invokevirtual 157, 3) := by decide +kernel
theorem dX9_join_119 : decode cX9_join 119 = .ok (.i2l, 1) := by decide +kernel
theorem dX9_join_120 : decode cX9_join 120 = .ok (.lcmp, 1) := by decide +kernel
theorem dX9_join_121 : decode cX9_join 121 = .ok (.ifCond .gt 7, 3) := by decide +kernel
theorem dX9_join_124 : decode cX9_join 124 = .ok (.iconst 1, 1) := by decide +kernel
theorem dX9_join_125 : decode cX9_join 125 = .ok (.goto 4, 3) := by decide +kernel
theorem dX9_join_128 : decode cX9_join 128 = .ok (.iconst 0, 1) := by decide +kernel
theorem dX9_join_129 : decode cX9_join 129 = .ok (.ireturn, 1) := by decide +kernel
def c_X9_join (F : Nat) (a0 : Nat) (x1 : Int32) (x2 : Int32) (h0 : z_Hp) : Option (Int32 × z_Hp) := (if hT h0 a0 = 9 then (bI (c_X9_areTwoSheets F a0 x1 x2 h0) (fun x4 h3 => (if x4 = 0 then (some ((-1), h3)) else (if hT h3 a0 = 9 then (lt_ (hR h3 a0 6) (fun o5 => (nn o5 (fun a6 => (if hT h3 a6 = 6 then (lt_ (hR h3 a6 0) (fun o7 => (nn o7 (fun a8 => (if okA h3 a8 26 x1 = true then (lt_ (hR h3 a8 (ix x1)) (fun o9 => (if hT h3 a0 = 9 then (lt_ (hR h3 a0 6) (fun o10 => (nn o10 (fun a11 => (if hT h3 a11 = 6 then (lt_ (hR h3 a11 0) (fun o12 => (nn o12 (fun a13 => (if okA h3 a13 26 x2 = true then (lt_ (hR h3 a13 (ix x2)) (fun o14 => (nn o9 (fun a15 => (if hT h3 a15 = 5 then (bI (c_X5_isOf F a15 2 h3) (fun x17 h16 => (lt_ (fun (h19 : z_Hp) => (if hT h19 a0 = 9 then (bI (c_X9_found F a0 3 h19) (fun x21 h20 => (some (x21, h20)))) else none)) (fun (j49_18 : z_Hp → Option (Int32 × z_Hp)) => (if x17 = 0 then (j49_18 h16) else (nn o14 (fun a22 => (if hT h16 a22 = 5 then (bI (c_X5_isOf F a22 2 h16) (fun x24 h23 => (if x24 = 0 then (j49_18 h23) else (if hT h23 a15 = 5 then (if hT h23 a22 = 5 then (if (hI h23 a15 2) = (hI h23 a22 2) then (if hT h23 a15 = 5 then (lt_ (hR h23 a15 4) (fun o25 => (nn o25 (fun a26 => (if okL h23 a26 = true then (if hT h23 a22 = 5 then (lt_ (hR h23 a22 4) (fun o27 => (nn o27 (fun a28 => (if okL h23 a28 = true then (if (nI (hN h23 a26)) = (nI (hN h23 a28)) then (if hT h23 a15 = 5 then (bL (c_X5_cutOff F a15 (some a22) h23) (fun y30 h29 => (lt_ (fun (h32 : z_Hp) => (if hT h32 a0 = 9 then (bI (c_X9_inForceToday F a0 4 h32) (fun x34 h33 => (if 0 < (lg_cmp y30 ((x34 : Int32).toInt64)) then (some (0, h33)) else (some (1, h33))))) else none)) (fun (j112_31 : z_Hp → Option (Int32 × z_Hp)) => (if (lg_cmp y30 0) = 0 then (if hT h29 a15 = 5 then (if hT h29 a22 = 5 then (if (hI h29 a15 7) = (hI h29 a22 7) then (some (2, h29)) else (j112_31 h29)) else none) else none) else (j112_31 h29)))))) else none) else (some (0, h23))) else none))))) else none) else none))))) else none) else (some (0, h23))) else none) else none)))) else none)))))))) else none))))) else none))))) else none))))) else none))) else none))))) else none))))) else none)))) else none)
set_option maxRecDepth 20000 in
set_option maxHeartbeats 4000000 in
theorem t_X9_join (F : Nat) (a0 : Nat) (x1 : Int32) (x2 : Int32) (h0 : z_Hp) : z_Ct zi mi_X9_join [vr (some a0), vi x1, vi x2] h0 (c_X9_join F a0 x1 x2 h0) := by
  refine z_entry (by decide) (Nat.le_of_ble_eq_true rfl) [(0, vr (some a0)), (1, vi x1), (2, vi x2)] rfl ?_
  unfold c_X9_join
  refine z_aload_n (pc := 0) dX9_join_0 rfl 0 rfl (z_iload_n (pc := 1) dX9_join_1 rfl 1 rfl (z_iload_n (pc := 2) dX9_join_2 rfl 2 rfl (z_callV_I (pc := 3) (avs := [vi x1, vi x2]) (st := []) rfl (q := (RX9, TX9, 18)) rfl rfl (t_X9_areTwoSheets F a0 x1 x2 h0) ky_X9_areTwoSheets wm_X9_areTwoSheets we_X9_areTwoSheets wz_RX9_282 (rm_X9_join_X9_areTwoSheets) (Nat.le_of_ble_eq_true rfl) dX9_join_3 (fun x4 h3 => (?_)))))
  refine z_if_ne (pc := 6) (tgt := 11) dX9_join_6 (by decide) ?_ ?_
  · refine z_aload_n (pc := 11) dX9_join_11 rfl 0 rfl (z_getRl (pc := 12) fl_RX9_40 rfl dX9_join_12 (fun o5 => (?_)))
    refine z_nn (fun a6 ea6 => ?_)
    subst ea6
    refine z_getRl (pc := 15) fl_RX9_219 rfl dX9_join_15 (fun o7 => (z_iload_n (pc := 18) dX9_join_18 rfl 1 rfl (?_)))
    refine z_nn (fun a8 ea8 => ?_)
    subst ea8
    refine z_aaloadl (pc := 19) 26 (by decide) dX9_join_19 (fun o9 => (z_astore_n (pc := 20) (L' := [(0, vr (some a0)), (1, vi x1), (2, vi x2), (3, vr o9)]) dX9_join_20 rfl (Nat.le_of_ble_eq_true rfl) rfl (z_aload_n (pc := 21) dX9_join_21 rfl 0 rfl (z_getRl (pc := 22) fl_RX9_40 rfl dX9_join_22 (fun o10 => (?_))))))
    refine z_nn (fun a11 ea11 => ?_)
    subst ea11
    refine z_getRl (pc := 25) fl_RX9_219 rfl dX9_join_25 (fun o12 => (z_iload_n (pc := 28) dX9_join_28 rfl 2 rfl (?_)))
    refine z_nn (fun a13 ea13 => ?_)
    subst ea13
    refine z_aaloadl (pc := 29) 26 (by decide) dX9_join_29 (fun o14 => (z_astore (pc := 30) (L' := [(0, vr (some a0)), (1, vi x1), (2, vi x2), (3, vr o9), (4, vr o14)]) dX9_join_30 (Nat.le_of_ble_eq_true rfl) rfl (z_aload_n (pc := 32) dX9_join_32 rfl 3 rfl (z_iconst (pc := 33) dX9_join_33 ic_2 (?_)))))
    refine z_nn (fun a15 ea15 => ?_)
    subst ea15
    refine z_callV_I (pc := 34) (avs := [vi 2]) (st := []) rfl (q := (RX5, TX5, 11)) rfl rfl (t_X5_isOf F a15 2 h3) ky_X5_isOf wm_X5_isOf we_X5_isOf wz_RX9_244 (rm_X9_join_X5_isOf) (Nat.le_of_ble_eq_true rfl) dX9_join_34 (fun x17 h16 => (?_))
    refine z_jn (P := fun (j : z_Hp → Option (Int32 × z_Hp)) => ∀ (h19 : z_Hp), z_G zi mi_X9_join 49 [(0, vr (some a0))] [] h19 (j h19)) (fun h19 => ?_) (fun j49_18 qj49_18 => ?_)
    · refine z_aload_n (pc := 49) dX9_join_49 rfl 0 rfl (z_iconst (pc := 50) dX9_join_50 ic_3 (z_callV_I (pc := 51) (avs := [vi 3]) (st := []) rfl (q := (RX9, TX9, 18)) rfl rfl (t_X9_found F a0 3 h19) ky_X9_found wm_X9_found we_X9_found wz_RX9_90 (rm_X9_join_X9_found) (Nat.le_of_ble_eq_true rfl) dX9_join_51 (fun x21 h20 => (?_))))
      exact z_iret (pc := 54) dX9_join_54 rfl rfl
    refine z_if_eq (pc := 37) (tgt := 49) dX9_join_37 (by decide) ?_ ?_
    · exact z_sub [0] rfl (qj49_18 h16)
    · refine z_aload (pc := 40) dX9_join_40 4 rfl (z_iconst (pc := 42) dX9_join_42 ic_2 (?_))
      refine z_nn (fun a22 ea22 => ?_)
      subst ea22
      refine z_callV_I (pc := 43) (avs := [vi 2]) (st := []) rfl (q := (RX5, TX5, 11)) rfl rfl (t_X5_isOf F a22 2 h16) ky_X5_isOf wm_X5_isOf we_X5_isOf wz_RX9_244 (rm_X9_join_X5_isOf) (Nat.le_of_ble_eq_true rfl) dX9_join_43 (fun x24 h23 => (?_))
      refine z_if_ne (pc := 46) (tgt := 55) dX9_join_46 (by decide) ?_ ?_
      · refine z_aload_n (pc := 55) dX9_join_55 rfl 3 rfl (z_getI (pc := 56) fl_RX9_260 rfl dX9_join_56 (z_aload (pc := 59) dX9_join_59 4 rfl (z_getI (pc := 61) fl_RX9_260 rfl dX9_join_61 (?_))))
        refine z_icmp_ne (pc := 64) (tgt := 81) dX9_join_64 (by decide) ?_ ?_
        · refine z_iconst (pc := 81) dX9_join_81 ic_0 (?_)
          exact z_iret (pc := 82) dX9_join_82 rfl rfl
        · refine z_aload_n (pc := 67) dX9_join_67 rfl 3 rfl (z_getRl (pc := 68) fl_RX9_250 rfl dX9_join_68 (fun o25 => (?_)))
          refine z_nn (fun a26 ea26 => ?_)
          subst ea26
          refine z_alen (pc := 71) dX9_join_71 (z_aload (pc := 72) dX9_join_72 4 rfl (z_getRl (pc := 74) fl_RX9_250 rfl dX9_join_74 (fun o27 => (?_))))
          refine z_nn (fun a28 ea28 => ?_)
          subst ea28
          refine z_alen (pc := 77) dX9_join_77 (?_)
          refine z_icmp_eq (pc := 78) (tgt := 83) dX9_join_78 (by decide) ?_ ?_
          · refine z_aload_n (pc := 83) dX9_join_83 rfl 3 rfl (z_aload (pc := 84) dX9_join_84 4 rfl (z_callV_L (pc := 86) (avs := [vr (some a22)]) (st := []) rfl (q := (RX5, TX5, 11)) rfl rfl (t_X5_cutOff F a15 (some a22) h23) ky_X5_cutOff wm_X5_cutOff we_X5_cutOff wz_RX9_368 (rm_X9_join_X5_cutOff) (Nat.le_of_ble_eq_true rfl) dX9_join_86 (fun y30 h29 => (?_))))
            refine z_lstore (pc := 89) (L' := [(0, vr (some a0)), (1, vi x1), (2, vi x2), (3, vr (some a15)), (4, vr (some a22)), (5, vl y30)]) dX9_join_89 (Nat.le_of_ble_eq_true rfl) rfl (z_lload (pc := 91) dX9_join_91 5 rfl (z_lconst (pc := 93) dX9_join_93 lc_0 (z_lcmp (pc := 94) dX9_join_94 (?_))))
            refine z_jn (P := fun (j : z_Hp → Option (Int32 × z_Hp)) => ∀ (h32 : z_Hp), z_G zi mi_X9_join 112 [(0, vr (some a0)), (5, vl y30)] [] h32 (j h32)) (fun h32 => ?_) (fun j112_31 qj112_31 => ?_)
            · refine z_lload (pc := 112) dX9_join_112 1 rfl (z_aload_n (pc := 114) dX9_join_114 rfl 0 rfl (z_iconst (pc := 115) dX9_join_115 ic_4 (z_callV_I (pc := 116) (avs := [vi 4]) (st := [vl y30]) rfl (q := (RX9, TX9, 18)) rfl rfl (t_X9_inForceToday F a0 4 h32) ky_X9_inForceToday wm_X9_inForceToday we_X9_inForceToday wz_RX9_157 (rm_X9_join_X9_inForceToday) (Nat.le_of_ble_eq_true rfl) dX9_join_116 (fun x34 h33 => (?_)))))
              refine z_i2l (pc := 119) dX9_join_119 (z_lcmp (pc := 120) dX9_join_120 (?_))
              refine z_if_gt (pc := 121) (tgt := 128) dX9_join_121 (by decide) ?_ ?_
              · refine z_iconst (pc := 128) dX9_join_128 ic_0 (?_)
                exact z_iret (pc := 129) dX9_join_129 rfl rfl
              · refine z_iconst (pc := 124) dX9_join_124 ic_1 (z_goto (pc := 125) (tgt := 129) dX9_join_125 (by decide) (?_))
                exact z_iret (pc := 129) dX9_join_129 rfl rfl
            refine z_if_ne (pc := 95) (tgt := 112) dX9_join_95 (by decide) ?_ ?_
            · exact z_sub [0, 5] rfl (qj112_31 h29)
            · refine z_aload_n (pc := 98) dX9_join_98 rfl 3 rfl (z_getI (pc := 99) fl_RX9_229 rfl dX9_join_99 (z_aload (pc := 102) dX9_join_102 4 rfl (z_getI (pc := 104) fl_RX9_229 rfl dX9_join_104 (?_))))
              refine z_icmp_ne (pc := 107) (tgt := 112) dX9_join_107 (by decide) ?_ ?_
              · exact z_sub [0, 5] rfl (qj112_31 h29)
              · refine z_iconst (pc := 110) dX9_join_110 ic_2 (?_)
                exact z_iret (pc := 111) dX9_join_111 rfl rfl
          · refine z_iconst (pc := 81) dX9_join_81 ic_0 (?_)
            exact z_iret (pc := 82) dX9_join_82 rfl rfl
      · exact z_sub [0] rfl (qj49_18 h23)
  · refine z_iconst (pc := 9) dX9_join_9 ic_m1 (?_)
    exact z_iret (pc := 10) dX9_join_10 rfl rfl
theorem dX9_isSeller_0 : decode cX9_isSeller 0 = .ok (.iload_n 0, 1) := by decide +kernel
theorem dX9_isSeller_1 : decode cX9_isSeller 1 = .ok (.ifCond .lt 12, 3) := by decide +kernel
theorem dX9_isSeller_4 : decode cX9_isSeller 4 = .ok (.iload_n 0, 1) := by decide +kernel
theorem dX9_isSeller_5 : decode cX9_isSeller 5 = .ok (.iconst 4, 1) := by decide +kernel
theorem dX9_isSeller_6 : decode cX9_isSeller 6 = .ok (.if_icmp .ge 7, 3) := by decide +kernel
theorem dX9_isSeller_9 : decode cX9_isSeller 9 = .ok (.iconst 1, 1) := by decide +kernel
theorem dX9_isSeller_10 : decode cX9_isSeller 10 = .ok (.goto 4, 3) := by decide +kernel
theorem dX9_isSeller_13 : decode cX9_isSeller 13 = .ok (.iconst 0, 1) := by decide +kernel
theorem dX9_isSeller_14 : decode cX9_isSeller 14 = .ok (.ireturn, 1) := by decide +kernel
def c_X9_isSeller (F : Nat) (x1 : Int32) (h0 : z_Hp) : Option (Int32 × z_Hp) := (if x1 < 0 then (some (0, h0)) else (if 4 ≤ x1 then (some (0, h0)) else (some (1, h0))))
set_option maxRecDepth 20000 in
set_option maxHeartbeats 4000000 in
theorem t_X9_isSeller (F : Nat) (x1 : Int32) (h0 : z_Hp) : z_Ct zi mi_X9_isSeller [vi x1] h0 (c_X9_isSeller F x1 h0) := by
  refine z_entry (by decide) (Nat.le_of_ble_eq_true rfl) [(0, vi x1)] rfl ?_
  unfold c_X9_isSeller
  refine z_iload_n (pc := 0) dX9_isSeller_0 rfl 0 rfl (?_)
  refine z_if_lt (pc := 1) (tgt := 13) dX9_isSeller_1 (by decide) ?_ ?_
  · refine z_iconst (pc := 13) dX9_isSeller_13 ic_0 (?_)
    exact z_iret (pc := 14) dX9_isSeller_14 rfl rfl
  · refine z_iload_n (pc := 4) dX9_isSeller_4 rfl 0 rfl (z_iconst (pc := 5) dX9_isSeller_5 ic_4 (?_))
    refine z_icmp_ge (pc := 6) (tgt := 13) dX9_isSeller_6 (by decide) ?_ ?_
    · refine z_iconst (pc := 13) dX9_isSeller_13 ic_0 (?_)
      exact z_iret (pc := 14) dX9_isSeller_14 rfl rfl
    · refine z_iconst (pc := 9) dX9_isSeller_9 ic_1 (z_goto (pc := 10) (tgt := 14) dX9_isSeller_10 (by decide) (?_))
      exact z_iret (pc := 14) dX9_isSeller_14 rfl rfl
theorem dX9_walk_0 : decode cX9_walk 0 = .ok (.iload_n 1, 1) := by decide +kernel
theorem dX9_walk_1 : decode cX9_walk 1 = .ok (.invokestatic 372, 3) := by decide +kernel
theorem dX9_walk_4 : decode cX9_walk 4 = .ok (.ifCond .eq 10, 3) := by decide +kernel
theorem dX9_walk_7 : decode cX9_walk 7 = .ok (.iload_n 2, 1) := by decide +kernel
theorem dX9_walk_8 : decode cX9_walk 8 = .ok (.invokestatic 86, 3) := by decide +kernel
theorem dX9_walk_11 : decode cX9_walk 11 = .ok (.ifCond .ne 5, 3) := by decide +kernel
theorem dX9_walk_14 : decode cX9_walk 14 = .ok (.iconst (-1), 1) := by decide +kernel
theorem dX9_walk_15 : decode cX9_walk 15 = .ok (.ireturn, 1) := by decide +kernel
theorem dX9_walk_16 : decode cX9_walk 16 = .ok (.aload_n 0, 1) := by decide +kernel
theorem dX9_walk_17 : decode cX9_walk 17 = .ok (.getfield 11, 3) := by decide +kernel
theorem dX9_walk_20 : decode cX9_walk 20 = .ok (.iload_n 2, 1) := by decide +kernel
theorem dX9_walk_21 : decode cX9_walk 21 = .ok (.aaload, 1) := by decide +kernel
theorem dX9_walk_22 : decode cX9_walk 22 = .ok (.astore_n 3, 1) := by decide +kernel
theorem dX9_walk_23 : decode cX9_walk 23 = .ok (.aload_n 3, 1) := by decide +kernel
theorem dX9_walk_24 : decode cX9_walk 24 = .ok (.ifnonnull 9, 3) := by decide +kernel
theorem dX9_walk_27 : decode cX9_walk 27 = .ok (.aload_n 0, 1) := by decide +kernel
theorem dX9_walk_28 : decode cX9_walk 28 = .ok (.iconst 1, 1) := by decide +kernel
theorem dX9_walk_29 : decode cX9_walk 29 = .ok (.invokevirtual 90, 3) := by decide +kernel
theorem dX9_walk_32 : decode cX9_walk 32 = .ok (.ireturn, 1) := by decide +kernel
theorem dX9_walk_33 : decode cX9_walk 33 = .ok (.aload_n 3, 1) := by decide +kernel
theorem dX9_walk_34 : decode cX9_walk 34 = .ok (.arraylength, 1) := by decide +kernel
theorem dX9_walk_35 : decode cX9_walk 35 = .ok (.ifCond .ne 9, 3) := by decide +kernel
theorem dX9_walk_38 : decode cX9_walk 38 = .ok (.aload_n 0, 1) := by decide +kernel
theorem dX9_walk_39 : decode cX9_walk 39 = .ok (.iconst 5, 1) := by decide +kernel
theorem dX9_walk_40 : decode cX9_walk 40 = .ok (.invokevirtual 90, 3) := by decide +kernel
theorem dX9_walk_43 : decode cX9_walk 43 = .ok (.ireturn, 1) := by decide +kernel
theorem dX9_walk_44 : decode cX9_walk 44 = .ok (.aload_n 3, 1) := by decide +kernel
theorem dX9_walk_45 : decode cX9_walk 45 = .ok (.bipush 9, 2) := by decide +kernel
theorem dX9_walk_47 : decode cX9_walk 47 = .ok (.invokestatic 147, 3) := by decide +kernel
theorem dX9_walk_50 : decode cX9_walk 50 = .ok (.ifCond .ne 9, 3) := by decide +kernel
theorem dX9_walk_53 : decode cX9_walk 53 = .ok (.aload_n 0, 1) := by decide +kernel
theorem dX9_walk_54 : decode cX9_walk 54 = .ok (.iconst 3, 1) := by decide +kernel
theorem dX9_walk_55 : decode cX9_walk 55 = .ok (.invokevirtual 90, 3) := by decide +kernel
theorem dX9_walk_58 : decode cX9_walk 58 = .ok (.ireturn, 1) := by decide +kernel
theorem dX9_walk_59 : decode cX9_walk 59 = .ok (.aload_n 0, 1) := by decide +kernel
theorem dX9_walk_60 : decode cX9_walk 60 = .ok (.getfield 75, 3) := by decide +kernel
theorem dX9_walk_63 : decode cX9_walk 63 = .ok (.getfield 375, 3) := by decide +kernel
theorem dX9_walk_66 : decode cX9_walk 66 = .ok (.iload_n 1, 1) := by decide +kernel
theorem dX9_walk_67 : decode cX9_walk 67 = .ok (.aload_n 3, 1) := by decide +kernel
theorem dX9_walk_68 : decode cX9_walk 68 = .ok (.aload_n 3, 1) := by decide +kernel
theorem dX9_walk_69 : decode cX9_walk 69 = .ok (.arraylength, 1) := by decide +kernel
theorem dX9_walk_70 : decode cX9_walk 70 = .ok (.invokestatic 151, 3) := by decide +kernel
theorem dX9_walk_73 : decode cX9_walk 73 = .ok (.aastore, 1) := by decide +kernel
theorem dX9_walk_74 : decode cX9_walk 74 = .ok (.aload_n 3, 1) := by decide +kernel
theorem dX9_walk_75 : decode cX9_walk 75 = .ok (.arraylength, 1) := by decide +kernel
theorem dX9_walk_76 : decode cX9_walk 76 = .ok (.ireturn, 1) := by decide +kernel
def c_X9_walk (F : Nat) (a0 : Nat) (x1 : Int32) (x2 : Int32) (h0 : z_Hp) : Option (Int32 × z_Hp) := (bI (c_X9_isSeller F x1 h0) (fun x4 h3 => (if x4 = 0 then (some ((-1), h3)) else (bI (c_X9_isRow F x2 h3) (fun x6 h5 => (if x6 = 0 then (some ((-1), h5)) else (if hT h5 a0 = 9 then (lt_ (hR h5 a0 0) (fun o7 => (nn o7 (fun a8 => (if okA h5 a8 23 x2 = true then (lt_ (hR h5 a8 (ix x2)) (fun o9 => (nl o9 (if hT h5 a0 = 9 then (bI (c_X9_found F a0 1 h5) (fun x12 h11 => (some (x12, h11)))) else none) (fun a10 => (if okL h5 a10 = true then (if (nI (hN h5 a10)) = 0 then (if hT h5 a0 = 9 then (bI (c_X9_found F a0 5 h5) (fun x25 h24 => (some (x25, h24)))) else none) else (bI (c_X9_allWithin F (some a10) 9 h5) (fun x14 h13 => (if x14 = 0 then (if hT h13 a0 = 9 then (bI (c_X9_found F a0 3 h13) (fun x23 h22 => (some (x23, h22)))) else none) else (if hT h13 a0 = 9 then (lt_ (hR h13 a0 11) (fun o15 => (nn o15 (fun a16 => (if hT h13 a16 = 4 then (lt_ (hR h13 a16 0) (fun o17 => (if okL h13 a10 = true then (bR (c_J7_copyOf_59c91 F (some a10) (nI (hN h13 a10)) h13) (fun o19 h18 => (nn o17 (fun a20 => (if okA h18 a20 23 x1 = true ∧ okS h18 23 o19 = true then (lt_ (sR h18 a20 (ix x1) o19) (fun h21 => (if okL h21 a10 = true then (some (nI (hN h21 a10), h21)) else none))) else none))))) else none))) else none))))) else none))))) else none))))) else none))))) else none)))))))
set_option maxRecDepth 20000 in
set_option maxHeartbeats 4000000 in
theorem t_X9_walk (F : Nat) (a0 : Nat) (x1 : Int32) (x2 : Int32) (h0 : z_Hp) : z_Ct zi mi_X9_walk [vr (some a0), vi x1, vi x2] h0 (c_X9_walk F a0 x1 x2 h0) := by
  refine z_entry (by decide) (Nat.le_of_ble_eq_true rfl) [(0, vr (some a0)), (1, vi x1), (2, vi x2)] rfl ?_
  unfold c_X9_walk
  refine z_iload_n (pc := 0) dX9_walk_0 rfl 1 rfl (z_callS_I (pc := 1) (avs := [vi x1]) (st := []) rfl (t_X9_isSeller F x1 h0) ky_X9_isSeller ws_X9_isSeller wz_RX9_372 (rm_X9_walk_X9_isSeller) (Nat.le_of_ble_eq_true rfl) dX9_walk_1 (fun x4 h3 => (?_)))
  refine z_if_eq (pc := 4) (tgt := 14) dX9_walk_4 (by decide) ?_ ?_
  · refine z_iconst (pc := 14) dX9_walk_14 ic_m1 (?_)
    exact z_iret (pc := 15) dX9_walk_15 rfl rfl
  · refine z_iload_n (pc := 7) dX9_walk_7 rfl 2 rfl (z_callS_I (pc := 8) (avs := [vi x2]) (st := []) rfl (t_X9_isRow F x2 h3) ky_X9_isRow ws_X9_isRow wz_RX9_86 (rm_X9_walk_X9_isRow) (Nat.le_of_ble_eq_true rfl) dX9_walk_8 (fun x6 h5 => (?_)))
    refine z_if_ne (pc := 11) (tgt := 16) dX9_walk_11 (by decide) ?_ ?_
    · refine z_aload_n (pc := 16) dX9_walk_16 rfl 0 rfl (z_getRl (pc := 17) fl_RX9_11 rfl dX9_walk_17 (fun o7 => (z_iload_n (pc := 20) dX9_walk_20 rfl 2 rfl (?_))))
      refine z_nn (fun a8 ea8 => ?_)
      subst ea8
      refine z_aaloadl (pc := 21) 23 (by decide) dX9_walk_21 (fun o9 => (z_astore_n (pc := 22) (L' := [(0, vr (some a0)), (1, vi x1), (2, vi x2), (3, vr o9)]) dX9_walk_22 rfl (Nat.le_of_ble_eq_true rfl) rfl (z_aload_n (pc := 23) dX9_walk_23 rfl 3 rfl (?_))))
      refine z_ifnonnull (pc := 24) (tgt := 33) dX9_walk_24 (by decide) (fun ea10 => ?_) (fun a10 ea10 => ?_)
      · subst ea10
        refine z_aload_n (pc := 27) dX9_walk_27 rfl 0 rfl (z_iconst (pc := 28) dX9_walk_28 ic_1 (z_callV_I (pc := 29) (avs := [vi 1]) (st := []) rfl (q := (RX9, TX9, 18)) rfl rfl (t_X9_found F a0 1 h5) ky_X9_found wm_X9_found we_X9_found wz_RX9_90 (rm_X9_walk_X9_found) (Nat.le_of_ble_eq_true rfl) dX9_walk_29 (fun x12 h11 => (?_))))
        exact z_iret (pc := 32) dX9_walk_32 rfl rfl
      · subst ea10
        refine z_aload_n (pc := 33) dX9_walk_33 rfl 3 rfl (z_alen (pc := 34) dX9_walk_34 (?_))
        refine z_if_ne (pc := 35) (tgt := 44) dX9_walk_35 (by decide) ?_ ?_
        · refine z_aload_n (pc := 44) dX9_walk_44 rfl 3 rfl (z_bipush (pc := 45) dX9_walk_45 bp_9 (z_callS_I (pc := 47) (avs := [vr (some a10), vi 9]) (st := []) rfl (t_X9_allWithin F (some a10) 9 h5) ky_X9_allWithin ws_X9_allWithin wz_RX9_147 (rm_X9_walk_X9_allWithin) (Nat.le_of_ble_eq_true rfl) dX9_walk_47 (fun x14 h13 => (?_))))
          refine z_if_ne (pc := 50) (tgt := 59) dX9_walk_50 (by decide) ?_ ?_
          · refine z_aload_n (pc := 59) dX9_walk_59 rfl 0 rfl (z_getRl (pc := 60) fl_RX9_75 rfl dX9_walk_60 (fun o15 => (?_)))
            refine z_nn (fun a16 ea16 => ?_)
            subst ea16
            refine z_getRl (pc := 63) fl_RX9_375 rfl dX9_walk_63 (fun o17 => (z_iload_n (pc := 66) dX9_walk_66 rfl 1 rfl (z_aload_n (pc := 67) dX9_walk_67 rfl 3 rfl (z_aload_n (pc := 68) dX9_walk_68 rfl 3 rfl (z_alen (pc := 69) dX9_walk_69 (z_callS_R (pc := 70) (avs := [vr (some a10), vi (nI (hN h13 a10))]) (st := [vi x1, vr o17]) rfl (t_J7_copyOf_59c91 F (some a10) (nI (hN h13 a10)) h13) ky_J7_copyOf_59c91 ws_J7_copyOf_59c91 wz_RX9_151 (rm_X9_walk_J7_copyOf_59c91) (Nat.le_of_ble_eq_true rfl) dX9_walk_70 (fun o19 h18 => (?_))))))))
            refine z_nn (fun a20 ea20 => ?_)
            subst ea20
            refine z_aastorel (pc := 73) 23 (by decide) dX9_walk_73 (fun h21 => (z_aload_n (pc := 74) dX9_walk_74 rfl 3 rfl (z_alen (pc := 75) dX9_walk_75 (?_))))
            exact z_iret (pc := 76) dX9_walk_76 rfl rfl
          · refine z_aload_n (pc := 53) dX9_walk_53 rfl 0 rfl (z_iconst (pc := 54) dX9_walk_54 ic_3 (z_callV_I (pc := 55) (avs := [vi 3]) (st := []) rfl (q := (RX9, TX9, 18)) rfl rfl (t_X9_found F a0 3 h13) ky_X9_found wm_X9_found we_X9_found wz_RX9_90 (rm_X9_walk_X9_found) (Nat.le_of_ble_eq_true rfl) dX9_walk_55 (fun x23 h22 => (?_))))
            exact z_iret (pc := 58) dX9_walk_58 rfl rfl
        · refine z_aload_n (pc := 38) dX9_walk_38 rfl 0 rfl (z_iconst (pc := 39) dX9_walk_39 ic_5 (z_callV_I (pc := 40) (avs := [vi 5]) (st := []) rfl (q := (RX9, TX9, 18)) rfl rfl (t_X9_found F a0 5 h5) ky_X9_found wm_X9_found we_X9_found wz_RX9_90 (rm_X9_walk_X9_found) (Nat.le_of_ble_eq_true rfl) dX9_walk_40 (fun x25 h24 => (?_))))
          exact z_iret (pc := 43) dX9_walk_43 rfl rfl
    · refine z_iconst (pc := 14) dX9_walk_14 ic_m1 (?_)
      exact z_iret (pc := 15) dX9_walk_15 rfl rfl
theorem dX9_isPlace_0 : decode cX9_isPlace 0 = .ok (.iload_n 0, 1) := by decide +kernel
theorem dX9_isPlace_1 : decode cX9_isPlace 1 = .ok (.ifCond .lt 13, 3) := by decide +kernel
theorem dX9_isPlace_4 : decode cX9_isPlace 4 = .ok (.iload_n 0, 1) := by decide +kernel
theorem dX9_isPlace_5 : decode cX9_isPlace 5 = .ok (.bipush 10, 2) := by decide +kernel
theorem dX9_isPlace_7 : decode cX9_isPlace 7 = .ok (.if_icmp .ge 7, 3) := by decide +kernel
theorem dX9_isPlace_10 : decode cX9_isPlace 10 = .ok (.iconst 1, 1) := by decide +kernel
theorem dX9_isPlace_11 : decode cX9_isPlace 11 = .ok (.goto 4, 3) := by decide +kernel
theorem dX9_isPlace_14 : decode cX9_isPlace 14 = .ok (.iconst 0, 1) := by decide +kernel
theorem dX9_isPlace_15 : decode cX9_isPlace 15 = .ok (.ireturn, 1) := by decide +kernel
def c_X9_isPlace (F : Nat) (x1 : Int32) (h0 : z_Hp) : Option (Int32 × z_Hp) := (if x1 < 0 then (some (0, h0)) else (if 10 ≤ x1 then (some (0, h0)) else (some (1, h0))))
set_option maxRecDepth 20000 in
set_option maxHeartbeats 4000000 in
theorem t_X9_isPlace (F : Nat) (x1 : Int32) (h0 : z_Hp) : z_Ct zi mi_X9_isPlace [vi x1] h0 (c_X9_isPlace F x1 h0) := by
  refine z_entry (by decide) (Nat.le_of_ble_eq_true rfl) [(0, vi x1)] rfl ?_
  unfold c_X9_isPlace
  refine z_iload_n (pc := 0) dX9_isPlace_0 rfl 0 rfl (?_)
  refine z_if_lt (pc := 1) (tgt := 14) dX9_isPlace_1 (by decide) ?_ ?_
  · refine z_iconst (pc := 14) dX9_isPlace_14 ic_0 (?_)
    exact z_iret (pc := 15) dX9_isPlace_15 rfl rfl
  · refine z_iload_n (pc := 4) dX9_isPlace_4 rfl 0 rfl (z_bipush (pc := 5) dX9_isPlace_5 bp_10 (?_))
    refine z_icmp_ge (pc := 7) (tgt := 14) dX9_isPlace_7 (by decide) ?_ ?_
    · refine z_iconst (pc := 14) dX9_isPlace_14 ic_0 (?_)
      exact z_iret (pc := 15) dX9_isPlace_15 rfl rfl
    · refine z_iconst (pc := 10) dX9_isPlace_10 ic_1 (z_goto (pc := 11) (tgt := 15) dX9_isPlace_11 (by decide) (?_))
      exact z_iret (pc := 15) dX9_isPlace_15 rfl rfl
theorem dX9_isWalkedDay_0 : decode cX9_isWalkedDay 0 = .ok (.iload_n 0, 1) := by decide +kernel
theorem dX9_isWalkedDay_1 : decode cX9_isWalkedDay 1 = .ok (.ifCond .lt 13, 3) := by decide +kernel
theorem dX9_isWalkedDay_4 : decode cX9_isWalkedDay 4 = .ok (.iload_n 0, 1) := by decide +kernel
theorem dX9_isWalkedDay_5 : decode cX9_isWalkedDay 5 = .ok (.bipush 99, 2) := by decide +kernel
theorem dX9_isWalkedDay_7 : decode cX9_isWalkedDay 7 = .ok (.if_icmp .gt 7, 3) := by decide +kernel
theorem dX9_isWalkedDay_10 : decode cX9_isWalkedDay 10 = .ok (.iconst 1, 1) := by decide +kernel
theorem dX9_isWalkedDay_11 : decode cX9_isWalkedDay 11 = .ok (.goto 4, 3) := by decide +kernel
theorem dX9_isWalkedDay_14 : decode cX9_isWalkedDay 14 = .ok (.iconst 0, 1) := by decide +kernel
theorem dX9_isWalkedDay_15 : decode cX9_isWalkedDay 15 = .ok (.ireturn, 1) := by decide +kernel
def c_X9_isWalkedDay (F : Nat) (x1 : Int32) (h0 : z_Hp) : Option (Int32 × z_Hp) := (if x1 < 0 then (some (0, h0)) else (if 99 < x1 then (some (0, h0)) else (some (1, h0))))
set_option maxRecDepth 20000 in
set_option maxHeartbeats 4000000 in
theorem t_X9_isWalkedDay (F : Nat) (x1 : Int32) (h0 : z_Hp) : z_Ct zi mi_X9_isWalkedDay [vi x1] h0 (c_X9_isWalkedDay F x1 h0) := by
  refine z_entry (by decide) (Nat.le_of_ble_eq_true rfl) [(0, vi x1)] rfl ?_
  unfold c_X9_isWalkedDay
  refine z_iload_n (pc := 0) dX9_isWalkedDay_0 rfl 0 rfl (?_)
  refine z_if_lt (pc := 1) (tgt := 14) dX9_isWalkedDay_1 (by decide) ?_ ?_
  · refine z_iconst (pc := 14) dX9_isWalkedDay_14 ic_0 (?_)
    exact z_iret (pc := 15) dX9_isWalkedDay_15 rfl rfl
  · refine z_iload_n (pc := 4) dX9_isWalkedDay_4 rfl 0 rfl (z_bipush (pc := 5) dX9_isWalkedDay_5 bp_99 (?_))
    refine z_icmp_gt (pc := 7) (tgt := 14) dX9_isWalkedDay_7 (by decide) ?_ ?_
    · refine z_iconst (pc := 14) dX9_isWalkedDay_14 ic_0 (?_)
      exact z_iret (pc := 15) dX9_isWalkedDay_15 rfl rfl
    · refine z_iconst (pc := 10) dX9_isWalkedDay_10 ic_1 (z_goto (pc := 11) (tgt := 15) dX9_isWalkedDay_11 (by decide) (?_))
      exact z_iret (pc := 15) dX9_isWalkedDay_15 rfl rfl
theorem dX9_sung_0 : decode cX9_sung 0 = .ok (.iload_n 1, 1) := by decide +kernel
theorem dX9_sung_1 : decode cX9_sung 1 = .ok (.invokestatic 114, 3) := by decide +kernel
theorem dX9_sung_4 : decode cX9_sung 4 = .ok (.ifCond .eq 17, 3) := by decide +kernel
theorem dX9_sung_7 : decode cX9_sung 7 = .ok (.iload_n 2, 1) := by decide +kernel
theorem dX9_sung_8 : decode cX9_sung 8 = .ok (.invokestatic 378, 3) := by decide +kernel
theorem dX9_sung_11 : decode cX9_sung 11 = .ok (.ifCond .eq 10, 3) := by decide +kernel
theorem dX9_sung_14 : decode cX9_sung 14 = .ok (.iload_n 3, 1) := by decide +kernel
theorem dX9_sung_15 : decode cX9_sung 15 = .ok (.invokestatic 381, 3) := by decide +kernel
theorem dX9_sung_18 : decode cX9_sung 18 = .ok (.ifCond .ne 5, 3) := by decide +kernel
theorem dX9_sung_21 : decode cX9_sung 21 = .ok (.iconst (-1), 1) := by decide +kernel
theorem dX9_sung_22 : decode cX9_sung 22 = .ok (.ireturn, 1) := by decide +kernel
theorem dX9_sung_23 : decode cX9_sung 23 = .ok (.aload_n 0, 1) := by decide +kernel
theorem dX9_sung_24 : decode cX9_sung 24 = .ok (.getfield 75, 3) := by decide +kernel
theorem dX9_sung_27 : decode cX9_sung 27 = .ok (.getfield 384, 3) := by decide +kernel
theorem dX9_sung_30 : decode cX9_sung 30 = .ok (.bipush 30, 2) := by decide +kernel
theorem dX9_sung_32 : decode cX9_sung 32 = .ok (.if_icmp .lt 6, 3) := by decide +kernel
theorem dX9_sung_35 : decode cX9_sung 35 = .ok (.bipush (-2), 2) := by decide +kernel
theorem dX9_sung_37 : decode cX9_sung 37 = .ok (.ireturn, 1) := by decide +kernel
theorem dX9_sung_38 : decode cX9_sung 38 = .ok (.aload_n 0, 1) := by decide +kernel
theorem dX9_sung_39 : decode cX9_sung 39 = .ok (.getfield 75, 3) := by decide +kernel
theorem dX9_sung_42 : decode cX9_sung 42 = .ok (.iload_n 1, 1) := by decide +kernel
theorem dX9_sung_43 : decode cX9_sung 43 = .ok (.iload_n 2, 1) := by decide +kernel
theorem dX9_sung_44 : decode cX9_sung 44 = .ok (.iload_n 3, 1) := by decide +kernel
theorem dX9_sung_45 : decode cX9_sung 45 = .ok (.invokevirtual 385, 3) := by decide +kernel
theorem dX9_sung_48 : decode cX9_sung 48 = .ok (.aload_n 0, 1) := by decide +kernel
theorem dX9_sung_49 : decode cX9_sung 49 = .ok (.getfield 75, 3) := by decide +kernel
theorem dX9_sung_52 : decode cX9_sung 52 = .ok (.getfield 384, 3) := by decide +kernel
theorem dX9_sung_55 : decode cX9_sung 55 = .ok (.ireturn, 1) := by decide +kernel
def c_X9_sung (F : Nat) (a0 : Nat) (x1 : Int32) (x2 : Int32) (x3 : Int32) (h0 : z_Hp) : Option (Int32 × z_Hp) := (bI (c_X9_isSong F x1 h0) (fun x5 h4 => (if x5 = 0 then (some ((-1), h4)) else (bI (c_X9_isPlace F x2 h4) (fun x7 h6 => (if x7 = 0 then (some ((-1), h6)) else (bI (c_X9_isWalkedDay F x3 h6) (fun x9 h8 => (if x9 = 0 then (some ((-1), h8)) else (if hT h8 a0 = 9 then (lt_ (hR h8 a0 11) (fun o10 => (nn o10 (fun a11 => (if hT h8 a11 = 4 then (if (hI h8 a11 5) < 30 then (if hT h8 a0 = 9 then (lt_ (hR h8 a0 11) (fun o12 => (nn o12 (fun a13 => (if hT h8 a13 = 4 then (bV (c_X4_add F a13 x1 x2 x3 h8) (fun h14 => (if hT h14 a0 = 9 then (lt_ (hR h14 a0 11) (fun o15 => (nn o15 (fun a16 => (if hT h14 a16 = 4 then (some (hI h14 a16 5, h14)) else none))))) else none))) else none))))) else none) else (some ((-2), h8))) else none))))) else none))))))))))
set_option maxRecDepth 20000 in
set_option maxHeartbeats 4000000 in
theorem t_X9_sung (F : Nat) (a0 : Nat) (x1 : Int32) (x2 : Int32) (x3 : Int32) (h0 : z_Hp) : z_Ct zi mi_X9_sung [vr (some a0), vi x1, vi x2, vi x3] h0 (c_X9_sung F a0 x1 x2 x3 h0) := by
  refine z_entry (by decide) (Nat.le_of_ble_eq_true rfl) [(0, vr (some a0)), (1, vi x1), (2, vi x2), (3, vi x3)] rfl ?_
  unfold c_X9_sung
  refine z_iload_n (pc := 0) dX9_sung_0 rfl 1 rfl (z_callS_I (pc := 1) (avs := [vi x1]) (st := []) rfl (t_X9_isSong F x1 h0) ky_X9_isSong ws_X9_isSong wz_RX9_114 (rm_X9_sung_X9_isSong) (Nat.le_of_ble_eq_true rfl) dX9_sung_1 (fun x5 h4 => (?_)))
  refine z_if_eq (pc := 4) (tgt := 21) dX9_sung_4 (by decide) ?_ ?_
  · refine z_iconst (pc := 21) dX9_sung_21 ic_m1 (?_)
    exact z_iret (pc := 22) dX9_sung_22 rfl rfl
  · refine z_iload_n (pc := 7) dX9_sung_7 rfl 2 rfl (z_callS_I (pc := 8) (avs := [vi x2]) (st := []) rfl (t_X9_isPlace F x2 h4) ky_X9_isPlace ws_X9_isPlace wz_RX9_378 (rm_X9_sung_X9_isPlace) (Nat.le_of_ble_eq_true rfl) dX9_sung_8 (fun x7 h6 => (?_)))
    refine z_if_eq (pc := 11) (tgt := 21) dX9_sung_11 (by decide) ?_ ?_
    · refine z_iconst (pc := 21) dX9_sung_21 ic_m1 (?_)
      exact z_iret (pc := 22) dX9_sung_22 rfl rfl
    · refine z_iload_n (pc := 14) dX9_sung_14 rfl 3 rfl (z_callS_I (pc := 15) (avs := [vi x3]) (st := []) rfl (t_X9_isWalkedDay F x3 h6) ky_X9_isWalkedDay ws_X9_isWalkedDay wz_RX9_381 (rm_X9_sung_X9_isWalkedDay) (Nat.le_of_ble_eq_true rfl) dX9_sung_15 (fun x9 h8 => (?_)))
      refine z_if_ne (pc := 18) (tgt := 23) dX9_sung_18 (by decide) ?_ ?_
      · refine z_aload_n (pc := 23) dX9_sung_23 rfl 0 rfl (z_getRl (pc := 24) fl_RX9_75 rfl dX9_sung_24 (fun o10 => (?_)))
        refine z_nn (fun a11 ea11 => ?_)
        subst ea11
        refine z_getI (pc := 27) fl_RX9_384 rfl dX9_sung_27 (z_bipush (pc := 30) dX9_sung_30 bp_30 (?_))
        refine z_icmp_lt (pc := 32) (tgt := 38) dX9_sung_32 (by decide) ?_ ?_
        · refine z_aload_n (pc := 38) dX9_sung_38 rfl 0 rfl (z_getRl (pc := 39) fl_RX9_75 rfl dX9_sung_39 (fun o12 => (z_iload_n (pc := 42) dX9_sung_42 rfl 1 rfl (z_iload_n (pc := 43) dX9_sung_43 rfl 2 rfl (z_iload_n (pc := 44) dX9_sung_44 rfl 3 rfl (?_))))))
          refine z_nn (fun a13 ea13 => ?_)
          subst ea13
          refine z_callV_V (pc := 45) (avs := [vi x1, vi x2, vi x3]) (st := []) rfl (q := (RX4, TX4, 6)) rfl rfl (t_X4_add F a13 x1 x2 x3 h8) ky_X4_add wm_X4_add we_X4_add wz_RX9_385 (rm_X9_sung_X4_add) (Nat.le_of_ble_eq_true rfl) dX9_sung_45 (fun h14 => (?_))
          refine z_aload_n (pc := 48) dX9_sung_48 rfl 0 rfl (z_getRl (pc := 49) fl_RX9_75 rfl dX9_sung_49 (fun o15 => (?_)))
          refine z_nn (fun a16 ea16 => ?_)
          subst ea16
          refine z_getI (pc := 52) fl_RX9_384 rfl dX9_sung_52 (?_)
          exact z_iret (pc := 55) dX9_sung_55 rfl rfl
        · refine z_bipush (pc := 35) dX9_sung_35 bp_m2 (?_)
          exact z_iret (pc := 37) dX9_sung_37 rfl rfl
      · refine z_iconst (pc := 21) dX9_sung_21 ic_m1 (?_)
        exact z_iret (pc := 22) dX9_sung_22 rfl rfl
theorem dX9_can_0 : decode cX9_can 0 = .ok (.iload_n 1, 1) := by decide +kernel
theorem dX9_can_1 : decode cX9_can 1 = .ok (.invokestatic 372, 3) := by decide +kernel
theorem dX9_can_4 : decode cX9_can 4 = .ok (.ifCond .eq 17, 3) := by decide +kernel
theorem dX9_can_7 : decode cX9_can 7 = .ok (.iload_n 2, 1) := by decide +kernel
theorem dX9_can_8 : decode cX9_can 8 = .ok (.invokestatic 114, 3) := by decide +kernel
theorem dX9_can_11 : decode cX9_can 11 = .ok (.ifCond .eq 10, 3) := by decide +kernel
theorem dX9_can_14 : decode cX9_can 14 = .ok (.iload_n 3, 1) := by decide +kernel
theorem dX9_can_15 : decode cX9_can 15 = .ok (.invokestatic 381, 3) := by decide +kernel
theorem dX9_can_18 : decode cX9_can 18 = .ok (.ifCond .ne 5, 3) := by decide +kernel
theorem dX9_can_21 : decode cX9_can 21 = .ok (.iconst (-1), 1) := by decide +kernel
theorem dX9_can_22 : decode cX9_can 22 = .ok (.ireturn, 1) := by decide +kernel
theorem dX9_can_23 : decode cX9_can 23 = .ok (.aload_n 0, 1) := by decide +kernel
theorem dX9_can_24 : decode cX9_can 24 = .ok (.getfield 75, 3) := by decide +kernel
theorem dX9_can_27 : decode cX9_can 27 = .ok (.getfield 375, 3) := by decide +kernel
theorem dX9_can_30 : decode cX9_can 30 = .ok (.iload_n 1, 1) := by decide +kernel
theorem dX9_can_31 : decode cX9_can 31 = .ok (.aaload, 1) := by decide +kernel
theorem dX9_can_32 : decode cX9_can 32 = .ok (.ifnonnull 6, 3) := by decide +kernel
theorem dX9_can_35 : decode cX9_can 35 = .ok (.bipush (-4), 2) := by decide +kernel
theorem dX9_can_37 : decode cX9_can 37 = .ok (.ireturn, 1) := by decide +kernel
theorem dX9_can_38 : decode cX9_can 38 = .ok (.aload_n 0, 1) := by decide +kernel
theorem dX9_can_39 : decode cX9_can 39 = .ok (.getfield 75, 3) := by decide +kernel
theorem dX9_can_42 : decode cX9_can 42 = .ok (.iload_n 2, 1) := by decide +kernel
theorem dX9_can_43 : decode cX9_can 43 = .ok (.iload_n 3, 1) := by decide +kernel
theorem dX9_can_44 : decode cX9_can 44 = .ok (.invokevirtual 268, 3) := by decide +kernel
theorem dX9_can_47 : decode cX9_can 47 = .ok (.iload_n 1, 1) := by decide +kernel
theorem dX9_can_48 : decode cX9_can 48 = .ok (.ishr, 1) := by decide +kernel
theorem dX9_can_49 : decode cX9_can 49 = .ok (.iconst 1, 1) := by decide +kernel
theorem dX9_can_50 : decode cX9_can 50 = .ok (.iand, 1) := by decide +kernel
theorem dX9_can_51 : decode cX9_can 51 = .ok (.ireturn, 1) := by decide +kernel
def c_X9_can (F : Nat) (a0 : Nat) (x1 : Int32) (x2 : Int32) (x3 : Int32) (h0 : z_Hp) : Option (Int32 × z_Hp) := (bI (c_X9_isSeller F x1 h0) (fun x5 h4 => (if x5 = 0 then (some ((-1), h4)) else (bI (c_X9_isSong F x2 h4) (fun x7 h6 => (if x7 = 0 then (some ((-1), h6)) else (bI (c_X9_isWalkedDay F x3 h6) (fun x9 h8 => (if x9 = 0 then (some ((-1), h8)) else (if hT h8 a0 = 9 then (lt_ (hR h8 a0 11) (fun o10 => (nn o10 (fun a11 => (if hT h8 a11 = 4 then (lt_ (hR h8 a11 0) (fun o12 => (nn o12 (fun a13 => (if okA h8 a13 23 x1 = true then (lt_ (hR h8 a13 (ix x1)) (fun o14 => (nl o14 (some ((-4), h8)) (fun a15 => (if hT h8 a0 = 9 then (lt_ (hR h8 a0 11) (fun o16 => (nn o16 (fun a17 => (if hT h8 a17 = 4 then (bI (c_X4_havers F a17 x2 x3 h8) (fun x19 h18 => (some ((x19 >>> (x1 &&& 31)) &&& 1, h18)))) else none))))) else none))))) else none))))) else none))))) else none))))))))))
set_option maxRecDepth 20000 in
set_option maxHeartbeats 4000000 in
theorem t_X9_can (F : Nat) (a0 : Nat) (x1 : Int32) (x2 : Int32) (x3 : Int32) (h0 : z_Hp) : z_Ct zi mi_X9_can [vr (some a0), vi x1, vi x2, vi x3] h0 (c_X9_can F a0 x1 x2 x3 h0) := by
  refine z_entry (by decide) (Nat.le_of_ble_eq_true rfl) [(0, vr (some a0)), (1, vi x1), (2, vi x2), (3, vi x3)] rfl ?_
  unfold c_X9_can
  refine z_iload_n (pc := 0) dX9_can_0 rfl 1 rfl (z_callS_I (pc := 1) (avs := [vi x1]) (st := []) rfl (t_X9_isSeller F x1 h0) ky_X9_isSeller ws_X9_isSeller wz_RX9_372 (rm_X9_can_X9_isSeller) (Nat.le_of_ble_eq_true rfl) dX9_can_1 (fun x5 h4 => (?_)))
  refine z_if_eq (pc := 4) (tgt := 21) dX9_can_4 (by decide) ?_ ?_
  · refine z_iconst (pc := 21) dX9_can_21 ic_m1 (?_)
    exact z_iret (pc := 22) dX9_can_22 rfl rfl
  · refine z_iload_n (pc := 7) dX9_can_7 rfl 2 rfl (z_callS_I (pc := 8) (avs := [vi x2]) (st := []) rfl (t_X9_isSong F x2 h4) ky_X9_isSong ws_X9_isSong wz_RX9_114 (rm_X9_can_X9_isSong) (Nat.le_of_ble_eq_true rfl) dX9_can_8 (fun x7 h6 => (?_)))
    refine z_if_eq (pc := 11) (tgt := 21) dX9_can_11 (by decide) ?_ ?_
    · refine z_iconst (pc := 21) dX9_can_21 ic_m1 (?_)
      exact z_iret (pc := 22) dX9_can_22 rfl rfl
    · refine z_iload_n (pc := 14) dX9_can_14 rfl 3 rfl (z_callS_I (pc := 15) (avs := [vi x3]) (st := []) rfl (t_X9_isWalkedDay F x3 h6) ky_X9_isWalkedDay ws_X9_isWalkedDay wz_RX9_381 (rm_X9_can_X9_isWalkedDay) (Nat.le_of_ble_eq_true rfl) dX9_can_15 (fun x9 h8 => (?_)))
      refine z_if_ne (pc := 18) (tgt := 23) dX9_can_18 (by decide) ?_ ?_
      · refine z_aload_n (pc := 23) dX9_can_23 rfl 0 rfl (z_getRl (pc := 24) fl_RX9_75 rfl dX9_can_24 (fun o10 => (?_)))
        refine z_nn (fun a11 ea11 => ?_)
        subst ea11
        refine z_getRl (pc := 27) fl_RX9_375 rfl dX9_can_27 (fun o12 => (z_iload_n (pc := 30) dX9_can_30 rfl 1 rfl (?_)))
        refine z_nn (fun a13 ea13 => ?_)
        subst ea13
        refine z_aaloadl (pc := 31) 23 (by decide) dX9_can_31 (fun o14 => (?_))
        refine z_ifnonnull (pc := 32) (tgt := 38) dX9_can_32 (by decide) (fun ea15 => ?_) (fun a15 ea15 => ?_)
        · subst ea15
          refine z_bipush (pc := 35) dX9_can_35 bp_m4 (?_)
          exact z_iret (pc := 37) dX9_can_37 rfl rfl
        · subst ea15
          refine z_aload_n (pc := 38) dX9_can_38 rfl 0 rfl (z_getRl (pc := 39) fl_RX9_75 rfl dX9_can_39 (fun o16 => (z_iload_n (pc := 42) dX9_can_42 rfl 2 rfl (z_iload_n (pc := 43) dX9_can_43 rfl 3 rfl (?_)))))
          refine z_nn (fun a17 ea17 => ?_)
          subst ea17
          refine z_callV_I (pc := 44) (avs := [vi x2, vi x3]) (st := []) rfl (q := (RX4, TX4, 6)) rfl rfl (t_X4_havers F a17 x2 x3 h8) ky_X4_havers wm_X4_havers we_X4_havers wz_RX9_268 (rm_X9_can_X4_havers) (Nat.le_of_ble_eq_true rfl) dX9_can_44 (fun x19 h18 => (?_))
          refine z_iload_n (pc := 47) dX9_can_47 rfl 1 rfl (z_ishr (pc := 48) dX9_can_48 (z_iconst (pc := 49) dX9_can_49 ic_1 (z_iand (pc := 50) dX9_can_50 (?_))))
          exact z_iret (pc := 51) dX9_can_51 rfl rfl
      · refine z_iconst (pc := 21) dX9_can_21 ic_m1 (?_)
        exact z_iret (pc := 22) dX9_can_22 rfl rfl
theorem dX9_far_0 : decode cX9_far 0 = .ok (.iload_n 1, 1) := by decide +kernel
theorem dX9_far_1 : decode cX9_far 1 = .ok (.invokestatic 114, 3) := by decide +kernel
theorem dX9_far_4 : decode cX9_far 4 = .ok (.ifCond .eq 10, 3) := by decide +kernel
theorem dX9_far_7 : decode cX9_far 7 = .ok (.iload_n 2, 1) := by decide +kernel
theorem dX9_far_8 : decode cX9_far 8 = .ok (.invokestatic 378, 3) := by decide +kernel
theorem dX9_far_11 : decode cX9_far 11 = .ok (.ifCond .ne 5, 3) := by decide +kernel
theorem dX9_far_14 : decode cX9_far 14 = .ok (.iconst (-1), 1) := by decide +kernel
theorem dX9_far_15 : decode cX9_far 15 = .ok (.ireturn, 1) := by decide +kernel
theorem dX9_far_16 : decode cX9_far 16 = .ok (.aload_n 0, 1) := by decide +kernel
theorem dX9_far_17 : decode cX9_far 17 = .ok (.getfield 75, 3) := by decide +kernel
theorem dX9_far_20 : decode cX9_far 20 = .ok (.iload_n 1, 1) := by decide +kernel
theorem dX9_far_21 : decode cX9_far 21 = .ok (.iload_n 2, 1) := by decide +kernel
theorem dX9_far_22 : decode cX9_far 22 = .ok (.invokevirtual 386, 3) := by decide +kernel
theorem dX9_far_25 : decode cX9_far 25 = .ok (.ireturn, 1) := by decide +kernel
def c_X9_far (F : Nat) (a0 : Nat) (x1 : Int32) (x2 : Int32) (h0 : z_Hp) : Option (Int32 × z_Hp) := (bI (c_X9_isSong F x1 h0) (fun x4 h3 => (if x4 = 0 then (some ((-1), h3)) else (bI (c_X9_isPlace F x2 h3) (fun x6 h5 => (if x6 = 0 then (some ((-1), h5)) else (if hT h5 a0 = 9 then (lt_ (hR h5 a0 11) (fun o7 => (nn o7 (fun a8 => (if hT h5 a8 = 4 then (bI (c_X4_firstDayAt F a8 x1 x2 h5) (fun x10 h9 => (some (x10, h9)))) else none))))) else none)))))))
set_option maxRecDepth 20000 in
set_option maxHeartbeats 4000000 in
theorem t_X9_far (F : Nat) (a0 : Nat) (x1 : Int32) (x2 : Int32) (h0 : z_Hp) : z_Ct zi mi_X9_far [vr (some a0), vi x1, vi x2] h0 (c_X9_far F a0 x1 x2 h0) := by
  refine z_entry (by decide) (Nat.le_of_ble_eq_true rfl) [(0, vr (some a0)), (1, vi x1), (2, vi x2)] rfl ?_
  unfold c_X9_far
  refine z_iload_n (pc := 0) dX9_far_0 rfl 1 rfl (z_callS_I (pc := 1) (avs := [vi x1]) (st := []) rfl (t_X9_isSong F x1 h0) ky_X9_isSong ws_X9_isSong wz_RX9_114 (rm_X9_far_X9_isSong) (Nat.le_of_ble_eq_true rfl) dX9_far_1 (fun x4 h3 => (?_)))
  refine z_if_eq (pc := 4) (tgt := 14) dX9_far_4 (by decide) ?_ ?_
  · refine z_iconst (pc := 14) dX9_far_14 ic_m1 (?_)
    exact z_iret (pc := 15) dX9_far_15 rfl rfl
  · refine z_iload_n (pc := 7) dX9_far_7 rfl 2 rfl (z_callS_I (pc := 8) (avs := [vi x2]) (st := []) rfl (t_X9_isPlace F x2 h3) ky_X9_isPlace ws_X9_isPlace wz_RX9_378 (rm_X9_far_X9_isPlace) (Nat.le_of_ble_eq_true rfl) dX9_far_8 (fun x6 h5 => (?_)))
    refine z_if_ne (pc := 11) (tgt := 16) dX9_far_11 (by decide) ?_ ?_
    · refine z_aload_n (pc := 16) dX9_far_16 rfl 0 rfl (z_getRl (pc := 17) fl_RX9_75 rfl dX9_far_17 (fun o7 => (z_iload_n (pc := 20) dX9_far_20 rfl 1 rfl (z_iload_n (pc := 21) dX9_far_21 rfl 2 rfl (?_)))))
      refine z_nn (fun a8 ea8 => ?_)
      subst ea8
      refine z_callV_I (pc := 22) (avs := [vi x1, vi x2]) (st := []) rfl (q := (RX4, TX4, 6)) rfl rfl (t_X4_firstDayAt F a8 x1 x2 h5) ky_X4_firstDayAt wm_X4_firstDayAt we_X4_firstDayAt wz_RX9_386 (rm_X9_far_X4_firstDayAt) (Nat.le_of_ble_eq_true rfl) dX9_far_22 (fun x10 h9 => (?_))
      exact z_iret (pc := 25) dX9_far_25 rfl rfl
    · refine z_iconst (pc := 14) dX9_far_14 ic_m1 (?_)
      exact z_iret (pc := 15) dX9_far_15 rfl rfl
theorem dX9_lost_0 : decode cX9_lost 0 = .ok (.aload_n 0, 1) := by decide +kernel
theorem dX9_lost_1 : decode cX9_lost 1 = .ok (.getfield 40, 3) := by decide +kernel
theorem dX9_lost_4 : decode cX9_lost 4 = .ok (.iconst 0, 1) := by decide +kernel
theorem dX9_lost_5 : decode cX9_lost 5 = .ok (.invokevirtual 389, 3) := by decide +kernel
theorem dX9_lost_8 : decode cX9_lost 8 = .ok (.istore_n 1, 1) := by decide +kernel
theorem dX9_lost_9 : decode cX9_lost 9 = .ok (.iload_n 1, 1) := by decide +kernel
theorem dX9_lost_10 : decode cX9_lost 10 = .ok (.ifCond .ne 9, 3) := by decide +kernel
theorem dX9_lost_13 : decode cX9_lost 13 = .ok (.aload_n 0, 1) := by decide +kernel
theorem dX9_lost_14 : decode cX9_lost 14 = .ok (.iconst 4, 1) := by decide +kernel
theorem dX9_lost_15 : decode cX9_lost 15 = .ok (.invokevirtual 90, 3) := by decide +kernel
theorem dX9_lost_18 : decode cX9_lost 18 = .ok (.ireturn, 1) := by decide +kernel
theorem dX9_lost_19 : decode cX9_lost 19 = .ok (.aload_n 0, 1) := by decide +kernel
theorem dX9_lost_20 : decode cX9_lost 20 = .ok (.getfield 40, 3) := by decide +kernel
theorem dX9_lost_23 : decode cX9_lost 23 = .ok (.iconst 1, 1) := by decide +kernel
theorem dX9_lost_24 : decode cX9_lost 24 = .ok (.invokevirtual 389, 3) := by decide +kernel
theorem dX9_lost_27 : decode cX9_lost 27 = .ok (.i2l, 1) := by decide +kernel
theorem dX9_lost_28 : decode cX9_lost 28 = .ok (.lstore_n 2, 1) := by decide +kernel
theorem dX9_lost_29 : decode cX9_lost 29 = .ok (.aload_n 0, 1) := by decide +kernel
theorem dX9_lost_30 : decode cX9_lost 30 = .ok (.getfield 40, 3) := by decide +kernel
theorem dX9_lost_33 : decode cX9_lost 33 = .ok (.iconst 2, 1) := by decide +kernel
theorem dX9_lost_34 : decode cX9_lost 34 = .ok (.invokevirtual 389, 3) := by decide +kernel
theorem dX9_lost_37 : decode cX9_lost 37 = .ok (.i2l, 1) := by decide +kernel
theorem dX9_lost_38 : decode cX9_lost 38 = .ok (.lstore 4, 2) := by decide +kernel
theorem dX9_lost_40 : decode cX9_lost 40 = .ok (.lload 4, 2) := by decide +kernel
theorem dX9_lost_42 : decode cX9_lost 42 = .ok (.lconst 0, 1) := by decide +kernel
theorem dX9_lost_43 : decode cX9_lost 43 = .ok (.lcmp, 1) := by decide +kernel
theorem dX9_lost_44 : decode cX9_lost 44 = .ok (.ifCond .le 19, 3) := by decide +kernel
theorem dX9_lost_47 : decode cX9_lost 47 = .ok (.aload_n 0, 1) := by decide +kernel
theorem dX9_lost_48 : decode cX9_lost 48 = .ok (.lload_n 2, 1) := by decide +kernel
theorem dX9_lost_49 : decode cX9_lost 49 = .ok (.lload_n 2, 1) := by decide +kernel
theorem dX9_lost_50 : decode cX9_lost 50 = .ok (.lmul, 1) := by decide +kernel
theorem dX9_lost_51 : decode cX9_lost 51 = .ok (.ldc2_w 392, 3) := by decide +kernel
theorem dX9_lost_54 : decode cX9_lost 54 = .ok (.lload 4, 2) := by decide +kernel
theorem dX9_lost_56 : decode cX9_lost 56 = .ok (.lmul, 1) := by decide +kernel
theorem dX9_lost_57 : decode cX9_lost 57 = .ok (.invokevirtual 394, 3) := by decide +kernel
theorem dX9_lost_60 : decode cX9_lost 60 = .ok (.goto 15, 3) := by decide +kernel
theorem dX9_lost_63 : decode cX9_lost 63 = .ok (.aload_n 0, 1) := by decide +kernel
theorem dX9_lost_64 : decode cX9_lost 64 = .ok (.lload_n 2, 1) := by decide +kernel
theorem dX9_lost_65 : decode cX9_lost 65 = .ok (.lload_n 2, 1) := by decide +kernel
theorem dX9_lost_66 : decode cX9_lost 66 = .ok (.lconst 1, 1) := by decide +kernel
theorem dX9_lost_67 : decode cX9_lost 67 = .ok (.lsub, 1) := by decide +kernel
theorem dX9_lost_68 : decode cX9_lost 68 = .ok (.lmul, 1) := by decide +kernel
theorem dX9_lost_69 : decode cX9_lost 69 = .ok (.ldc2_w 392, 3) := by decide +kernel
theorem dX9_lost_72 : decode cX9_lost 72 = .ok (.invokevirtual 394, 3) := by decide +kernel
theorem dX9_lost_75 : decode cX9_lost 75 = .ok (.iload_n 1, 1) := by decide +kernel
theorem dX9_lost_76 : decode cX9_lost 76 = .ok (.ireturn, 1) := by decide +kernel
def c_X9_lost (F : Nat) (a0 : Nat) (h0 : z_Hp) : Option (Int32 × z_Hp) := (if hT h0 a0 = 9 then (lt_ (hR h0 a0 6) (fun o1 => (nn o1 (fun a2 => (if hT h0 a2 = 6 then (bI (c_X6_printsOf F a2 0 h0) (fun x4 h3 => (if x4 = 0 then (if hT h3 a0 = 9 then (bI (c_X9_found F a0 4 h3) (fun x18 h17 => (some (x18, h17)))) else none) else (if hT h3 a0 = 9 then (lt_ (hR h3 a0 6) (fun o5 => (nn o5 (fun a6 => (if hT h3 a6 = 6 then (bI (c_X6_printsOf F a6 1 h3) (fun x8 h7 => (lt_ ((x8 : Int32).toInt64) (fun y9 => (if hT h7 a0 = 9 then (lt_ (hR h7 a0 6) (fun o10 => (nn o10 (fun a11 => (if hT h7 a11 = 6 then (bI (c_X6_printsOf F a11 2 h7) (fun x13 h12 => (lt_ ((x13 : Int32).toInt64) (fun y14 => (if (lg_cmp y14 0) ≤ 0 then (if hT h12 a0 = 9 then (bV (c_X9_tellFraction F a0 (y9 * (y9 - 1)) 2 h12) (fun h15 => (some (x4, h15)))) else none) else (if hT h12 a0 = 9 then (bV (c_X9_tellFraction F a0 (y9 * y9) (2 * y14) h12) (fun h16 => (some (x4, h16)))) else none)))))) else none))))) else none))))) else none))))) else none)))) else none))))) else none)
set_option maxRecDepth 20000 in
set_option maxHeartbeats 4000000 in
theorem t_X9_lost (F : Nat) (a0 : Nat) (h0 : z_Hp) : z_Ct zi mi_X9_lost [vr (some a0)] h0 (c_X9_lost F a0 h0) := by
  refine z_entry (by decide) (Nat.le_of_ble_eq_true rfl) [(0, vr (some a0))] rfl ?_
  unfold c_X9_lost
  refine z_aload_n (pc := 0) dX9_lost_0 rfl 0 rfl (z_getRl (pc := 1) fl_RX9_40 rfl dX9_lost_1 (fun o1 => (z_iconst (pc := 4) dX9_lost_4 ic_0 (?_))))
  refine z_nn (fun a2 ea2 => ?_)
  subst ea2
  refine z_callV_I (pc := 5) (avs := [vi 0]) (st := []) rfl (q := (RX6, TX6, 2)) rfl rfl (t_X6_printsOf F a2 0 h0) ky_X6_printsOf wm_X6_printsOf we_X6_printsOf wz_RX9_389 (rm_X9_lost_X6_printsOf) (Nat.le_of_ble_eq_true rfl) dX9_lost_5 (fun x4 h3 => (?_))
  refine z_istore_n (pc := 8) (L' := [(0, vr (some a0)), (1, vi x4)]) dX9_lost_8 rfl (Nat.le_of_ble_eq_true rfl) rfl (z_iload_n (pc := 9) dX9_lost_9 rfl 1 rfl (?_))
  refine z_if_ne (pc := 10) (tgt := 19) dX9_lost_10 (by decide) ?_ ?_
  · refine z_aload_n (pc := 19) dX9_lost_19 rfl 0 rfl (z_getRl (pc := 20) fl_RX9_40 rfl dX9_lost_20 (fun o5 => (z_iconst (pc := 23) dX9_lost_23 ic_1 (?_))))
    refine z_nn (fun a6 ea6 => ?_)
    subst ea6
    refine z_callV_I (pc := 24) (avs := [vi 1]) (st := []) rfl (q := (RX6, TX6, 2)) rfl rfl (t_X6_printsOf F a6 1 h3) ky_X6_printsOf wm_X6_printsOf we_X6_printsOf wz_RX9_389 (rm_X9_lost_X6_printsOf) (Nat.le_of_ble_eq_true rfl) dX9_lost_24 (fun x8 h7 => (?_))
    refine z_i2l (pc := 27) dX9_lost_27 (z_lstorel_n (pc := 28) (L' := fun y9 => [(0, vr (some a0)), (1, vi x4), (2, vl y9)]) dX9_lost_28 rfl (Nat.le_of_ble_eq_true rfl) (fun _ => rfl) (fun y9 => (z_aload_n (pc := 29) dX9_lost_29 rfl 0 rfl (z_getRl (pc := 30) fl_RX9_40 rfl dX9_lost_30 (fun o10 => (z_iconst (pc := 33) dX9_lost_33 ic_2 (?_)))))))
    refine z_nn (fun a11 ea11 => ?_)
    subst ea11
    refine z_callV_I (pc := 34) (avs := [vi 2]) (st := []) rfl (q := (RX6, TX6, 2)) rfl rfl (t_X6_printsOf F a11 2 h7) ky_X6_printsOf wm_X6_printsOf we_X6_printsOf wz_RX9_389 (rm_X9_lost_X6_printsOf) (Nat.le_of_ble_eq_true rfl) dX9_lost_34 (fun x13 h12 => (?_))
    refine z_i2l (pc := 37) dX9_lost_37 (z_lstorel (pc := 38) (L' := fun y14 => [(0, vr (some a0)), (1, vi x4), (2, vl y9), (4, vl y14)]) dX9_lost_38 (Nat.le_of_ble_eq_true rfl) (fun _ => rfl) (fun y14 => (z_lload (pc := 40) dX9_lost_40 3 rfl (z_lconst (pc := 42) dX9_lost_42 lc_0 (z_lcmp (pc := 43) dX9_lost_43 (?_))))))
    refine z_if_le (pc := 44) (tgt := 63) dX9_lost_44 (by decide) ?_ ?_
    · refine z_aload_n (pc := 63) dX9_lost_63 rfl 0 rfl (z_lload_n (pc := 64) dX9_lost_64 rfl 2 rfl (z_lload_n (pc := 65) dX9_lost_65 rfl 2 rfl (z_lconst (pc := 66) dX9_lost_66 lc_1 (z_lsub (pc := 67) dX9_lost_67 (z_lmul (pc := 68) dX9_lost_68 (z_ldc2 (pc := 69) dX9_lost_69 wj_RX9_392 (z_callV_V (pc := 72) (avs := [vl (y9 * (y9 - 1)), vl 2]) (st := []) rfl (q := (RX9, TX9, 18)) rfl rfl (t_X9_tellFraction F a0 (y9 * (y9 - 1)) 2 h12) ky_X9_tellFraction wm_X9_tellFraction we_X9_tellFraction wz_RX9_394 (rm_X9_lost_X9_tellFraction) (Nat.le_of_ble_eq_true rfl) dX9_lost_72 (fun h15 => (?_)))))))))
      refine z_iload_n (pc := 75) dX9_lost_75 rfl 1 rfl (?_)
      exact z_iret (pc := 76) dX9_lost_76 rfl rfl
    · refine z_aload_n (pc := 47) dX9_lost_47 rfl 0 rfl (z_lload_n (pc := 48) dX9_lost_48 rfl 2 rfl (z_lload_n (pc := 49) dX9_lost_49 rfl 2 rfl (z_lmul (pc := 50) dX9_lost_50 (z_ldc2 (pc := 51) dX9_lost_51 wj_RX9_392 (z_lload (pc := 54) dX9_lost_54 3 rfl (z_lmul (pc := 56) dX9_lost_56 (z_callV_V (pc := 57) (avs := [vl (y9 * y9), vl (2 * y14)]) (st := []) rfl (q := (RX9, TX9, 18)) rfl rfl (t_X9_tellFraction F a0 (y9 * y9) (2 * y14) h12) ky_X9_tellFraction wm_X9_tellFraction we_X9_tellFraction wz_RX9_394 (rm_X9_lost_X9_tellFraction) (Nat.le_of_ble_eq_true rfl) dX9_lost_57 (fun h16 => (?_)))))))))
      refine z_goto (pc := 60) (tgt := 75) dX9_lost_60 (by decide) (z_iload_n (pc := 75) dX9_lost_75 rfl 1 rfl (?_))
      exact z_iret (pc := 76) dX9_lost_76 rfl rfl
  · refine z_aload_n (pc := 13) dX9_lost_13 rfl 0 rfl (z_iconst (pc := 14) dX9_lost_14 ic_4 (z_callV_I (pc := 15) (avs := [vi 4]) (st := []) rfl (q := (RX9, TX9, 18)) rfl rfl (t_X9_found F a0 4 h3) ky_X9_found wm_X9_found we_X9_found wz_RX9_90 (rm_X9_lost_X9_found) (Nat.le_of_ble_eq_true rfl) dX9_lost_15 (fun x18 h17 => (?_))))
    exact z_iret (pc := 18) dX9_lost_18 rfl rfl
theorem dX9_many_0 : decode cX9_many 0 = .ok (.aload_n 0, 1) := by decide +kernel
theorem dX9_many_1 : decode cX9_many 1 = .ok (.getfield 301, 3) := by decide +kernel
theorem dX9_many_4 : decode cX9_many 4 = .ok (.lreturn, 1) := by decide +kernel
def c_X9_many (F : Nat) (a0 : Nat) (h0 : z_Hp) : Option (Int64 × z_Hp) := (if hT h0 a0 = 9 then (some (hJ h0 a0 14, h0)) else none)
set_option maxRecDepth 20000 in
set_option maxHeartbeats 4000000 in
theorem t_X9_many (F : Nat) (a0 : Nat) (h0 : z_Hp) : z_Ct zl mi_X9_many [vr (some a0)] h0 (c_X9_many F a0 h0) := by
  refine z_entry (by decide) (Nat.le_of_ble_eq_true rfl) [(0, vr (some a0))] rfl ?_
  unfold c_X9_many
  refine z_aload_n (pc := 0) dX9_many_0 rfl 0 rfl (z_getJ (pc := 1) fl_RX9_301 rfl dX9_many_1 (?_))
  exact z_lret (pc := 4) dX9_many_4 rfl
theorem dX9_asked_0 : decode cX9_asked 0 = .ok (.aload_n 0, 1) := by decide +kernel
theorem dX9_asked_1 : decode cX9_asked 1 = .ok (.getfield 94, 3) := by decide +kernel
theorem dX9_asked_4 : decode cX9_asked 4 = .ok (.ireturn, 1) := by decide +kernel
def c_X9_asked (F : Nat) (a0 : Nat) (h0 : z_Hp) : Option (Int32 × z_Hp) := (if hT h0 a0 = 9 then (some (hI h0 a0 15, h0)) else none)
set_option maxRecDepth 20000 in
set_option maxHeartbeats 4000000 in
theorem t_X9_asked (F : Nat) (a0 : Nat) (h0 : z_Hp) : z_Ct zi mi_X9_asked [vr (some a0)] h0 (c_X9_asked F a0 h0) := by
  refine z_entry (by decide) (Nat.le_of_ble_eq_true rfl) [(0, vr (some a0))] rfl ?_
  unfold c_X9_asked
  refine z_aload_n (pc := 0) dX9_asked_0 rfl 0 rfl (z_getI (pc := 1) fl_RX9_94 rfl dX9_asked_1 (?_))
  exact z_iret (pc := 4) dX9_asked_4 rfl rfl
theorem dX9_upper_0 : decode cX9_upper 0 = .ok (.aload_n 0, 1) := by decide +kernel
theorem dX9_upper_1 : decode cX9_upper 1 = .ok (.getfield 398, 3) := by decide +kernel
theorem dX9_upper_4 : decode cX9_upper 4 = .ok (.lreturn, 1) := by decide +kernel
def c_X9_upper (F : Nat) (a0 : Nat) (h0 : z_Hp) : Option (Int64 × z_Hp) := (if hT h0 a0 = 9 then (some (hJ h0 a0 16, h0)) else none)
set_option maxRecDepth 20000 in
set_option maxHeartbeats 4000000 in
theorem t_X9_upper (F : Nat) (a0 : Nat) (h0 : z_Hp) : z_Ct zl mi_X9_upper [vr (some a0)] h0 (c_X9_upper F a0 h0) := by
  refine z_entry (by decide) (Nat.le_of_ble_eq_true rfl) [(0, vr (some a0))] rfl ?_
  unfold c_X9_upper
  refine z_aload_n (pc := 0) dX9_upper_0 rfl 0 rfl (z_getJ (pc := 1) fl_RX9_398 rfl dX9_upper_1 (?_))
  exact z_lret (pc := 4) dX9_upper_4 rfl
theorem dX9_lower_0 : decode cX9_lower 0 = .ok (.aload_n 0, 1) := by decide +kernel
theorem dX9_lower_1 : decode cX9_lower 1 = .ok (.getfield 82, 3) := by decide +kernel
theorem dX9_lower_4 : decode cX9_lower 4 = .ok (.lreturn, 1) := by decide +kernel
def c_X9_lower (F : Nat) (a0 : Nat) (h0 : z_Hp) : Option (Int64 × z_Hp) := (if hT h0 a0 = 9 then (some (hJ h0 a0 17, h0)) else none)
set_option maxRecDepth 20000 in
set_option maxHeartbeats 4000000 in
theorem t_X9_lower (F : Nat) (a0 : Nat) (h0 : z_Hp) : z_Ct zl mi_X9_lower [vr (some a0)] h0 (c_X9_lower F a0 h0) := by
  refine z_entry (by decide) (Nat.le_of_ble_eq_true rfl) [(0, vr (some a0))] rfl ?_
  unfold c_X9_lower
  refine z_aload_n (pc := 0) dX9_lower_0 rfl 0 rfl (z_getJ (pc := 1) fl_RX9_82 rfl dX9_lower_1 (?_))
  exact z_lret (pc := 4) dX9_lower_4 rfl
theorem dX9_textsThere_0 : decode cX9_textsThere 0 = .ok (.iconst 0, 1) := by decide +kernel
theorem dX9_textsThere_1 : decode cX9_textsThere 1 = .ok (.istore_n 1, 1) := by decide +kernel
theorem dX9_textsThere_2 : decode cX9_textsThere 2 = .ok (.iconst 0, 1) := by decide +kernel
theorem dX9_textsThere_3 : decode cX9_textsThere 3 = .ok (.istore_n 2, 1) := by decide +kernel
theorem dX9_textsThere_4 : decode cX9_textsThere 4 = .ok (.iload_n 2, 1) := by decide +kernel
theorem dX9_textsThere_5 : decode cX9_textsThere 5 = .ok (.iconst 4, 1) := by decide +kernel
theorem dX9_textsThere_6 : decode cX9_textsThere 6 = .ok (.if_icmp .ge 21, 3) := by decide +kernel
theorem dX9_textsThere_9 : decode cX9_textsThere 9 = .ok (.aload_n 0, 1) := by decide +kernel
theorem dX9_textsThere_10 : decode cX9_textsThere 10 = .ok (.getfield 17, 3) := by decide +kernel
theorem dX9_textsThere_13 : decode cX9_textsThere 13 = .ok (.iload_n 2, 1) := by decide +kernel
theorem dX9_textsThere_14 : decode cX9_textsThere 14 = .ok (.aaload, 1) := by decide +kernel
theorem dX9_textsThere_15 : decode cX9_textsThere 15 = .ok (.ifnull 6, 3) := by decide +kernel
theorem dX9_textsThere_18 : decode cX9_textsThere 18 = .ok (.iinc 1 1, 3) := by decide +kernel
theorem dX9_textsThere_21 : decode cX9_textsThere 21 = .ok (.iinc 2 1, 3) := by decide +kernel
theorem dX9_textsThere_24 : decode cX9_textsThere 24 = .ok (.goto (-20), 3) := by decide +kernel
theorem dX9_textsThere_27 : decode cX9_textsThere 27 = .ok (.iload_n 1, 1) := by decide +kernel
theorem dX9_textsThere_28 : decode cX9_textsThere 28 = .ok (.ireturn, 1) := by decide +kernel
def c_X9_textsThere_L4 (F : Nat) (a1 : Nat) : Nat → Int32 → Int32 → z_Hp → Option (Int32 × z_Hp)
  | 0, _, _, _ => none
  | n + 1, x2, x3, h4 => (if 4 ≤ x3 then (some (x2, h4)) else (if hT h4 a1 = 9 then (lt_ (hR h4 a1 1) (fun o5 => (nn o5 (fun a6 => (if okA h4 a6 24 x3 = true then (lt_ (hR h4 a6 (ix x3)) (fun o7 => (lt_ (fun (x9 : Int32) (h10 : z_Hp) => (lt_ (x3 + 1) (fun x11 => (c_X9_textsThere_L4 F a1 n x9 x11 h10)))) (fun (j21_8 : Int32 → z_Hp → Option (Int32 × z_Hp)) => (nl o7 (j21_8 x2 h4) (fun a12 => (lt_ (x2 + 1) (fun x13 => (j21_8 x13 h4))))))))) else none))))) else none))
def c_X9_textsThere (F : Nat) (a0 : Nat) (h0 : z_Hp) : Option (Int32 × z_Hp) := (c_X9_textsThere_L4 F a0 F 0 0 h0)
set_option maxRecDepth 20000 in
set_option maxHeartbeats 4000000 in
theorem g_X9_textsThere_L4 (F : Nat) (a1 : Nat) : ∀ (n : Nat) (x2 : Int32) (x3 : Int32) (h4 : z_Hp), z_G zi mi_X9_textsThere 4 [(0, vr (some a1)), (1, vi x2), (2, vi x3)] [] h4 (c_X9_textsThere_L4 F a1 n x2 x3 h4) := by
  intro n
  induction n with
  | zero => intro x2 x3 h4; rw [c_X9_textsThere_L4]; exact z_none
  | succ n ih =>
    intro x2 x3 h4
    rw [c_X9_textsThere_L4]
    refine z_iload_n (pc := 4) dX9_textsThere_4 rfl 2 rfl (z_iconst (pc := 5) dX9_textsThere_5 ic_4 (?_))
    refine z_icmp_ge (pc := 6) (tgt := 27) dX9_textsThere_6 (by decide) ?_ ?_
    · refine z_iload_n (pc := 27) dX9_textsThere_27 rfl 1 rfl (?_)
      exact z_iret (pc := 28) dX9_textsThere_28 rfl rfl
    · refine z_aload_n (pc := 9) dX9_textsThere_9 rfl 0 rfl (z_getRl (pc := 10) fl_RX9_17 rfl dX9_textsThere_10 (fun o5 => (z_iload_n (pc := 13) dX9_textsThere_13 rfl 2 rfl (?_))))
      refine z_nn (fun a6 ea6 => ?_)
      subst ea6
      refine z_aaloadl (pc := 14) 24 (by decide) dX9_textsThere_14 (fun o7 => (?_))
      refine z_jn (P := fun (j : Int32 → z_Hp → Option (Int32 × z_Hp)) => ∀ (x9 : Int32) (h10 : z_Hp), z_G zi mi_X9_textsThere 21 [(0, vr (some a1)), (1, vi x9), (2, vi x3)] [] h10 (j x9 h10)) (fun x9 h10 => ?_) (fun j21_8 qj21_8 => ?_)
      · refine z_iincl (pc := 21) (L' := fun x11 => [(0, vr (some a1)), (1, vi x9), (2, vi x11)]) dX9_textsThere_21 2 rfl ic_1 (Nat.le_of_ble_eq_true rfl) (fun _ => rfl) (fun x11 => (z_goto (pc := 24) (tgt := 4) dX9_textsThere_24 (by decide) (?_)))
        exact ih x9 x11 h10
      refine z_ifnull (pc := 15) (tgt := 21) dX9_textsThere_15 (by decide) (fun ea12 => ?_) (fun a12 ea12 => ?_)
      · subst ea12
        exact qj21_8 x2 h4
      · subst ea12
        refine z_iincl (pc := 18) (L' := fun x13 => [(0, vr (some a1)), (1, vi x13), (2, vi x3)]) dX9_textsThere_18 1 rfl ic_1 (Nat.le_of_ble_eq_true rfl) (fun _ => rfl) (fun x13 => (?_))
        exact qj21_8 x13 h4
set_option maxRecDepth 20000 in
set_option maxHeartbeats 4000000 in
theorem t_X9_textsThere (F : Nat) (a0 : Nat) (h0 : z_Hp) : z_Ct zi mi_X9_textsThere [vr (some a0)] h0 (c_X9_textsThere F a0 h0) := by
  refine z_entry (by decide) (Nat.le_of_ble_eq_true rfl) [(0, vr (some a0))] rfl ?_
  unfold c_X9_textsThere
  refine z_iconst (pc := 0) dX9_textsThere_0 ic_0 (z_istore_n (pc := 1) (L' := [(0, vr (some a0)), (1, vi 0)]) dX9_textsThere_1 rfl (Nat.le_of_ble_eq_true rfl) rfl (z_iconst (pc := 2) dX9_textsThere_2 ic_0 (z_istore_n (pc := 3) (L' := [(0, vr (some a0)), (1, vi 0), (2, vi 0)]) dX9_textsThere_3 rfl (Nat.le_of_ble_eq_true rfl) rfl (?_))))
  refine g_X9_textsThere_L4 F a0 F 0 0 h0
theorem dX9_rowsThere_0 : decode cX9_rowsThere 0 = .ok (.iconst 0, 1) := by decide +kernel
theorem dX9_rowsThere_1 : decode cX9_rowsThere 1 = .ok (.istore_n 1, 1) := by decide +kernel
theorem dX9_rowsThere_2 : decode cX9_rowsThere 2 = .ok (.iconst 0, 1) := by decide +kernel
theorem dX9_rowsThere_3 : decode cX9_rowsThere 3 = .ok (.istore_n 2, 1) := by decide +kernel
theorem dX9_rowsThere_4 : decode cX9_rowsThere 4 = .ok (.iload_n 2, 1) := by decide +kernel
theorem dX9_rowsThere_5 : decode cX9_rowsThere 5 = .ok (.aload_n 0, 1) := by decide +kernel
theorem dX9_rowsThere_6 : decode cX9_rowsThere 6 = .ok (.arraylength, 1) := by decide +kernel
theorem dX9_rowsThere_7 : decode cX9_rowsThere 7 = .ok (.if_icmp .ge 18, 3) := by decide +kernel
theorem dX9_rowsThere_10 : decode cX9_rowsThere 10 = .ok (.aload_n 0, 1) := by decide +kernel
theorem dX9_rowsThere_11 : decode cX9_rowsThere 11 = .ok (.iload_n 2, 1) := by decide +kernel
theorem dX9_rowsThere_12 : decode cX9_rowsThere 12 = .ok (.aaload, 1) := by decide +kernel
theorem dX9_rowsThere_13 : decode cX9_rowsThere 13 = .ok (.ifnull 6, 3) := by decide +kernel
theorem dX9_rowsThere_16 : decode cX9_rowsThere 16 = .ok (.iinc 1 1, 3) := by decide +kernel
theorem dX9_rowsThere_19 : decode cX9_rowsThere 19 = .ok (.iinc 2 1, 3) := by decide +kernel
theorem dX9_rowsThere_22 : decode cX9_rowsThere 22 = .ok (.goto (-18), 3) := by decide +kernel
theorem dX9_rowsThere_25 : decode cX9_rowsThere 25 = .ok (.iload_n 1, 1) := by decide +kernel
theorem dX9_rowsThere_26 : decode cX9_rowsThere 26 = .ok (.ireturn, 1) := by decide +kernel
def c_X9_rowsThere_L4 (F : Nat) (o2 : Option Nat) : Nat → Int32 → Int32 → z_Hp → Option (Int32 × z_Hp)
  | 0, _, _, _ => none
  | n + 1, x3, x4, h5 => (nn o2 (fun a6 => (if okL h5 a6 = true then (if (nI (hN h5 a6)) ≤ x4 then (some (x3, h5)) else (if okA h5 a6 23 x4 = true then (lt_ (hR h5 a6 (ix x4)) (fun o7 => (lt_ (fun (x9 : Int32) (h10 : z_Hp) => (lt_ (x4 + 1) (fun x11 => (c_X9_rowsThere_L4 F o2 n x9 x11 h10)))) (fun (j19_8 : Int32 → z_Hp → Option (Int32 × z_Hp)) => (nl o7 (j19_8 x3 h5) (fun a12 => (lt_ (x3 + 1) (fun x13 => (j19_8 x13 h5))))))))) else none)) else none)))
def c_X9_rowsThere (F : Nat) (o1 : Option Nat) (h0 : z_Hp) : Option (Int32 × z_Hp) := (c_X9_rowsThere_L4 F o1 F 0 0 h0)
set_option maxRecDepth 20000 in
set_option maxHeartbeats 4000000 in
theorem g_X9_rowsThere_L4 (F : Nat) (o2 : Option Nat) : ∀ (n : Nat) (x3 : Int32) (x4 : Int32) (h5 : z_Hp), z_G zi mi_X9_rowsThere 4 [(0, vr o2), (1, vi x3), (2, vi x4)] [] h5 (c_X9_rowsThere_L4 F o2 n x3 x4 h5) := by
  intro n
  induction n with
  | zero => intro x3 x4 h5; rw [c_X9_rowsThere_L4]; exact z_none
  | succ n ih =>
    intro x3 x4 h5
    rw [c_X9_rowsThere_L4]
    refine z_iload_n (pc := 4) dX9_rowsThere_4 rfl 2 rfl (z_aload_n (pc := 5) dX9_rowsThere_5 rfl 0 rfl (?_))
    refine z_nn (fun a6 ea6 => ?_)
    subst ea6
    refine z_alen (pc := 6) dX9_rowsThere_6 (?_)
    refine z_icmp_ge (pc := 7) (tgt := 25) dX9_rowsThere_7 (by decide) ?_ ?_
    · refine z_iload_n (pc := 25) dX9_rowsThere_25 rfl 1 rfl (?_)
      exact z_iret (pc := 26) dX9_rowsThere_26 rfl rfl
    · refine z_aload_n (pc := 10) dX9_rowsThere_10 rfl 0 rfl (z_iload_n (pc := 11) dX9_rowsThere_11 rfl 2 rfl (z_aaloadl (pc := 12) 23 (by decide) dX9_rowsThere_12 (fun o7 => (?_))))
      refine z_jn (P := fun (j : Int32 → z_Hp → Option (Int32 × z_Hp)) => ∀ (x9 : Int32) (h10 : z_Hp), z_G zi mi_X9_rowsThere 19 [(0, vr (some a6)), (1, vi x9), (2, vi x4)] [] h10 (j x9 h10)) (fun x9 h10 => ?_) (fun j19_8 qj19_8 => ?_)
      · refine z_iincl (pc := 19) (L' := fun x11 => [(0, vr (some a6)), (1, vi x9), (2, vi x11)]) dX9_rowsThere_19 2 rfl ic_1 (Nat.le_of_ble_eq_true rfl) (fun _ => rfl) (fun x11 => (z_goto (pc := 22) (tgt := 4) dX9_rowsThere_22 (by decide) (?_)))
        exact ih x9 x11 h10
      refine z_ifnull (pc := 13) (tgt := 19) dX9_rowsThere_13 (by decide) (fun ea12 => ?_) (fun a12 ea12 => ?_)
      · subst ea12
        exact qj19_8 x3 h5
      · subst ea12
        refine z_iincl (pc := 16) (L' := fun x13 => [(0, vr (some a6)), (1, vi x13), (2, vi x4)]) dX9_rowsThere_16 1 rfl ic_1 (Nat.le_of_ble_eq_true rfl) (fun _ => rfl) (fun x13 => (?_))
        exact qj19_8 x13 h5
set_option maxRecDepth 20000 in
set_option maxHeartbeats 4000000 in
theorem t_X9_rowsThere (F : Nat) (o1 : Option Nat) (h0 : z_Hp) : z_Ct zi mi_X9_rowsThere [vr o1] h0 (c_X9_rowsThere F o1 h0) := by
  refine z_entry (by decide) (Nat.le_of_ble_eq_true rfl) [(0, vr o1)] rfl ?_
  unfold c_X9_rowsThere
  refine z_iconst (pc := 0) dX9_rowsThere_0 ic_0 (z_istore_n (pc := 1) (L' := [(0, vr o1), (1, vi 0)]) dX9_rowsThere_1 rfl (Nat.le_of_ble_eq_true rfl) rfl (z_iconst (pc := 2) dX9_rowsThere_2 ic_0 (z_istore_n (pc := 3) (L' := [(0, vr o1), (1, vi 0), (2, vi 0)]) dX9_rowsThere_3 rfl (Nat.le_of_ble_eq_true rfl) rfl (?_))))
  refine g_X9_rowsThere_L4 F o1 F 0 0 h0
theorem dX9_songsThere_0 : decode cX9_songsThere 0 = .ok (.iconst 0, 1) := by decide +kernel
theorem dX9_songsThere_1 : decode cX9_songsThere 1 = .ok (.istore_n 1, 1) := by decide +kernel
theorem dX9_songsThere_2 : decode cX9_songsThere 2 = .ok (.iconst 0, 1) := by decide +kernel
theorem dX9_songsThere_3 : decode cX9_songsThere 3 = .ok (.istore_n 2, 1) := by decide +kernel
theorem dX9_songsThere_4 : decode cX9_songsThere 4 = .ok (.iload_n 2, 1) := by decide +kernel
theorem dX9_songsThere_5 : decode cX9_songsThere 5 = .ok (.bipush 10, 2) := by decide +kernel
theorem dX9_songsThere_7 : decode cX9_songsThere 7 = .ok (.if_icmp .ge 21, 3) := by decide +kernel
theorem dX9_songsThere_10 : decode cX9_songsThere 10 = .ok (.aload_n 0, 1) := by decide +kernel
theorem dX9_songsThere_11 : decode cX9_songsThere 11 = .ok (.getfield 23, 3) := by decide +kernel
theorem dX9_songsThere_14 : decode cX9_songsThere 14 = .ok (.iload_n 2, 1) := by decide +kernel
theorem dX9_songsThere_15 : decode cX9_songsThere 15 = .ok (.aaload, 1) := by decide +kernel
theorem dX9_songsThere_16 : decode cX9_songsThere 16 = .ok (.ifnull 6, 3) := by decide +kernel
theorem dX9_songsThere_19 : decode cX9_songsThere 19 = .ok (.iinc 1 1, 3) := by decide +kernel
theorem dX9_songsThere_22 : decode cX9_songsThere 22 = .ok (.iinc 2 1, 3) := by decide +kernel
theorem dX9_songsThere_25 : decode cX9_songsThere 25 = .ok (.goto (-21), 3) := by decide +kernel
theorem dX9_songsThere_28 : decode cX9_songsThere 28 = .ok (.iload_n 1, 1) := by decide +kernel
theorem dX9_songsThere_29 : decode cX9_songsThere 29 = .ok (.ireturn, 1) := by decide +kernel
def c_X9_songsThere_L4 (F : Nat) (a1 : Nat) : Nat → Int32 → Int32 → z_Hp → Option (Int32 × z_Hp)
  | 0, _, _, _ => none
  | n + 1, x2, x3, h4 => (if 10 ≤ x3 then (some (x2, h4)) else (if hT h4 a1 = 9 then (lt_ (hR h4 a1 2) (fun o5 => (nn o5 (fun a6 => (if okA h4 a6 25 x3 = true then (lt_ (hR h4 a6 (ix x3)) (fun o7 => (lt_ (fun (x9 : Int32) (h10 : z_Hp) => (lt_ (x3 + 1) (fun x11 => (c_X9_songsThere_L4 F a1 n x9 x11 h10)))) (fun (j22_8 : Int32 → z_Hp → Option (Int32 × z_Hp)) => (nl o7 (j22_8 x2 h4) (fun a12 => (lt_ (x2 + 1) (fun x13 => (j22_8 x13 h4))))))))) else none))))) else none))
def c_X9_songsThere (F : Nat) (a0 : Nat) (h0 : z_Hp) : Option (Int32 × z_Hp) := (c_X9_songsThere_L4 F a0 F 0 0 h0)
set_option maxRecDepth 20000 in
set_option maxHeartbeats 4000000 in
theorem g_X9_songsThere_L4 (F : Nat) (a1 : Nat) : ∀ (n : Nat) (x2 : Int32) (x3 : Int32) (h4 : z_Hp), z_G zi mi_X9_songsThere 4 [(0, vr (some a1)), (1, vi x2), (2, vi x3)] [] h4 (c_X9_songsThere_L4 F a1 n x2 x3 h4) := by
  intro n
  induction n with
  | zero => intro x2 x3 h4; rw [c_X9_songsThere_L4]; exact z_none
  | succ n ih =>
    intro x2 x3 h4
    rw [c_X9_songsThere_L4]
    refine z_iload_n (pc := 4) dX9_songsThere_4 rfl 2 rfl (z_bipush (pc := 5) dX9_songsThere_5 bp_10 (?_))
    refine z_icmp_ge (pc := 7) (tgt := 28) dX9_songsThere_7 (by decide) ?_ ?_
    · refine z_iload_n (pc := 28) dX9_songsThere_28 rfl 1 rfl (?_)
      exact z_iret (pc := 29) dX9_songsThere_29 rfl rfl
    · refine z_aload_n (pc := 10) dX9_songsThere_10 rfl 0 rfl (z_getRl (pc := 11) fl_RX9_23 rfl dX9_songsThere_11 (fun o5 => (z_iload_n (pc := 14) dX9_songsThere_14 rfl 2 rfl (?_))))
      refine z_nn (fun a6 ea6 => ?_)
      subst ea6
      refine z_aaloadl (pc := 15) 25 (by decide) dX9_songsThere_15 (fun o7 => (?_))
      refine z_jn (P := fun (j : Int32 → z_Hp → Option (Int32 × z_Hp)) => ∀ (x9 : Int32) (h10 : z_Hp), z_G zi mi_X9_songsThere 22 [(0, vr (some a1)), (1, vi x9), (2, vi x3)] [] h10 (j x9 h10)) (fun x9 h10 => ?_) (fun j22_8 qj22_8 => ?_)
      · refine z_iincl (pc := 22) (L' := fun x11 => [(0, vr (some a1)), (1, vi x9), (2, vi x11)]) dX9_songsThere_22 2 rfl ic_1 (Nat.le_of_ble_eq_true rfl) (fun _ => rfl) (fun x11 => (z_goto (pc := 25) (tgt := 4) dX9_songsThere_25 (by decide) (?_)))
        exact ih x9 x11 h10
      refine z_ifnull (pc := 16) (tgt := 22) dX9_songsThere_16 (by decide) (fun ea12 => ?_) (fun a12 ea12 => ?_)
      · subst ea12
        exact qj22_8 x2 h4
      · subst ea12
        refine z_iincl (pc := 19) (L' := fun x13 => [(0, vr (some a1)), (1, vi x13), (2, vi x3)]) dX9_songsThere_19 1 rfl ic_1 (Nat.le_of_ble_eq_true rfl) (fun _ => rfl) (fun x13 => (?_))
        exact qj22_8 x13 h4
set_option maxRecDepth 20000 in
set_option maxHeartbeats 4000000 in
theorem t_X9_songsThere (F : Nat) (a0 : Nat) (h0 : z_Hp) : z_Ct zi mi_X9_songsThere [vr (some a0)] h0 (c_X9_songsThere F a0 h0) := by
  refine z_entry (by decide) (Nat.le_of_ble_eq_true rfl) [(0, vr (some a0))] rfl ?_
  unfold c_X9_songsThere
  refine z_iconst (pc := 0) dX9_songsThere_0 ic_0 (z_istore_n (pc := 1) (L' := [(0, vr (some a0)), (1, vi 0)]) dX9_songsThere_1 rfl (Nat.le_of_ble_eq_true rfl) rfl (z_iconst (pc := 2) dX9_songsThere_2 ic_0 (z_istore_n (pc := 3) (L' := [(0, vr (some a0)), (1, vi 0), (2, vi 0)]) dX9_songsThere_3 rfl (Nat.le_of_ble_eq_true rfl) rfl (?_))))
  refine g_X9_songsThere_L4 F a0 F 0 0 h0
theorem dX9_count_0 : decode cX9_count 0 = .ok (.iload_n 1, 1) := by decide +kernel
theorem dX9_count_1 : decode cX9_count 1 = .ok (.tableswitch 102 0 7 #[47, 52, 57, 65, 73, 81, 89, 97], 47) := by decide +kernel
theorem dX9_count_48 : decode cX9_count 48 = .ok (.aload_n 0, 1) := by decide +kernel
theorem dX9_count_49 : decode cX9_count 49 = .ok (.getfield 111, 3) := by decide +kernel
theorem dX9_count_52 : decode cX9_count 52 = .ok (.ireturn, 1) := by decide +kernel
theorem dX9_count_53 : decode cX9_count 53 = .ok (.aload_n 0, 1) := by decide +kernel
theorem dX9_count_54 : decode cX9_count 54 = .ok (.invokevirtual 401, 3) := by decide +kernel
theorem dX9_count_57 : decode cX9_count 57 = .ok (.ireturn, 1) := by decide +kernel
theorem dX9_count_58 : decode cX9_count 58 = .ok (.aload_n 0, 1) := by decide +kernel
theorem dX9_count_59 : decode cX9_count 59 = .ok (.getfield 27, 3) := by decide +kernel
theorem dX9_count_62 : decode cX9_count 62 = .ok (.invokestatic 404, 3) := by decide +kernel
theorem dX9_count_65 : decode cX9_count 65 = .ok (.ireturn, 1) := by decide +kernel
theorem dX9_count_66 : decode cX9_count 66 = .ok (.aload_n 0, 1) := by decide +kernel
theorem dX9_count_67 : decode cX9_count 67 = .ok (.getfield 40, 3) := by decide +kernel
theorem dX9_count_70 : decode cX9_count 70 = .ok (.getfield 198, 3) := by decide +kernel
theorem dX9_count_73 : decode cX9_count 73 = .ok (.ireturn, 1) := by decide +kernel
theorem dX9_count_74 : decode cX9_count 74 = .ok (.aload_n 0, 1) := by decide +kernel
theorem dX9_count_75 : decode cX9_count 75 = .ok (.getfield 33, 3) := by decide +kernel
theorem dX9_count_78 : decode cX9_count 78 = .ok (.getfield 170, 3) := by decide +kernel
theorem dX9_count_81 : decode cX9_count 81 = .ok (.ireturn, 1) := by decide +kernel
theorem dX9_count_82 : decode cX9_count 82 = .ok (.aload_n 0, 1) := by decide +kernel
theorem dX9_count_83 : decode cX9_count 83 = .ok (.getfield 68, 3) := by decide +kernel
theorem dX9_count_86 : decode cX9_count 86 = .ok (.getfield 362, 3) := by decide +kernel
theorem dX9_count_89 : decode cX9_count 89 = .ok (.ireturn, 1) := by decide +kernel
theorem dX9_count_90 : decode cX9_count 90 = .ok (.aload_n 0, 1) := by decide +kernel
theorem dX9_count_91 : decode cX9_count 91 = .ok (.getfield 11, 3) := by decide +kernel
theorem dX9_count_94 : decode cX9_count 94 = .ok (.invokestatic 404, 3) := by decide +kernel
theorem dX9_count_97 : decode cX9_count 97 = .ok (.ireturn, 1) := by decide +kernel
theorem dX9_count_98 : decode cX9_count 98 = .ok (.aload_n 0, 1) := by decide +kernel
theorem dX9_count_99 : decode cX9_count 99 = .ok (.invokevirtual 408, 3) := by decide +kernel
theorem dX9_count_102 : decode cX9_count 102 = .ok (.ireturn, 1) := by decide +kernel
theorem dX9_count_103 : decode cX9_count 103 = .ok (.iconst (-1), 1) := by decide +kernel
theorem dX9_count_104 : decode cX9_count 104 = .ok (.ireturn, 1) := by decide +kernel
def c_X9_count (F : Nat) (a0 : Nat) (x1 : Int32) (h0 : z_Hp) : Option (Int32 × z_Hp) := (if (x1 : Int32).toInt < 0 ∨ 7 < (x1 : Int32).toInt then (some ((-1), h0)) else (if x1 = 0 then (if hT h0 a0 = 9 then (some (hI h0 a0 4, h0)) else none) else (if x1 = 1 then (if hT h0 a0 = 9 then (bI (c_X9_songsThere F a0 h0) (fun x3 h2 => (some (x3, h2)))) else none) else (if x1 = 2 then (if hT h0 a0 = 9 then (lt_ (hR h0 a0 3) (fun o4 => (bI (c_X9_rowsThere F o4 h0) (fun x6 h5 => (some (x6, h5)))))) else none) else (if x1 = 3 then (if hT h0 a0 = 9 then (lt_ (hR h0 a0 6) (fun o7 => (nn o7 (fun a8 => (if hT h0 a8 = 6 then (some (hI h0 a8 1, h0)) else none))))) else none) else (if x1 = 4 then (if hT h0 a0 = 9 then (lt_ (hR h0 a0 5) (fun o9 => (nn o9 (fun a10 => (if hT h0 a10 = 3 then (some (hI h0 a10 3, h0)) else none))))) else none) else (if x1 = 5 then (if hT h0 a0 = 9 then (lt_ (hR h0 a0 10) (fun o11 => (nn o11 (fun a12 => (if hT h0 a12 = 2 then (some (hI h0 a12 4, h0)) else none))))) else none) else (if x1 = 6 then (if hT h0 a0 = 9 then (lt_ (hR h0 a0 0) (fun o13 => (bI (c_X9_rowsThere F o13 h0) (fun x15 h14 => (some (x15, h14)))))) else none) else (if x1 = 7 then (if hT h0 a0 = 9 then (bI (c_X9_textsThere F a0 h0) (fun x17 h16 => (some (x17, h16)))) else none) else none)))))))))
set_option maxRecDepth 20000 in
set_option maxHeartbeats 4000000 in
theorem t_X9_count (F : Nat) (a0 : Nat) (x1 : Int32) (h0 : z_Hp) : z_Ct zi mi_X9_count [vr (some a0), vi x1] h0 (c_X9_count F a0 x1 h0) := by
  refine z_entry (by decide) (Nat.le_of_ble_eq_true rfl) [(0, vr (some a0)), (1, vi x1)] rfl ?_
  unfold c_X9_count
  refine z_iload_n (pc := 0) dX9_count_0 rfl 1 rfl (?_)
  refine z_ite (fun e => z_tblOut (tgt := 103) dX9_count_1 e (by decide) ?_) (fun e => ?_)
  · refine z_iconst (pc := 103) dX9_count_103 ic_m1 (?_)
    exact z_iret (pc := 104) dX9_count_104 rfl rfl
  refine z_ite (fun e => z_tblC (tgt := 48) (off := 47) e dX9_count_1 (by decide) (by decide) (by decide) (by decide) ?_) (fun _ => ?_)
  · refine z_aload_n (pc := 48) dX9_count_48 rfl 0 rfl (z_getI (pc := 49) fl_RX9_111 rfl dX9_count_49 (?_))
    exact z_iret (pc := 52) dX9_count_52 rfl rfl
  refine z_ite (fun e => z_tblC (tgt := 53) (off := 52) e dX9_count_1 (by decide) (by decide) (by decide) (by decide) ?_) (fun _ => ?_)
  · refine z_aload_n (pc := 53) dX9_count_53 rfl 0 rfl (z_callV_I (pc := 54) (avs := []) (st := []) rfl (q := (RX9, TX9, 18)) rfl rfl (t_X9_songsThere F a0 h0) ky_X9_songsThere wm_X9_songsThere we_X9_songsThere wz_RX9_401 (rm_X9_count_X9_songsThere) (Nat.le_of_ble_eq_true rfl) dX9_count_54 (fun x3 h2 => (?_)))
    exact z_iret (pc := 57) dX9_count_57 rfl rfl
  refine z_ite (fun e => z_tblC (tgt := 58) (off := 57) e dX9_count_1 (by decide) (by decide) (by decide) (by decide) ?_) (fun _ => ?_)
  · refine z_aload_n (pc := 58) dX9_count_58 rfl 0 rfl (z_getRl (pc := 59) fl_RX9_27 rfl dX9_count_59 (fun o4 => (z_callS_I (pc := 62) (avs := [vr o4]) (st := []) rfl (t_X9_rowsThere F o4 h0) ky_X9_rowsThere ws_X9_rowsThere wz_RX9_404 (rm_X9_count_X9_rowsThere) (Nat.le_of_ble_eq_true rfl) dX9_count_62 (fun x6 h5 => (?_)))))
    exact z_iret (pc := 65) dX9_count_65 rfl rfl
  refine z_ite (fun e => z_tblC (tgt := 66) (off := 65) e dX9_count_1 (by decide) (by decide) (by decide) (by decide) ?_) (fun _ => ?_)
  · refine z_aload_n (pc := 66) dX9_count_66 rfl 0 rfl (z_getRl (pc := 67) fl_RX9_40 rfl dX9_count_67 (fun o7 => (?_)))
    refine z_nn (fun a8 ea8 => ?_)
    subst ea8
    refine z_getI (pc := 70) fl_RX9_198 rfl dX9_count_70 (?_)
    exact z_iret (pc := 73) dX9_count_73 rfl rfl
  refine z_ite (fun e => z_tblC (tgt := 74) (off := 73) e dX9_count_1 (by decide) (by decide) (by decide) (by decide) ?_) (fun _ => ?_)
  · refine z_aload_n (pc := 74) dX9_count_74 rfl 0 rfl (z_getRl (pc := 75) fl_RX9_33 rfl dX9_count_75 (fun o9 => (?_)))
    refine z_nn (fun a10 ea10 => ?_)
    subst ea10
    refine z_getI (pc := 78) fl_RX9_170 rfl dX9_count_78 (?_)
    exact z_iret (pc := 81) dX9_count_81 rfl rfl
  refine z_ite (fun e => z_tblC (tgt := 82) (off := 81) e dX9_count_1 (by decide) (by decide) (by decide) (by decide) ?_) (fun _ => ?_)
  · refine z_aload_n (pc := 82) dX9_count_82 rfl 0 rfl (z_getRl (pc := 83) fl_RX9_68 rfl dX9_count_83 (fun o11 => (?_)))
    refine z_nn (fun a12 ea12 => ?_)
    subst ea12
    refine z_getI (pc := 86) fl_RX9_362 rfl dX9_count_86 (?_)
    exact z_iret (pc := 89) dX9_count_89 rfl rfl
  refine z_ite (fun e => z_tblC (tgt := 90) (off := 89) e dX9_count_1 (by decide) (by decide) (by decide) (by decide) ?_) (fun _ => ?_)
  · refine z_aload_n (pc := 90) dX9_count_90 rfl 0 rfl (z_getRl (pc := 91) fl_RX9_11 rfl dX9_count_91 (fun o13 => (z_callS_I (pc := 94) (avs := [vr o13]) (st := []) rfl (t_X9_rowsThere F o13 h0) ky_X9_rowsThere ws_X9_rowsThere wz_RX9_404 (rm_X9_count_X9_rowsThere) (Nat.le_of_ble_eq_true rfl) dX9_count_94 (fun x15 h14 => (?_)))))
    exact z_iret (pc := 97) dX9_count_97 rfl rfl
  refine z_ite (fun e => z_tblC (tgt := 98) (off := 97) e dX9_count_1 (by decide) (by decide) (by decide) (by decide) ?_) (fun _ => ?_)
  · refine z_aload_n (pc := 98) dX9_count_98 rfl 0 rfl (z_callV_I (pc := 99) (avs := []) (st := []) rfl (q := (RX9, TX9, 18)) rfl rfl (t_X9_textsThere F a0 h0) ky_X9_textsThere wm_X9_textsThere we_X9_textsThere wz_RX9_408 (rm_X9_count_X9_textsThere) (Nat.le_of_ble_eq_true rfl) dX9_count_99 (fun x17 h16 => (?_)))
    exact z_iret (pc := 102) dX9_count_102 rfl rfl
  exact z_none
theorem dX9_finding_0 : decode cX9_finding 0 = .ok (.aload_n 0, 1) := by decide +kernel
theorem dX9_finding_1 : decode cX9_finding 1 = .ok (.getfield 411, 3) := by decide +kernel
theorem dX9_finding_4 : decode cX9_finding 4 = .ok (.ireturn, 1) := by decide +kernel
def c_X9_finding (F : Nat) (a0 : Nat) (h0 : z_Hp) : Option (Int32 × z_Hp) := (if hT h0 a0 = 9 then (some (hI h0 a0 12, h0)) else none)
set_option maxRecDepth 20000 in
set_option maxHeartbeats 4000000 in
theorem t_X9_finding (F : Nat) (a0 : Nat) (h0 : z_Hp) : z_Ct zi mi_X9_finding [vr (some a0)] h0 (c_X9_finding F a0 h0) := by
  refine z_entry (by decide) (Nat.le_of_ble_eq_true rfl) [(0, vr (some a0))] rfl ?_
  unfold c_X9_finding
  refine z_aload_n (pc := 0) dX9_finding_0 rfl 0 rfl (z_getI (pc := 1) fl_RX9_411 rfl dX9_finding_1 (?_))
  exact z_iret (pc := 4) dX9_finding_4 rfl rfl
theorem dX9_findings_0 : decode cX9_findings 0 = .ok (.iload_n 1, 1) := by decide +kernel
theorem dX9_findings_1 : decode cX9_findings 1 = .ok (.iconst 1, 1) := by decide +kernel
theorem dX9_findings_2 : decode cX9_findings 2 = .ok (.if_icmp .lt 8, 3) := by decide +kernel
theorem dX9_findings_5 : decode cX9_findings 5 = .ok (.iload_n 1, 1) := by decide +kernel
theorem dX9_findings_6 : decode cX9_findings 6 = .ok (.iconst 5, 1) := by decide +kernel
theorem dX9_findings_7 : decode cX9_findings 7 = .ok (.if_icmp .le 5, 3) := by decide +kernel
theorem dX9_findings_10 : decode cX9_findings 10 = .ok (.iconst (-1), 1) := by decide +kernel
theorem dX9_findings_11 : decode cX9_findings 11 = .ok (.ireturn, 1) := by decide +kernel
theorem dX9_findings_12 : decode cX9_findings 12 = .ok (.aload_n 0, 1) := by decide +kernel
theorem dX9_findings_13 : decode cX9_findings 13 = .ok (.getfield 79, 3) := by decide +kernel
theorem dX9_findings_16 : decode cX9_findings 16 = .ok (.iload_n 1, 1) := by decide +kernel
theorem dX9_findings_17 : decode cX9_findings 17 = .ok (.iaload, 1) := by decide +kernel
theorem dX9_findings_18 : decode cX9_findings 18 = .ok (.ireturn, 1) := by decide +kernel
def c_X9_findings (F : Nat) (a0 : Nat) (x1 : Int32) (h0 : z_Hp) : Option (Int32 × z_Hp) := (if x1 < 1 then (some ((-1), h0)) else (if x1 ≤ 5 then (if hT h0 a0 = 9 then (lt_ (hR h0 a0 13) (fun o2 => (nn o2 (fun a3 => (if okA h0 a3 20 x1 = true then (some (hI h0 a3 (ix x1), h0)) else none))))) else none) else (some ((-1), h0))))
set_option maxRecDepth 20000 in
set_option maxHeartbeats 4000000 in
theorem t_X9_findings (F : Nat) (a0 : Nat) (x1 : Int32) (h0 : z_Hp) : z_Ct zi mi_X9_findings [vr (some a0), vi x1] h0 (c_X9_findings F a0 x1 h0) := by
  refine z_entry (by decide) (Nat.le_of_ble_eq_true rfl) [(0, vr (some a0)), (1, vi x1)] rfl ?_
  unfold c_X9_findings
  refine z_iload_n (pc := 0) dX9_findings_0 rfl 1 rfl (z_iconst (pc := 1) dX9_findings_1 ic_1 (?_))
  refine z_icmp_lt (pc := 2) (tgt := 10) dX9_findings_2 (by decide) ?_ ?_
  · refine z_iconst (pc := 10) dX9_findings_10 ic_m1 (?_)
    exact z_iret (pc := 11) dX9_findings_11 rfl rfl
  · refine z_iload_n (pc := 5) dX9_findings_5 rfl 1 rfl (z_iconst (pc := 6) dX9_findings_6 ic_5 (?_))
    refine z_icmp_le (pc := 7) (tgt := 12) dX9_findings_7 (by decide) ?_ ?_
    · refine z_aload_n (pc := 12) dX9_findings_12 rfl 0 rfl (z_getRl (pc := 13) fl_RX9_79 rfl dX9_findings_13 (fun o2 => (z_iload_n (pc := 16) dX9_findings_16 rfl 1 rfl (?_))))
      refine z_nn (fun a3 ea3 => ?_)
      subst ea3
      refine z_iaload (pc := 17) dX9_findings_17 (?_)
      exact z_iret (pc := 18) dX9_findings_18 rfl rfl
    · refine z_iconst (pc := 10) dX9_findings_10 ic_m1 (?_)
      exact z_iret (pc := 11) dX9_findings_11 rfl rfl
theorem dX9_mixText_0 : decode cX9_mixText 0 = .ok (.aload_n 2, 1) := by decide +kernel
theorem dX9_mixText_1 : decode cX9_mixText 1 = .ok (.ifnonnull 9, 3) := by decide +kernel
theorem dX9_mixText_4 : decode cX9_mixText 4 = .ok (.lload_n 0, 1) := by decide +kernel
theorem dX9_mixText_5 : decode cX9_mixText 5 = .ok (.iconst (-1), 1) := by decide +kernel
theorem dX9_mixText_6 : decode cX9_mixText 6 = .ok (.invokestatic 419, 3) := by decide +kernel
theorem dX9_mixText_9 : decode cX9_mixText 9 = .ok (.lreturn, 1) := by decide +kernel
theorem dX9_mixText_10 : decode cX9_mixText 10 = .ok (.lload_n 0, 1) := by decide +kernel
theorem dX9_mixText_11 : decode cX9_mixText 11 = .ok (.aload_n 2, 1) := by decide +kernel
theorem dX9_mixText_12 : decode cX9_mixText 12 = .ok (.arraylength, 1) := by decide +kernel
theorem dX9_mixText_13 : decode cX9_mixText 13 = .ok (.invokestatic 419, 3) := by decide +kernel
theorem dX9_mixText_16 : decode cX9_mixText 16 = .ok (.lstore_n 3, 1) := by decide +kernel
theorem dX9_mixText_17 : decode cX9_mixText 17 = .ok (.iconst 0, 1) := by decide +kernel
theorem dX9_mixText_18 : decode cX9_mixText 18 = .ok (.istore 5, 2) := by decide +kernel
theorem dX9_mixText_20 : decode cX9_mixText 20 = .ok (.iload 5, 2) := by decide +kernel
theorem dX9_mixText_22 : decode cX9_mixText 22 = .ok (.aload_n 2, 1) := by decide +kernel
theorem dX9_mixText_23 : decode cX9_mixText 23 = .ok (.arraylength, 1) := by decide +kernel
theorem dX9_mixText_24 : decode cX9_mixText 24 = .ok (.if_icmp .ge 18, 3) := by decide +kernel
theorem dX9_mixText_27 : decode cX9_mixText 27 = .ok (.lload_n 3, 1) := by decide +kernel
theorem dX9_mixText_28 : decode cX9_mixText 28 = .ok (.aload_n 2, 1) := by decide +kernel
theorem dX9_mixText_29 : decode cX9_mixText 29 = .ok (.iload 5, 2) := by decide +kernel
theorem dX9_mixText_31 : decode cX9_mixText 31 = .ok (.baload, 1) := by decide +kernel
theorem dX9_mixText_32 : decode cX9_mixText 32 = .ok (.invokestatic 419, 3) := by decide +kernel
theorem dX9_mixText_35 : decode cX9_mixText 35 = .ok (.lstore_n 3, 1) := by decide +kernel
theorem dX9_mixText_36 : decode cX9_mixText 36 = .ok (.iinc 5 1, 3) := by decide +kernel
theorem dX9_mixText_39 : decode cX9_mixText 39 = .ok (.goto (-19), 3) := by decide +kernel
theorem dX9_mixText_42 : decode cX9_mixText 42 = .ok (.lload_n 3, 1) := by decide +kernel
theorem dX9_mixText_43 : decode cX9_mixText 43 = .ok (.lreturn, 1) := by decide +kernel
def c_X9_mixText_L20 (F : Nat) (a8 : Nat) : Nat → Int64 → Int32 → z_Hp → Option (Int64 × z_Hp)
  | 0, _, _, _ => none
  | n + 1, y9, x10, h11 => (if okL h11 a8 = true then (if (nI (hN h11 a8)) ≤ x10 then (some (y9, h11)) else (if okA h11 a8 21 x10 = true then (bL (c_X9_mix F y9 (hI h11 a8 (ix x10)) h11) (fun y13 h12 => (lt_ (x10 + 1) (fun x14 => (c_X9_mixText_L20 F a8 n y13 x14 h12))))) else none)) else none)
def c_X9_mixText (F : Nat) (y1 : Int64) (o2 : Option Nat) (h0 : z_Hp) : Option (Int64 × z_Hp) := (nl o2 (bL (c_X9_mix F y1 (-1) h0) (fun y5 h4 => (some (y5, h4)))) (fun a3 => (if okL h0 a3 = true then (bL (c_X9_mix F y1 (nI (hN h0 a3)) h0) (fun y7 h6 => (c_X9_mixText_L20 F a3 F y7 0 h6))) else none)))
set_option maxRecDepth 20000 in
set_option maxHeartbeats 4000000 in
theorem g_X9_mixText_L20 (F : Nat) (a8 : Nat) : ∀ (n : Nat) (y9 : Int64) (x10 : Int32) (h11 : z_Hp), z_G zl mi_X9_mixText 20 [(2, vr (some a8)), (3, vl y9), (5, vi x10)] [] h11 (c_X9_mixText_L20 F a8 n y9 x10 h11) := by
  intro n
  induction n with
  | zero => intro y9 x10 h11; rw [c_X9_mixText_L20]; exact z_none
  | succ n ih =>
    intro y9 x10 h11
    rw [c_X9_mixText_L20]
    refine z_iload (pc := 20) dX9_mixText_20 2 rfl (z_aload_n (pc := 22) dX9_mixText_22 rfl 0 rfl (z_alen (pc := 23) dX9_mixText_23 (?_)))
    refine z_icmp_ge (pc := 24) (tgt := 42) dX9_mixText_24 (by decide) ?_ ?_
    · refine z_lload_n (pc := 42) dX9_mixText_42 rfl 1 rfl (?_)
      exact z_lret (pc := 43) dX9_mixText_43 rfl
    · refine z_lload_n (pc := 27) dX9_mixText_27 rfl 1 rfl (z_aload_n (pc := 28) dX9_mixText_28 rfl 0 rfl (z_iload (pc := 29) dX9_mixText_29 2 rfl (z_baload (pc := 31) dX9_mixText_31 (z_callS_L (pc := 32) (avs := [vl y9, vi (hI h11 a8 (ix x10))]) (st := []) rfl (t_X9_mix F y9 (hI h11 a8 (ix x10)) h11) ky_X9_mix ws_X9_mix wz_RX9_419 (rm_X9_mixText_X9_mix) (Nat.le_of_ble_eq_true rfl) dX9_mixText_32 (fun y13 h12 => (?_))))))
      refine z_lstore_n (pc := 35) (L' := [(2, vr (some a8)), (3, vl y13), (5, vi x10)]) dX9_mixText_35 rfl (Nat.le_of_ble_eq_true rfl) rfl (z_iincl (pc := 36) (L' := fun x14 => [(2, vr (some a8)), (3, vl y13), (5, vi x14)]) dX9_mixText_36 2 rfl ic_1 (Nat.le_of_ble_eq_true rfl) (fun _ => rfl) (fun x14 => (z_goto (pc := 39) (tgt := 20) dX9_mixText_39 (by decide) (?_))))
      exact ih y13 x14 h12
set_option maxRecDepth 20000 in
set_option maxHeartbeats 4000000 in
theorem t_X9_mixText (F : Nat) (y1 : Int64) (o2 : Option Nat) (h0 : z_Hp) : z_Ct zl mi_X9_mixText [vl y1, vr o2] h0 (c_X9_mixText F y1 o2 h0) := by
  refine z_entry (by decide) (Nat.le_of_ble_eq_true rfl) [(0, vl y1), (2, vr o2)] rfl ?_
  unfold c_X9_mixText
  refine z_aload_n (pc := 0) dX9_mixText_0 rfl 1 rfl (?_)
  refine z_ifnonnull (pc := 1) (tgt := 10) dX9_mixText_1 (by decide) (fun ea3 => ?_) (fun a3 ea3 => ?_)
  · subst ea3
    refine z_lload_n (pc := 4) dX9_mixText_4 rfl 0 rfl (z_iconst (pc := 5) dX9_mixText_5 ic_m1 (z_callS_L (pc := 6) (avs := [vl y1, vi (-1)]) (st := []) rfl (t_X9_mix F y1 (-1) h0) ky_X9_mix ws_X9_mix wz_RX9_419 (rm_X9_mixText_X9_mix) (Nat.le_of_ble_eq_true rfl) dX9_mixText_6 (fun y5 h4 => (?_))))
    exact z_lret (pc := 9) dX9_mixText_9 rfl
  · subst ea3
    refine z_lload_n (pc := 10) dX9_mixText_10 rfl 0 rfl (z_aload_n (pc := 11) dX9_mixText_11 rfl 1 rfl (z_alen (pc := 12) dX9_mixText_12 (z_callS_L (pc := 13) (avs := [vl y1, vi (nI (hN h0 a3))]) (st := []) rfl (t_X9_mix F y1 (nI (hN h0 a3)) h0) ky_X9_mix ws_X9_mix wz_RX9_419 (rm_X9_mixText_X9_mix) (Nat.le_of_ble_eq_true rfl) dX9_mixText_13 (fun y7 h6 => (?_)))))
    refine z_lstore_n (pc := 16) (L' := [(0, vl y1), (2, vr (some a3)), (3, vl y7)]) dX9_mixText_16 rfl (Nat.le_of_ble_eq_true rfl) rfl (z_iconst (pc := 17) dX9_mixText_17 ic_0 (z_istore (pc := 18) (L' := [(0, vl y1), (2, vr (some a3)), (3, vl y7), (5, vi 0)]) dX9_mixText_18 (Nat.le_of_ble_eq_true rfl) rfl (?_)))
    refine z_sub [1, 2, 3] rfl (g_X9_mixText_L20 F a3 F y7 0 h6)
theorem dX9_digest_0 : decode cX9_digest 0 = .ok (.ldc2_w 414, 3) := by decide +kernel
theorem dX9_digest_3 : decode cX9_digest 3 = .ok (.lstore_n 1, 1) := by decide +kernel
theorem dX9_digest_4 : decode cX9_digest 4 = .ok (.iconst 0, 1) := by decide +kernel
theorem dX9_digest_5 : decode cX9_digest 5 = .ok (.istore_n 3, 1) := by decide +kernel
theorem dX9_digest_6 : decode cX9_digest 6 = .ok (.iload_n 3, 1) := by decide +kernel
theorem dX9_digest_7 : decode cX9_digest 7 = .ok (.bipush 8, 2) := by decide +kernel
theorem dX9_digest_9 : decode cX9_digest 9 = .ok (.if_icmp .ge 19, 3) := by decide +kernel
theorem dX9_digest_12 : decode cX9_digest 12 = .ok (.lload_n 1, 1) := by decide +kernel
theorem dX9_digest_13 : decode cX9_digest 13 = .ok (.aload_n 0, 1) := by decide +kernel
theorem dX9_digest_14 : decode cX9_digest 14 = .ok (.iload_n 3, 1) := by decide +kernel
theorem dX9_digest_15 : decode cX9_digest 15 = .ok (.invokevirtual 416, 3) := by decide +kernel
theorem dX9_digest_18 : decode cX9_digest 18 = .ok (.invokestatic 419, 3) := by decide +kernel
theorem dX9_digest_21 : decode cX9_digest 21 = .ok (.lstore_n 1, 1) := by decide +kernel
theorem dX9_digest_22 : decode cX9_digest 22 = .ok (.iinc 3 1, 3) := by decide +kernel
theorem dX9_digest_25 : decode cX9_digest 25 = .ok (.goto (-19), 3) := by decide +kernel
theorem dX9_digest_28 : decode cX9_digest 28 = .ok (.iconst 0, 1) := by decide +kernel
theorem dX9_digest_29 : decode cX9_digest 29 = .ok (.istore_n 3, 1) := by decide +kernel
theorem dX9_digest_30 : decode cX9_digest 30 = .ok (.iload_n 3, 1) := by decide +kernel
theorem dX9_digest_31 : decode cX9_digest 31 = .ok (.bipush 10, 2) := by decide +kernel
theorem dX9_digest_33 : decode cX9_digest 33 = .ok (.if_icmp .ge 36, 3) := by decide +kernel
theorem dX9_digest_36 : decode cX9_digest 36 = .ok (.aload_n 0, 1) := by decide +kernel
theorem dX9_digest_37 : decode cX9_digest 37 = .ok (.getfield 23, 3) := by decide +kernel
theorem dX9_digest_40 : decode cX9_digest 40 = .ok (.iload_n 3, 1) := by decide +kernel
theorem dX9_digest_41 : decode cX9_digest 41 = .ok (.aaload, 1) := by decide +kernel
theorem dX9_digest_42 : decode cX9_digest 42 = .ok (.astore 4, 2) := by decide +kernel
theorem dX9_digest_44 : decode cX9_digest 44 = .ok (.lload_n 1, 1) := by decide +kernel
theorem dX9_digest_45 : decode cX9_digest 45 = .ok (.aload 4, 2) := by decide +kernel
theorem dX9_digest_47 : decode cX9_digest 47 = .ok (.ifnonnull 7, 3) := by decide +kernel
theorem dX9_digest_50 : decode cX9_digest 50 = .ok (.aconst_null, 1) := by decide +kernel
theorem dX9_digest_51 : decode cX9_digest 51 = .ok (.goto 8, 3) := by decide +kernel
theorem dX9_digest_54 : decode cX9_digest 54 = .ok (.aload 4, 2) := by decide +kernel
theorem dX9_digest_56 : decode cX9_digest 56 = .ok (.getfield 423, 3) := by decide +kernel
theorem dX9_digest_59 : decode cX9_digest 59 = .ok (.invokestatic 426, 3) := by decide +kernel
theorem dX9_digest_62 : decode cX9_digest 62 = .ok (.lstore_n 1, 1) := by decide +kernel
theorem dX9_digest_63 : decode cX9_digest 63 = .ok (.iinc 3 1, 3) := by decide +kernel
theorem dX9_digest_66 : decode cX9_digest 66 = .ok (.goto (-36), 3) := by decide +kernel
theorem dX9_digest_69 : decode cX9_digest 69 = .ok (.iconst 0, 1) := by decide +kernel
theorem dX9_digest_70 : decode cX9_digest 70 = .ok (.istore_n 3, 1) := by decide +kernel
theorem dX9_digest_71 : decode cX9_digest 71 = .ok (.iload_n 3, 1) := by decide +kernel
theorem dX9_digest_72 : decode cX9_digest 72 = .ok (.bipush 6, 2) := by decide +kernel
theorem dX9_digest_74 : decode cX9_digest 74 = .ok (.if_icmp .ge 20, 3) := by decide +kernel
theorem dX9_digest_77 : decode cX9_digest 77 = .ok (.lload_n 1, 1) := by decide +kernel
theorem dX9_digest_78 : decode cX9_digest 78 = .ok (.aload_n 0, 1) := by decide +kernel
theorem dX9_digest_79 : decode cX9_digest 79 = .ok (.getfield 27, 3) := by decide +kernel
theorem dX9_digest_82 : decode cX9_digest 82 = .ok (.iload_n 3, 1) := by decide +kernel
theorem dX9_digest_83 : decode cX9_digest 83 = .ok (.aaload, 1) := by decide +kernel
theorem dX9_digest_84 : decode cX9_digest 84 = .ok (.invokestatic 430, 3) := by decide +kernel
theorem dX9_digest_87 : decode cX9_digest 87 = .ok (.lstore_n 1, 1) := by decide +kernel
theorem dX9_digest_88 : decode cX9_digest 88 = .ok (.iinc 3 1, 3) := by decide +kernel
theorem dX9_digest_91 : decode cX9_digest 91 = .ok (.goto (-20), 3) := by decide +kernel
theorem dX9_digest_94 : decode cX9_digest 94 = .ok (.aload_n 0, 1) := by decide +kernel
theorem dX9_digest_95 : decode cX9_digest 95 = .ok (.getfield 54, 3) := by decide +kernel
theorem dX9_digest_98 : decode cX9_digest 98 = .ok (.lload_n 1, 1) := by decide +kernel
theorem dX9_digest_99 : decode cX9_digest 99 = .ok (.invokevirtual 434, 3) := by decide +kernel
theorem dX9_digest_102 : decode cX9_digest 102 = .ok (.lstore_n 1, 1) := by decide +kernel
theorem dX9_digest_103 : decode cX9_digest 103 = .ok (.aload_n 0, 1) := by decide +kernel
theorem dX9_digest_104 : decode cX9_digest 104 = .ok (.getfield 40, 3) := by decide +kernel
theorem dX9_digest_107 : decode cX9_digest 107 = .ok (.lload_n 1, 1) := by decide +kernel
theorem dX9_digest_108 : decode cX9_digest 108 = .ok (.invokevirtual 438, 3) := by decide +kernel
theorem dX9_digest_111 : decode cX9_digest 111 = .ok (.lstore_n 1, 1) := by decide +kernel
theorem dX9_digest_112 : decode cX9_digest 112 = .ok (.aload_n 0, 1) := by decide +kernel
theorem dX9_digest_113 : decode cX9_digest 113 = .ok (.getfield 33, 3) := by decide +kernel
theorem dX9_digest_116 : decode cX9_digest 116 = .ok (.lload_n 1, 1) := by decide +kernel
theorem dX9_digest_117 : decode cX9_digest 117 = .ok (.invokevirtual 441, 3) := by decide +kernel
theorem dX9_digest_120 : decode cX9_digest 120 = .ok (.lstore_n 1, 1) := by decide +kernel
theorem dX9_digest_121 : decode cX9_digest 121 = .ok (.aload_n 0, 1) := by decide +kernel
theorem dX9_digest_122 : decode cX9_digest 122 = .ok (.getfield 68, 3) := by decide +kernel
theorem dX9_digest_125 : decode cX9_digest 125 = .ok (.lload_n 1, 1) := by decide +kernel
theorem dX9_digest_126 : decode cX9_digest 126 = .ok (.invokevirtual 442, 3) := by decide +kernel
theorem dX9_digest_129 : decode cX9_digest 129 = .ok (.lstore_n 1, 1) := by decide +kernel
theorem dX9_digest_130 : decode cX9_digest 130 = .ok (.aload_n 0, 1) := by decide +kernel
theorem dX9_digest_131 : decode cX9_digest 131 = .ok (.getfield 75, 3) := by decide +kernel
theorem dX9_digest_134 : decode cX9_digest 134 = .ok (.lload_n 1, 1) := by decide +kernel
theorem dX9_digest_135 : decode cX9_digest 135 = .ok (.invokevirtual 443, 3) := by decide +kernel
theorem dX9_digest_138 : decode cX9_digest 138 = .ok (.lstore_n 1, 1) := by decide +kernel
theorem dX9_digest_139 : decode cX9_digest 139 = .ok (.iconst 0, 1) := by decide +kernel
theorem dX9_digest_140 : decode cX9_digest 140 = .ok (.istore_n 3, 1) := by decide +kernel
theorem dX9_digest_141 : decode cX9_digest 141 = .ok (.iload_n 3, 1) := by decide +kernel
theorem dX9_digest_142 : decode cX9_digest 142 = .ok (.bipush 6, 2) := by decide +kernel
theorem dX9_digest_144 : decode cX9_digest 144 = .ok (.if_icmp .ge 20, 3) := by decide +kernel
theorem dX9_digest_147 : decode cX9_digest 147 = .ok (.lload_n 1, 1) := by decide +kernel
theorem dX9_digest_148 : decode cX9_digest 148 = .ok (.aload_n 0, 1) := by decide +kernel
theorem dX9_digest_149 : decode cX9_digest 149 = .ok (.getfield 11, 3) := by decide +kernel
theorem dX9_digest_152 : decode cX9_digest 152 = .ok (.iload_n 3, 1) := by decide +kernel
theorem dX9_digest_153 : decode cX9_digest 153 = .ok (.aaload, 1) := by decide +kernel
theorem dX9_digest_154 : decode cX9_digest 154 = .ok (.invokestatic 430, 3) := by decide +kernel
theorem dX9_digest_157 : decode cX9_digest 157 = .ok (.lstore_n 1, 1) := by decide +kernel
theorem dX9_digest_158 : decode cX9_digest 158 = .ok (.iinc 3 1, 3) := by decide +kernel
theorem dX9_digest_161 : decode cX9_digest 161 = .ok (.goto (-20), 3) := by decide +kernel
theorem dX9_digest_164 : decode cX9_digest 164 = .ok (.iconst 0, 1) := by decide +kernel
theorem dX9_digest_165 : decode cX9_digest 165 = .ok (.istore_n 3, 1) := by decide +kernel
theorem dX9_digest_166 : decode cX9_digest 166 = .ok (.iload_n 3, 1) := by decide +kernel
theorem dX9_digest_167 : decode cX9_digest 167 = .ok (.iconst 4, 1) := by decide +kernel
theorem dX9_digest_168 : decode cX9_digest 168 = .ok (.if_icmp .ge 20, 3) := by decide +kernel
theorem dX9_digest_171 : decode cX9_digest 171 = .ok (.lload_n 1, 1) := by decide +kernel
theorem dX9_digest_172 : decode cX9_digest 172 = .ok (.aload_n 0, 1) := by decide +kernel
theorem dX9_digest_173 : decode cX9_digest 173 = .ok (.getfield 17, 3) := by decide +kernel
theorem dX9_digest_176 : decode cX9_digest 176 = .ok (.iload_n 3, 1) := by decide +kernel
theorem dX9_digest_177 : decode cX9_digest 177 = .ok (.aaload, 1) := by decide +kernel
theorem dX9_digest_178 : decode cX9_digest 178 = .ok (.invokestatic 426, 3) := by decide +kernel
theorem dX9_digest_181 : decode cX9_digest 181 = .ok (.lstore_n 1, 1) := by decide +kernel
theorem dX9_digest_182 : decode cX9_digest 182 = .ok (.iinc 3 1, 3) := by decide +kernel
theorem dX9_digest_185 : decode cX9_digest 185 = .ok (.goto (-19), 3) := by decide +kernel
theorem dX9_digest_188 : decode cX9_digest 188 = .ok (.lload_n 1, 1) := by decide +kernel
theorem dX9_digest_189 : decode cX9_digest 189 = .ok (.lreturn, 1) := by decide +kernel
def c_X9_digest_L6 (F : Nat) (a1 : Nat) (k28 : Int64 → z_Hp → Option (Int64 × z_Hp)) : Nat → Int64 → Int32 → z_Hp → Option (Int64 × z_Hp)
  | 0, _, _, _ => none
  | n + 1, y2, x3, h4 => (if 8 ≤ x3 then (k28 y2 h4) else (if hT h4 a1 = 9 then (bI (c_X9_count F a1 x3 h4) (fun x8 h7 => (bL (c_X9_mix F y2 x8 h7) (fun y10 h9 => (lt_ (x3 + 1) (fun x11 => (c_X9_digest_L6 F a1 k28 n y10 x11 h9))))))) else none))
def c_X9_digest_L30 (F : Nat) (a14 : Nat) (k69 : Int64 → z_Hp → Option (Int64 × z_Hp)) : Nat → Int64 → Int32 → z_Hp → Option (Int64 × z_Hp)
  | 0, _, _, _ => none
  | n + 1, y15, x16, h17 => (if 10 ≤ x16 then (k69 y15 h17) else (if hT h17 a14 = 9 then (lt_ (hR h17 a14 2) (fun o20 => (nn o20 (fun a21 => (if okA h17 a21 25 x16 = true then (lt_ (hR h17 a21 (ix x16)) (fun o22 => (lt_ (fun (o24 : Option Nat) (h25 : z_Hp) => (bL (c_X9_mixText F y15 o24 h25) (fun y27 h26 => (lt_ (x16 + 1) (fun x28 => (c_X9_digest_L30 F a14 k69 n y27 x28 h26)))))) (fun (j59_23 : Option Nat → z_Hp → Option (Int64 × z_Hp)) => (nl o22 (j59_23 none h17) (fun a29 => (if hT h17 a29 = 7 then (lt_ (hR h17 a29 0) (fun o30 => (j59_23 o30 h17))) else none))))))) else none))))) else none))
def c_X9_digest_L71 (F : Nat) (a33 : Nat) (k94 : Int64 → z_Hp → Option (Int64 × z_Hp)) : Nat → Int64 → Int32 → z_Hp → Option (Int64 × z_Hp)
  | 0, _, _, _ => none
  | n + 1, y34, x35, h36 => (if 6 ≤ x35 then (k94 y34 h36) else (if hT h36 a33 = 9 then (lt_ (hR h36 a33 3) (fun o39 => (nn o39 (fun a40 => (if okA h36 a40 23 x35 = true then (lt_ (hR h36 a40 (ix x35)) (fun o41 => (bL (c_X9_mixRow F y34 o41 h36) (fun y43 h42 => (lt_ (x35 + 1) (fun x44 => (c_X9_digest_L71 F a33 k94 n y43 x44 h42))))))) else none))))) else none))
def c_X9_digest_L141 (F : Nat) (a67 : Nat) (k164 : Int64 → z_Hp → Option (Int64 × z_Hp)) : Nat → Int64 → Int32 → z_Hp → Option (Int64 × z_Hp)
  | 0, _, _, _ => none
  | n + 1, y68, x69, h70 => (if 6 ≤ x69 then (k164 y68 h70) else (if hT h70 a67 = 9 then (lt_ (hR h70 a67 0) (fun o73 => (nn o73 (fun a74 => (if okA h70 a74 23 x69 = true then (lt_ (hR h70 a74 (ix x69)) (fun o75 => (bL (c_X9_mixRow F y68 o75 h70) (fun y77 h76 => (lt_ (x69 + 1) (fun x78 => (c_X9_digest_L141 F a67 k164 n y77 x78 h76))))))) else none))))) else none))
def c_X9_digest_L166 (F : Nat) (a81 : Nat) : Nat → Int64 → Int32 → z_Hp → Option (Int64 × z_Hp)
  | 0, _, _, _ => none
  | n + 1, y82, x83, h84 => (if 4 ≤ x83 then (some (y82, h84)) else (if hT h84 a81 = 9 then (lt_ (hR h84 a81 1) (fun o85 => (nn o85 (fun a86 => (if okA h84 a86 24 x83 = true then (lt_ (hR h84 a86 (ix x83)) (fun o87 => (bL (c_X9_mixText F y82 o87 h84) (fun y89 h88 => (lt_ (x83 + 1) (fun x90 => (c_X9_digest_L166 F a81 n y89 x90 h88))))))) else none))))) else none))
def c_X9_digest (F : Nat) (a0 : Nat) (h0 : z_Hp) : Option (Int64 × z_Hp) := (c_X9_digest_L6 F a0 (fun y12 h13 => (c_X9_digest_L30 F a0 (fun y31 h32 => (c_X9_digest_L71 F a0 (fun y45 h46 => (if hT h46 a0 = 9 then (lt_ (hR h46 a0 8) (fun o47 => (nn o47 (fun a48 => (if hT h46 a48 = 8 then (bL (c_X8_mixPrinters F a48 y45 h46) (fun y50 h49 => (if hT h49 a0 = 9 then (lt_ (hR h49 a0 6) (fun o51 => (nn o51 (fun a52 => (if hT h49 a52 = 6 then (bL (c_X6_mixAll F a52 y50 h49) (fun y54 h53 => (if hT h53 a0 = 9 then (lt_ (hR h53 a0 5) (fun o55 => (nn o55 (fun a56 => (if hT h53 a56 = 3 then (bL (c_X3_mixAll F a56 y54 h53) (fun y58 h57 => (if hT h57 a0 = 9 then (lt_ (hR h57 a0 10) (fun o59 => (nn o59 (fun a60 => (if hT h57 a60 = 2 then (bL (c_X2_mixAll F a60 y58 h57) (fun y62 h61 => (if hT h61 a0 = 9 then (lt_ (hR h61 a0 11) (fun o63 => (nn o63 (fun a64 => (if hT h61 a64 = 4 then (bL (c_X4_mixAll F a64 y62 h61) (fun y66 h65 => (c_X9_digest_L141 F a0 (fun y79 h80 => (c_X9_digest_L166 F a0 F y79 0 h80)) F y66 0 h65))) else none))))) else none))) else none))))) else none))) else none))))) else none))) else none))))) else none))) else none))))) else none)) F y31 0 h32)) F y12 0 h13)) F 17 0 h0)
set_option maxRecDepth 20000 in
set_option maxHeartbeats 4000000 in
theorem g_X9_digest_L6 (F : Nat) (a1 : Nat) (k28 : Int64 → z_Hp → Option (Int64 × z_Hp)) (qk28 : ∀ (y5 : Int64) (h6 : z_Hp), z_G zl mi_X9_digest 28 [(0, vr (some a1)), (1, vl y5)] [] h6 (k28 y5 h6)) : ∀ (n : Nat) (y2 : Int64) (x3 : Int32) (h4 : z_Hp), z_G zl mi_X9_digest 6 [(0, vr (some a1)), (1, vl y2), (3, vi x3)] [] h4 (c_X9_digest_L6 F a1 k28 n y2 x3 h4) := by
  intro n
  induction n with
  | zero => intro y2 x3 h4; rw [c_X9_digest_L6]; exact z_none
  | succ n ih =>
    intro y2 x3 h4
    rw [c_X9_digest_L6]
    refine z_iload_n (pc := 6) dX9_digest_6 rfl 2 rfl (z_bipush (pc := 7) dX9_digest_7 bp_8 (?_))
    refine z_icmp_ge (pc := 9) (tgt := 28) dX9_digest_9 (by decide) ?_ ?_
    · exact z_sub [0, 1] rfl (qk28 y2 h4)
    · refine z_lload_n (pc := 12) dX9_digest_12 rfl 1 rfl (z_aload_n (pc := 13) dX9_digest_13 rfl 0 rfl (z_iload_n (pc := 14) dX9_digest_14 rfl 2 rfl (z_callV_I (pc := 15) (avs := [vi x3]) (st := [vl y2]) rfl (q := (RX9, TX9, 18)) rfl rfl (t_X9_count F a1 x3 h4) ky_X9_count wm_X9_count we_X9_count wz_RX9_416 (rm_X9_digest_X9_count) (Nat.le_of_ble_eq_true rfl) dX9_digest_15 (fun x8 h7 => (?_)))))
      refine z_callS_L (pc := 18) (avs := [vl y2, vi x8]) (st := []) rfl (t_X9_mix F y2 x8 h7) ky_X9_mix ws_X9_mix wz_RX9_419 (rm_X9_digest_X9_mix) (Nat.le_of_ble_eq_true rfl) dX9_digest_18 (fun y10 h9 => (?_))
      refine z_lstore_n (pc := 21) (L' := [(0, vr (some a1)), (1, vl y10), (3, vi x3)]) dX9_digest_21 rfl (Nat.le_of_ble_eq_true rfl) rfl (z_iincl (pc := 22) (L' := fun x11 => [(0, vr (some a1)), (1, vl y10), (3, vi x11)]) dX9_digest_22 2 rfl ic_1 (Nat.le_of_ble_eq_true rfl) (fun _ => rfl) (fun x11 => (z_goto (pc := 25) (tgt := 6) dX9_digest_25 (by decide) (?_))))
      exact ih y10 x11 h9
set_option maxRecDepth 20000 in
set_option maxHeartbeats 4000000 in
theorem g_X9_digest_L30 (F : Nat) (a14 : Nat) (k69 : Int64 → z_Hp → Option (Int64 × z_Hp)) (qk69 : ∀ (y18 : Int64) (h19 : z_Hp), z_G zl mi_X9_digest 69 [(0, vr (some a14)), (1, vl y18)] [] h19 (k69 y18 h19)) : ∀ (n : Nat) (y15 : Int64) (x16 : Int32) (h17 : z_Hp), z_G zl mi_X9_digest 30 [(0, vr (some a14)), (1, vl y15), (3, vi x16)] [] h17 (c_X9_digest_L30 F a14 k69 n y15 x16 h17) := by
  intro n
  induction n with
  | zero => intro y15 x16 h17; rw [c_X9_digest_L30]; exact z_none
  | succ n ih =>
    intro y15 x16 h17
    rw [c_X9_digest_L30]
    refine z_iload_n (pc := 30) dX9_digest_30 rfl 2 rfl (z_bipush (pc := 31) dX9_digest_31 bp_10 (?_))
    refine z_icmp_ge (pc := 33) (tgt := 69) dX9_digest_33 (by decide) ?_ ?_
    · exact z_sub [0, 1] rfl (qk69 y15 h17)
    · refine z_aload_n (pc := 36) dX9_digest_36 rfl 0 rfl (z_getRl (pc := 37) fl_RX9_23 rfl dX9_digest_37 (fun o20 => (z_iload_n (pc := 40) dX9_digest_40 rfl 2 rfl (?_))))
      refine z_nn (fun a21 ea21 => ?_)
      subst ea21
      refine z_aaloadl (pc := 41) 25 (by decide) dX9_digest_41 (fun o22 => (z_astore (pc := 42) (L' := [(0, vr (some a14)), (1, vl y15), (3, vi x16), (4, vr o22)]) dX9_digest_42 (Nat.le_of_ble_eq_true rfl) rfl (z_lload_n (pc := 44) dX9_digest_44 rfl 1 rfl (z_aload (pc := 45) dX9_digest_45 3 rfl (?_)))))
      refine z_jn (P := fun (j : Option Nat → z_Hp → Option (Int64 × z_Hp)) => ∀ (o24 : Option Nat) (h25 : z_Hp), z_G zl mi_X9_digest 59 [(0, vr (some a14)), (3, vi x16)] [vr o24, vl y15] h25 (j o24 h25)) (fun o24 h25 => ?_) (fun j59_23 qj59_23 => ?_)
      · refine z_callS_L (pc := 59) (avs := [vl y15, vr o24]) (st := []) rfl (t_X9_mixText F y15 o24 h25) ky_X9_mixText ws_X9_mixText wz_RX9_426 (rm_X9_digest_X9_mixText) (Nat.le_of_ble_eq_true rfl) dX9_digest_59 (fun y27 h26 => (?_))
        refine z_lstore_n (pc := 62) (L' := [(0, vr (some a14)), (1, vl y27), (3, vi x16)]) dX9_digest_62 rfl (Nat.le_of_ble_eq_true rfl) rfl (z_iincl (pc := 63) (L' := fun x28 => [(0, vr (some a14)), (1, vl y27), (3, vi x28)]) dX9_digest_63 2 rfl ic_1 (Nat.le_of_ble_eq_true rfl) (fun _ => rfl) (fun x28 => (z_goto (pc := 66) (tgt := 30) dX9_digest_66 (by decide) (?_))))
        exact ih y27 x28 h26
      refine z_ifnonnull (pc := 47) (tgt := 54) dX9_digest_47 (by decide) (fun ea29 => ?_) (fun a29 ea29 => ?_)
      · subst ea29
        refine z_null (pc := 50) dX9_digest_50 (z_goto (pc := 51) (tgt := 59) dX9_digest_51 (by decide) (?_))
        exact z_sub [0, 2] rfl (qj59_23 none h17)
      · subst ea29
        refine z_aload (pc := 54) dX9_digest_54 3 rfl (z_getRl (pc := 56) fl_RX9_423 rfl dX9_digest_56 (fun o30 => (?_)))
        exact z_sub [0, 2] rfl (qj59_23 o30 h17)
set_option maxRecDepth 20000 in
set_option maxHeartbeats 4000000 in
theorem g_X9_digest_L71 (F : Nat) (a33 : Nat) (k94 : Int64 → z_Hp → Option (Int64 × z_Hp)) (qk94 : ∀ (y37 : Int64) (h38 : z_Hp), z_G zl mi_X9_digest 94 [(0, vr (some a33)), (1, vl y37)] [] h38 (k94 y37 h38)) : ∀ (n : Nat) (y34 : Int64) (x35 : Int32) (h36 : z_Hp), z_G zl mi_X9_digest 71 [(0, vr (some a33)), (1, vl y34), (3, vi x35)] [] h36 (c_X9_digest_L71 F a33 k94 n y34 x35 h36) := by
  intro n
  induction n with
  | zero => intro y34 x35 h36; rw [c_X9_digest_L71]; exact z_none
  | succ n ih =>
    intro y34 x35 h36
    rw [c_X9_digest_L71]
    refine z_iload_n (pc := 71) dX9_digest_71 rfl 2 rfl (z_bipush (pc := 72) dX9_digest_72 bp_6 (?_))
    refine z_icmp_ge (pc := 74) (tgt := 94) dX9_digest_74 (by decide) ?_ ?_
    · exact z_sub [0, 1] rfl (qk94 y34 h36)
    · refine z_lload_n (pc := 77) dX9_digest_77 rfl 1 rfl (z_aload_n (pc := 78) dX9_digest_78 rfl 0 rfl (z_getRl (pc := 79) fl_RX9_27 rfl dX9_digest_79 (fun o39 => (z_iload_n (pc := 82) dX9_digest_82 rfl 2 rfl (?_)))))
      refine z_nn (fun a40 ea40 => ?_)
      subst ea40
      refine z_aaloadl (pc := 83) 23 (by decide) dX9_digest_83 (fun o41 => (z_callS_L (pc := 84) (avs := [vl y34, vr o41]) (st := []) rfl (t_X9_mixRow F y34 o41 h36) ky_X9_mixRow ws_X9_mixRow wz_RX9_430 (rm_X9_digest_X9_mixRow) (Nat.le_of_ble_eq_true rfl) dX9_digest_84 (fun y43 h42 => (?_))))
      refine z_lstore_n (pc := 87) (L' := [(0, vr (some a33)), (1, vl y43), (3, vi x35)]) dX9_digest_87 rfl (Nat.le_of_ble_eq_true rfl) rfl (z_iincl (pc := 88) (L' := fun x44 => [(0, vr (some a33)), (1, vl y43), (3, vi x44)]) dX9_digest_88 2 rfl ic_1 (Nat.le_of_ble_eq_true rfl) (fun _ => rfl) (fun x44 => (z_goto (pc := 91) (tgt := 71) dX9_digest_91 (by decide) (?_))))
      exact ih y43 x44 h42
set_option maxRecDepth 20000 in
set_option maxHeartbeats 4000000 in
theorem g_X9_digest_L141 (F : Nat) (a67 : Nat) (k164 : Int64 → z_Hp → Option (Int64 × z_Hp)) (qk164 : ∀ (y71 : Int64) (h72 : z_Hp), z_G zl mi_X9_digest 164 [(0, vr (some a67)), (1, vl y71)] [] h72 (k164 y71 h72)) : ∀ (n : Nat) (y68 : Int64) (x69 : Int32) (h70 : z_Hp), z_G zl mi_X9_digest 141 [(0, vr (some a67)), (1, vl y68), (3, vi x69)] [] h70 (c_X9_digest_L141 F a67 k164 n y68 x69 h70) := by
  intro n
  induction n with
  | zero => intro y68 x69 h70; rw [c_X9_digest_L141]; exact z_none
  | succ n ih =>
    intro y68 x69 h70
    rw [c_X9_digest_L141]
    refine z_iload_n (pc := 141) dX9_digest_141 rfl 2 rfl (z_bipush (pc := 142) dX9_digest_142 bp_6 (?_))
    refine z_icmp_ge (pc := 144) (tgt := 164) dX9_digest_144 (by decide) ?_ ?_
    · exact z_sub [0, 1] rfl (qk164 y68 h70)
    · refine z_lload_n (pc := 147) dX9_digest_147 rfl 1 rfl (z_aload_n (pc := 148) dX9_digest_148 rfl 0 rfl (z_getRl (pc := 149) fl_RX9_11 rfl dX9_digest_149 (fun o73 => (z_iload_n (pc := 152) dX9_digest_152 rfl 2 rfl (?_)))))
      refine z_nn (fun a74 ea74 => ?_)
      subst ea74
      refine z_aaloadl (pc := 153) 23 (by decide) dX9_digest_153 (fun o75 => (z_callS_L (pc := 154) (avs := [vl y68, vr o75]) (st := []) rfl (t_X9_mixRow F y68 o75 h70) ky_X9_mixRow ws_X9_mixRow wz_RX9_430 (rm_X9_digest_X9_mixRow) (Nat.le_of_ble_eq_true rfl) dX9_digest_154 (fun y77 h76 => (?_))))
      refine z_lstore_n (pc := 157) (L' := [(0, vr (some a67)), (1, vl y77), (3, vi x69)]) dX9_digest_157 rfl (Nat.le_of_ble_eq_true rfl) rfl (z_iincl (pc := 158) (L' := fun x78 => [(0, vr (some a67)), (1, vl y77), (3, vi x78)]) dX9_digest_158 2 rfl ic_1 (Nat.le_of_ble_eq_true rfl) (fun _ => rfl) (fun x78 => (z_goto (pc := 161) (tgt := 141) dX9_digest_161 (by decide) (?_))))
      exact ih y77 x78 h76
set_option maxRecDepth 20000 in
set_option maxHeartbeats 4000000 in
theorem g_X9_digest_L166 (F : Nat) (a81 : Nat) : ∀ (n : Nat) (y82 : Int64) (x83 : Int32) (h84 : z_Hp), z_G zl mi_X9_digest 166 [(0, vr (some a81)), (1, vl y82), (3, vi x83)] [] h84 (c_X9_digest_L166 F a81 n y82 x83 h84) := by
  intro n
  induction n with
  | zero => intro y82 x83 h84; rw [c_X9_digest_L166]; exact z_none
  | succ n ih =>
    intro y82 x83 h84
    rw [c_X9_digest_L166]
    refine z_iload_n (pc := 166) dX9_digest_166 rfl 2 rfl (z_iconst (pc := 167) dX9_digest_167 ic_4 (?_))
    refine z_icmp_ge (pc := 168) (tgt := 188) dX9_digest_168 (by decide) ?_ ?_
    · refine z_lload_n (pc := 188) dX9_digest_188 rfl 1 rfl (?_)
      exact z_lret (pc := 189) dX9_digest_189 rfl
    · refine z_lload_n (pc := 171) dX9_digest_171 rfl 1 rfl (z_aload_n (pc := 172) dX9_digest_172 rfl 0 rfl (z_getRl (pc := 173) fl_RX9_17 rfl dX9_digest_173 (fun o85 => (z_iload_n (pc := 176) dX9_digest_176 rfl 2 rfl (?_)))))
      refine z_nn (fun a86 ea86 => ?_)
      subst ea86
      refine z_aaloadl (pc := 177) 24 (by decide) dX9_digest_177 (fun o87 => (z_callS_L (pc := 178) (avs := [vl y82, vr o87]) (st := []) rfl (t_X9_mixText F y82 o87 h84) ky_X9_mixText ws_X9_mixText wz_RX9_426 (rm_X9_digest_X9_mixText) (Nat.le_of_ble_eq_true rfl) dX9_digest_178 (fun y89 h88 => (?_))))
      refine z_lstore_n (pc := 181) (L' := [(0, vr (some a81)), (1, vl y89), (3, vi x83)]) dX9_digest_181 rfl (Nat.le_of_ble_eq_true rfl) rfl (z_iincl (pc := 182) (L' := fun x90 => [(0, vr (some a81)), (1, vl y89), (3, vi x90)]) dX9_digest_182 2 rfl ic_1 (Nat.le_of_ble_eq_true rfl) (fun _ => rfl) (fun x90 => (z_goto (pc := 185) (tgt := 166) dX9_digest_185 (by decide) (?_))))
      exact ih y89 x90 h88
set_option maxRecDepth 20000 in
set_option maxHeartbeats 4000000 in
theorem t_X9_digest (F : Nat) (a0 : Nat) (h0 : z_Hp) : z_Ct zl mi_X9_digest [vr (some a0)] h0 (c_X9_digest F a0 h0) := by
  refine z_entry (by decide) (Nat.le_of_ble_eq_true rfl) [(0, vr (some a0))] rfl ?_
  unfold c_X9_digest
  refine z_ldc2 (pc := 0) dX9_digest_0 wj_RX9_414 (z_lstore_n (pc := 3) (L' := [(0, vr (some a0)), (1, vl 17)]) dX9_digest_3 rfl (Nat.le_of_ble_eq_true rfl) rfl (z_iconst (pc := 4) dX9_digest_4 ic_0 (z_istore_n (pc := 5) (L' := [(0, vr (some a0)), (1, vl 17), (3, vi 0)]) dX9_digest_5 rfl (Nat.le_of_ble_eq_true rfl) rfl (?_))))
  refine g_X9_digest_L6 F a0 _ (fun y12 h13 => ?_) F 17 0 h0
  refine z_iconst (pc := 28) dX9_digest_28 ic_0 (z_istore_n (pc := 29) (L' := [(0, vr (some a0)), (1, vl y12), (3, vi 0)]) dX9_digest_29 rfl (Nat.le_of_ble_eq_true rfl) rfl (?_))
  refine g_X9_digest_L30 F a0 _ (fun y31 h32 => ?_) F y12 0 h13
  refine z_iconst (pc := 69) dX9_digest_69 ic_0 (z_istore_n (pc := 70) (L' := [(0, vr (some a0)), (1, vl y31), (3, vi 0)]) dX9_digest_70 rfl (Nat.le_of_ble_eq_true rfl) rfl (?_))
  refine g_X9_digest_L71 F a0 _ (fun y45 h46 => ?_) F y31 0 h32
  refine z_aload_n (pc := 94) dX9_digest_94 rfl 0 rfl (z_getRl (pc := 95) fl_RX9_54 rfl dX9_digest_95 (fun o47 => (z_lload_n (pc := 98) dX9_digest_98 rfl 1 rfl (?_))))
  refine z_nn (fun a48 ea48 => ?_)
  subst ea48
  refine z_callV_L (pc := 99) (avs := [vl y45]) (st := []) rfl (q := (RX8, TX8, 7)) rfl rfl (t_X8_mixPrinters F a48 y45 h46) ky_X8_mixPrinters wm_X8_mixPrinters we_X8_mixPrinters wz_RX9_434 (rm_X9_digest_X8_mixPrinters) (Nat.le_of_ble_eq_true rfl) dX9_digest_99 (fun y50 h49 => (?_))
  refine z_lstore_n (pc := 102) (L' := [(0, vr (some a0)), (1, vl y50)]) dX9_digest_102 rfl (Nat.le_of_ble_eq_true rfl) rfl (z_aload_n (pc := 103) dX9_digest_103 rfl 0 rfl (z_getRl (pc := 104) fl_RX9_40 rfl dX9_digest_104 (fun o51 => (z_lload_n (pc := 107) dX9_digest_107 rfl 1 rfl (?_)))))
  refine z_nn (fun a52 ea52 => ?_)
  subst ea52
  refine z_callV_L (pc := 108) (avs := [vl y50]) (st := []) rfl (q := (RX6, TX6, 2)) rfl rfl (t_X6_mixAll F a52 y50 h49) ky_X6_mixAll wm_X6_mixAll we_X6_mixAll wz_RX9_438 (rm_X9_digest_X6_mixAll) (Nat.le_of_ble_eq_true rfl) dX9_digest_108 (fun y54 h53 => (?_))
  refine z_lstore_n (pc := 111) (L' := [(0, vr (some a0)), (1, vl y54)]) dX9_digest_111 rfl (Nat.le_of_ble_eq_true rfl) rfl (z_aload_n (pc := 112) dX9_digest_112 rfl 0 rfl (z_getRl (pc := 113) fl_RX9_33 rfl dX9_digest_113 (fun o55 => (z_lload_n (pc := 116) dX9_digest_116 rfl 1 rfl (?_)))))
  refine z_nn (fun a56 ea56 => ?_)
  subst ea56
  refine z_callV_L (pc := 117) (avs := [vl y54]) (st := []) rfl (q := (RX3, TX3, 4)) rfl rfl (t_X3_mixAll F a56 y54 h53) ky_X3_mixAll wm_X3_mixAll we_X3_mixAll wz_RX9_441 (rm_X9_digest_X3_mixAll) (Nat.le_of_ble_eq_true rfl) dX9_digest_117 (fun y58 h57 => (?_))
  refine z_lstore_n (pc := 120) (L' := [(0, vr (some a0)), (1, vl y58)]) dX9_digest_120 rfl (Nat.le_of_ble_eq_true rfl) rfl (z_aload_n (pc := 121) dX9_digest_121 rfl 0 rfl (z_getRl (pc := 122) fl_RX9_68 rfl dX9_digest_122 (fun o59 => (z_lload_n (pc := 125) dX9_digest_125 rfl 1 rfl (?_)))))
  refine z_nn (fun a60 ea60 => ?_)
  subst ea60
  refine z_callV_L (pc := 126) (avs := [vl y58]) (st := []) rfl (q := (RX2, TX2, 5)) rfl rfl (t_X2_mixAll F a60 y58 h57) ky_X2_mixAll wm_X2_mixAll we_X2_mixAll wz_RX9_442 (rm_X9_digest_X2_mixAll) (Nat.le_of_ble_eq_true rfl) dX9_digest_126 (fun y62 h61 => (?_))
  refine z_lstore_n (pc := 129) (L' := [(0, vr (some a0)), (1, vl y62)]) dX9_digest_129 rfl (Nat.le_of_ble_eq_true rfl) rfl (z_aload_n (pc := 130) dX9_digest_130 rfl 0 rfl (z_getRl (pc := 131) fl_RX9_75 rfl dX9_digest_131 (fun o63 => (z_lload_n (pc := 134) dX9_digest_134 rfl 1 rfl (?_)))))
  refine z_nn (fun a64 ea64 => ?_)
  subst ea64
  refine z_callV_L (pc := 135) (avs := [vl y62]) (st := []) rfl (q := (RX4, TX4, 6)) rfl rfl (t_X4_mixAll F a64 y62 h61) ky_X4_mixAll wm_X4_mixAll we_X4_mixAll wz_RX9_443 (rm_X9_digest_X4_mixAll) (Nat.le_of_ble_eq_true rfl) dX9_digest_135 (fun y66 h65 => (?_))
  refine z_lstore_n (pc := 138) (L' := [(0, vr (some a0)), (1, vl y66)]) dX9_digest_138 rfl (Nat.le_of_ble_eq_true rfl) rfl (z_iconst (pc := 139) dX9_digest_139 ic_0 (z_istore_n (pc := 140) (L' := [(0, vr (some a0)), (1, vl y66), (3, vi 0)]) dX9_digest_140 rfl (Nat.le_of_ble_eq_true rfl) rfl (?_)))
  refine g_X9_digest_L141 F a0 _ (fun y79 h80 => ?_) F y66 0 h65
  refine z_iconst (pc := 164) dX9_digest_164 ic_0 (z_istore_n (pc := 165) (L' := [(0, vr (some a0)), (1, vl y79), (3, vi 0)]) dX9_digest_165 rfl (Nat.le_of_ble_eq_true rfl) rfl (?_))
  refine g_X9_digest_L166 F a0 F y79 0 h80
theorem dX10_init_0 : decode cX10_init 0 = .ok (.aload_n 0, 1) := by decide +kernel
theorem dX10_init_1 : decode cX10_init 1 = .ok (.invokespecial 1, 3) := by decide +kernel
theorem dX10_init_4 : decode cX10_init 4 = .ok (.aload_n 0, 1) := by decide +kernel
theorem dX10_init_5 : decode cX10_init 5 = .ok (.bipush 6, 2) := by decide +kernel
theorem dX10_init_7 : decode cX10_init 7 = .ok (.newarray .int, 2) := by decide +kernel
theorem dX10_init_9 : decode cX10_init 9 = .ok (.putfield 7, 3) := by decide +kernel
theorem dX10_init_12 : decode cX10_init 12 = .ok (.aload_n 0, 1) := by decide +kernel
theorem dX10_init_13 : decode cX10_init 13 = .ok (.lconst 1, 1) := by decide +kernel
theorem dX10_init_14 : decode cX10_init 14 = .ok (.putfield 13, 3) := by decide +kernel
theorem dX10_init_17 : decode cX10_init 17 = .ok (.aload_n 0, 1) := by decide +kernel
theorem dX10_init_18 : decode cX10_init 18 = .ok (.bipush 6, 2) := by decide +kernel
theorem dX10_init_20 : decode cX10_init 20 = .ok (.newarray .int, 2) := by decide +kernel
theorem dX10_init_22 : decode cX10_init 22 = .ok (.putfield 17, 3) := by decide +kernel
theorem dX10_init_25 : decode cX10_init 25 = .ok (.aload_n 0, 1) := by decide +kernel
theorem dX10_init_26 : decode cX10_init 26 = .ok (.sipush 240, 3) := by decide +kernel
theorem dX10_init_29 : decode cX10_init 29 = .ok (.newarray .int, 2) := by decide +kernel
theorem dX10_init_31 : decode cX10_init 31 = .ok (.putfield 20, 3) := by decide +kernel
theorem dX10_init_34 : decode cX10_init 34 = .ok (.aload_n 0, 1) := by decide +kernel
theorem dX10_init_35 : decode cX10_init 35 = .ok (.bipush 40, 2) := by decide +kernel
theorem dX10_init_37 : decode cX10_init 37 = .ok (.newarray .int, 2) := by decide +kernel
theorem dX10_init_39 : decode cX10_init 39 = .ok (.putfield 23, 3) := by decide +kernel
theorem dX10_init_42 : decode cX10_init 42 = .ok (.aload_n 0, 1) := by decide +kernel
theorem dX10_init_43 : decode cX10_init 43 = .ok (.iconst 4, 1) := by decide +kernel
theorem dX10_init_44 : decode cX10_init 44 = .ok (.newarray .int, 2) := by decide +kernel
theorem dX10_init_46 : decode cX10_init 46 = .ok (.putfield 26, 3) := by decide +kernel
theorem dX10_init_49 : decode cX10_init 49 = .ok (.aload_n 0, 1) := by decide +kernel
theorem dX10_init_50 : decode cX10_init 50 = .ok (.sipush 240, 3) := by decide +kernel
theorem dX10_init_53 : decode cX10_init 53 = .ok (.newarray .int, 2) := by decide +kernel
theorem dX10_init_55 : decode cX10_init 55 = .ok (.putfield 29, 3) := by decide +kernel
theorem dX10_init_58 : decode cX10_init 58 = .ok (.aload_n 0, 1) := by decide +kernel
theorem dX10_init_59 : decode cX10_init 59 = .ok (.bipush 10, 2) := by decide +kernel
theorem dX10_init_61 : decode cX10_init 61 = .ok (.newarray .int, 2) := by decide +kernel
theorem dX10_init_63 : decode cX10_init 63 = .ok (.putfield 32, 3) := by decide +kernel
theorem dX10_init_66 : decode cX10_init 66 = .ok (.aload_n 0, 1) := by decide +kernel
theorem dX10_init_67 : decode cX10_init 67 = .ok (.sipush 600, 3) := by decide +kernel
theorem dX10_init_70 : decode cX10_init 70 = .ok (.newarray .int, 2) := by decide +kernel
theorem dX10_init_72 : decode cX10_init 72 = .ok (.putfield 35, 3) := by decide +kernel
theorem dX10_init_75 : decode cX10_init 75 = .ok (.aload_n 0, 1) := by decide +kernel
theorem dX10_init_76 : decode cX10_init 76 = .ok (.bipush 70, 2) := by decide +kernel
theorem dX10_init_78 : decode cX10_init 78 = .ok (.newarray .int, 2) := by decide +kernel
theorem dX10_init_80 : decode cX10_init 80 = .ok (.putfield 38, 3) := by decide +kernel
theorem dX10_init_83 : decode cX10_init 83 = .ok (.aload_n 0, 1) := by decide +kernel
theorem dX10_init_84 : decode cX10_init 84 = .ok (.bipush 70, 2) := by decide +kernel
theorem dX10_init_86 : decode cX10_init 86 = .ok (.newarray .int, 2) := by decide +kernel
theorem dX10_init_88 : decode cX10_init 88 = .ok (.putfield 41, 3) := by decide +kernel
theorem dX10_init_91 : decode cX10_init 91 = .ok (.aload_n 0, 1) := by decide +kernel
theorem dX10_init_92 : decode cX10_init 92 = .ok (.bipush 6, 2) := by decide +kernel
theorem dX10_init_94 : decode cX10_init 94 = .ok (.newarray .int, 2) := by decide +kernel
theorem dX10_init_96 : decode cX10_init 96 = .ok (.putfield 44, 3) := by decide +kernel
theorem dX10_init_99 : decode cX10_init 99 = .ok (.aload_n 0, 1) := by decide +kernel
theorem dX10_init_100 : decode cX10_init 100 = .ok (.bipush 48, 2) := by decide +kernel
theorem dX10_init_102 : decode cX10_init 102 = .ok (.newarray .int, 2) := by decide +kernel
theorem dX10_init_104 : decode cX10_init 104 = .ok (.putfield 47, 3) := by decide +kernel
theorem dX10_init_107 : decode cX10_init 107 = .ok (.aload_n 0, 1) := by decide +kernel
theorem dX10_init_108 : decode cX10_init 108 = .ok (.bipush 16, 2) := by decide +kernel
theorem dX10_init_110 : decode cX10_init 110 = .ok (.newarray .int, 2) := by decide +kernel
theorem dX10_init_112 : decode cX10_init 112 = .ok (.putfield 50, 3) := by decide +kernel
theorem dX10_init_115 : decode cX10_init 115 = .ok (.aload_n 0, 1) := by decide +kernel
theorem dX10_init_116 : decode cX10_init 116 = .ok (.bipush 16, 2) := by decide +kernel
theorem dX10_init_118 : decode cX10_init 118 = .ok (.newarray .int, 2) := by decide +kernel
theorem dX10_init_120 : decode cX10_init 120 = .ok (.putfield 53, 3) := by decide +kernel
theorem dX10_init_123 : decode cX10_init 123 = .ok (.aload_n 0, 1) := by decide +kernel
theorem dX10_init_124 : decode cX10_init 124 = .ok (.bipush 80, 2) := by decide +kernel
theorem dX10_init_126 : decode cX10_init 126 = .ok (.newarray .int, 2) := by decide +kernel
theorem dX10_init_128 : decode cX10_init 128 = .ok (.putfield 56, 3) := by decide +kernel
theorem dX10_init_131 : decode cX10_init 131 = .ok (.aload_n 0, 1) := by decide +kernel
theorem dX10_init_132 : decode cX10_init 132 = .ok (.iconst 5, 1) := by decide +kernel
theorem dX10_init_133 : decode cX10_init 133 = .ok (.newarray .int, 2) := by decide +kernel
theorem dX10_init_135 : decode cX10_init 135 = .ok (.putfield 59, 3) := by decide +kernel
theorem dX10_init_138 : decode cX10_init 138 = .ok (.aload_n 0, 1) := by decide +kernel
theorem dX10_init_139 : decode cX10_init 139 = .ok (.bipush 8, 2) := by decide +kernel
theorem dX10_init_141 : decode cX10_init 141 = .ok (.newarray .int, 2) := by decide +kernel
theorem dX10_init_143 : decode cX10_init 143 = .ok (.putfield 62, 3) := by decide +kernel
theorem dX10_init_146 : decode cX10_init 146 = .ok (.aload_n 0, 1) := by decide +kernel
theorem dX10_init_147 : decode cX10_init 147 = .ok (.bipush 8, 2) := by decide +kernel
theorem dX10_init_149 : decode cX10_init 149 = .ok (.newarray .int, 2) := by decide +kernel
theorem dX10_init_151 : decode cX10_init 151 = .ok (.putfield 65, 3) := by decide +kernel
theorem dX10_init_154 : decode cX10_init 154 = .ok (.aload_n 0, 1) := by decide +kernel
theorem dX10_init_155 : decode cX10_init 155 = .ok (.bipush 20, 2) := by decide +kernel
theorem dX10_init_157 : decode cX10_init 157 = .ok (.newarray .int, 2) := by decide +kernel
theorem dX10_init_159 : decode cX10_init 159 = .ok (.putfield 68, 3) := by decide +kernel
theorem dX10_init_162 : decode cX10_init 162 = .ok (.aload_n 0, 1) := by decide +kernel
theorem dX10_init_163 : decode cX10_init 163 = .ok (.bipush 20, 2) := by decide +kernel
theorem dX10_init_165 : decode cX10_init 165 = .ok (.newarray .int, 2) := by decide +kernel
theorem dX10_init_167 : decode cX10_init 167 = .ok (.putfield 71, 3) := by decide +kernel
theorem dX10_init_170 : decode cX10_init 170 = .ok (.aload_n 0, 1) := by decide +kernel
theorem dX10_init_171 : decode cX10_init 171 = .ok (.bipush 20, 2) := by decide +kernel
theorem dX10_init_173 : decode cX10_init 173 = .ok (.newarray .int, 2) := by decide +kernel
theorem dX10_init_175 : decode cX10_init 175 = .ok (.putfield 74, 3) := by decide +kernel
theorem dX10_init_178 : decode cX10_init 178 = .ok (.aload_n 0, 1) := by decide +kernel
theorem dX10_init_179 : decode cX10_init 179 = .ok (.bipush 20, 2) := by decide +kernel
theorem dX10_init_181 : decode cX10_init 181 = .ok (.newarray .int, 2) := by decide +kernel
theorem dX10_init_183 : decode cX10_init 183 = .ok (.putfield 77, 3) := by decide +kernel
theorem dX10_init_186 : decode cX10_init 186 = .ok (.aload_n 0, 1) := by decide +kernel
theorem dX10_init_187 : decode cX10_init 187 = .ok (.bipush 20, 2) := by decide +kernel
theorem dX10_init_189 : decode cX10_init 189 = .ok (.newarray .int, 2) := by decide +kernel
theorem dX10_init_191 : decode cX10_init 191 = .ok (.putfield 80, 3) := by decide +kernel
theorem dX10_init_194 : decode cX10_init 194 = .ok (.aload_n 0, 1) := by decide +kernel
theorem dX10_init_195 : decode cX10_init 195 = .ok (.bipush 20, 2) := by decide +kernel
theorem dX10_init_197 : decode cX10_init 197 = .ok (.newarray .int, 2) := by decide +kernel
theorem dX10_init_199 : decode cX10_init 199 = .ok (.putfield 83, 3) := by decide +kernel
theorem dX10_init_202 : decode cX10_init 202 = .ok (.aload_n 0, 1) := by decide +kernel
theorem dX10_init_203 : decode cX10_init 203 = .ok (.bipush 20, 2) := by decide +kernel
theorem dX10_init_205 : decode cX10_init 205 = .ok (.newarray .int, 2) := by decide +kernel
theorem dX10_init_207 : decode cX10_init 207 = .ok (.putfield 86, 3) := by decide +kernel
theorem dX10_init_210 : decode cX10_init 210 = .ok (.aload_n 0, 1) := by decide +kernel
theorem dX10_init_211 : decode cX10_init 211 = .ok (.bipush 20, 2) := by decide +kernel
theorem dX10_init_213 : decode cX10_init 213 = .ok (.newarray .int, 2) := by decide +kernel
theorem dX10_init_215 : decode cX10_init 215 = .ok (.putfield 89, 3) := by decide +kernel
theorem dX10_init_218 : decode cX10_init 218 = .ok (.aload_n 0, 1) := by decide +kernel
theorem dX10_init_219 : decode cX10_init 219 = .ok (.bipush 20, 2) := by decide +kernel
theorem dX10_init_221 : decode cX10_init 221 = .ok (.newarray .int, 2) := by decide +kernel
theorem dX10_init_223 : decode cX10_init 223 = .ok (.putfield 92, 3) := by decide +kernel
theorem dX10_init_226 : decode cX10_init 226 = .ok (.aload_n 0, 1) := by decide +kernel
theorem dX10_init_227 : decode cX10_init 227 = .ok (.bipush 20, 2) := by decide +kernel
theorem dX10_init_229 : decode cX10_init 229 = .ok (.newarray .int, 2) := by decide +kernel
theorem dX10_init_231 : decode cX10_init 231 = .ok (.putfield 95, 3) := by decide +kernel
theorem dX10_init_234 : decode cX10_init 234 = .ok (.aload_n 0, 1) := by decide +kernel
theorem dX10_init_235 : decode cX10_init 235 = .ok (.bipush 20, 2) := by decide +kernel
theorem dX10_init_237 : decode cX10_init 237 = .ok (.newarray .int, 2) := by decide +kernel
theorem dX10_init_239 : decode cX10_init 239 = .ok (.putfield 98, 3) := by decide +kernel
theorem dX10_init_242 : decode cX10_init 242 = .ok (.aload_n 0, 1) := by decide +kernel
theorem dX10_init_243 : decode cX10_init 243 = .ok (.sipush 800, 3) := by decide +kernel
theorem dX10_init_246 : decode cX10_init 246 = .ok (.newarray .int, 2) := by decide +kernel
theorem dX10_init_248 : decode cX10_init 248 = .ok (.putfield 101, 3) := by decide +kernel
theorem dX10_init_251 : decode cX10_init 251 = .ok (.aload_n 0, 1) := by decide +kernel
theorem dX10_init_252 : decode cX10_init 252 = .ok (.bipush 20, 2) := by decide +kernel
theorem dX10_init_254 : decode cX10_init 254 = .ok (.newarray .int, 2) := by decide +kernel
theorem dX10_init_256 : decode cX10_init 256 = .ok (.putfield 104, 3) := by decide +kernel
theorem dX10_init_259 : decode cX10_init 259 = .ok (.aload_n 0, 1) := by decide +kernel
theorem dX10_init_260 : decode cX10_init 260 = .ok (.bipush 20, 2) := by decide +kernel
theorem dX10_init_262 : decode cX10_init 262 = .ok (.newarray .int, 2) := by decide +kernel
theorem dX10_init_264 : decode cX10_init 264 = .ok (.putfield 107, 3) := by decide +kernel
theorem dX10_init_267 : decode cX10_init 267 = .ok (.aload_n 0, 1) := by decide +kernel
theorem dX10_init_268 : decode cX10_init 268 = .ok (.sipush 4096, 3) := by decide +kernel
theorem dX10_init_271 : decode cX10_init 271 = .ok (.newarray .long, 2) := by decide +kernel
theorem dX10_init_273 : decode cX10_init 273 = .ok (.putfield 110, 3) := by decide +kernel
theorem dX10_init_276 : decode cX10_init 276 = .ok (.aload_n 0, 1) := by decide +kernel
theorem dX10_init_277 : decode cX10_init 277 = .ok (.bipush 20, 2) := by decide +kernel
theorem dX10_init_279 : decode cX10_init 279 = .ok (.newarray .int, 2) := by decide +kernel
theorem dX10_init_281 : decode cX10_init 281 = .ok (.putfield 114, 3) := by decide +kernel
theorem dX10_init_284 : decode cX10_init 284 = .ok (.aload_n 0, 1) := by decide +kernel
theorem dX10_init_285 : decode cX10_init 285 = .ok (.bipush 20, 2) := by decide +kernel
theorem dX10_init_287 : decode cX10_init 287 = .ok (.newarray .int, 2) := by decide +kernel
theorem dX10_init_289 : decode cX10_init 289 = .ok (.putfield 117, 3) := by decide +kernel
theorem dX10_init_292 : decode cX10_init 292 = .ok (.aload_n 0, 1) := by decide +kernel
theorem dX10_init_293 : decode cX10_init 293 = .ok (.bipush 70, 2) := by decide +kernel
theorem dX10_init_295 : decode cX10_init 295 = .ok (.newarray .int, 2) := by decide +kernel
theorem dX10_init_297 : decode cX10_init 297 = .ok (.putfield 120, 3) := by decide +kernel
theorem dX10_init_300 : decode cX10_init 300 = .ok (.aload_n 0, 1) := by decide +kernel
theorem dX10_init_301 : decode cX10_init 301 = .ok (.bipush 70, 2) := by decide +kernel
theorem dX10_init_303 : decode cX10_init 303 = .ok (.newarray .int, 2) := by decide +kernel
theorem dX10_init_305 : decode cX10_init 305 = .ok (.putfield 123, 3) := by decide +kernel
theorem dX10_init_308 : decode cX10_init 308 = .ok (.aload_n 0, 1) := by decide +kernel
theorem dX10_init_309 : decode cX10_init 309 = .ok (.bipush 71, 2) := by decide +kernel
theorem dX10_init_311 : decode cX10_init 311 = .ok (.newarray .int, 2) := by decide +kernel
theorem dX10_init_313 : decode cX10_init 313 = .ok (.putfield 126, 3) := by decide +kernel
theorem dX10_init_316 : decode cX10_init 316 = .ok (.aload_n 0, 1) := by decide +kernel
theorem dX10_init_317 : decode cX10_init 317 = .ok (.bipush 71, 2) := by decide +kernel
theorem dX10_init_319 : decode cX10_init 319 = .ok (.newarray .int, 2) := by decide +kernel
theorem dX10_init_321 : decode cX10_init 321 = .ok (.putfield 129, 3) := by decide +kernel
theorem dX10_init_324 : decode cX10_init 324 = .ok (.aload_n 0, 1) := by decide +kernel
theorem dX10_init_325 : decode cX10_init 325 = .ok (.bipush 40, 2) := by decide +kernel
theorem dX10_init_327 : decode cX10_init 327 = .ok (.newarray .int, 2) := by decide +kernel
theorem dX10_init_329 : decode cX10_init 329 = .ok (.putfield 132, 3) := by decide +kernel
theorem dX10_init_332 : decode cX10_init 332 = .ok (.aload_n 0, 1) := by decide +kernel
theorem dX10_init_333 : decode cX10_init 333 = .ok (.bipush 40, 2) := by decide +kernel
theorem dX10_init_335 : decode cX10_init 335 = .ok (.newarray .int, 2) := by decide +kernel
theorem dX10_init_337 : decode cX10_init 337 = .ok (.putfield 135, 3) := by decide +kernel
theorem dX10_init_340 : decode cX10_init 340 = .ok (.aload_n 0, 1) := by decide +kernel
theorem dX10_init_341 : decode cX10_init 341 = .ok (.bipush 40, 2) := by decide +kernel
theorem dX10_init_343 : decode cX10_init 343 = .ok (.newarray .int, 2) := by decide +kernel
theorem dX10_init_345 : decode cX10_init 345 = .ok (.putfield 138, 3) := by decide +kernel
theorem dX10_init_348 : decode cX10_init 348 = .ok (.aload_n 0, 1) := by decide +kernel
theorem dX10_init_349 : decode cX10_init 349 = .ok (.iconst 4, 1) := by decide +kernel
theorem dX10_init_350 : decode cX10_init 350 = .ok (.newarray .int, 2) := by decide +kernel
theorem dX10_init_352 : decode cX10_init 352 = .ok (.putfield 141, 3) := by decide +kernel
theorem dX10_init_355 : decode cX10_init 355 = .ok (.aload_n 0, 1) := by decide +kernel
theorem dX10_init_356 : decode cX10_init 356 = .ok (.sipush 160, 3) := by decide +kernel
theorem dX10_init_359 : decode cX10_init 359 = .ok (.newarray .int, 2) := by decide +kernel
theorem dX10_init_361 : decode cX10_init 361 = .ok (.putfield 144, 3) := by decide +kernel
theorem dX10_init_364 : decode cX10_init 364 = .ok (.aload_n 0, 1) := by decide +kernel
theorem dX10_init_365 : decode cX10_init 365 = .ok (.bipush 30, 2) := by decide +kernel
theorem dX10_init_367 : decode cX10_init 367 = .ok (.newarray .int, 2) := by decide +kernel
theorem dX10_init_369 : decode cX10_init 369 = .ok (.putfield 147, 3) := by decide +kernel
theorem dX10_init_372 : decode cX10_init 372 = .ok (.aload_n 0, 1) := by decide +kernel
theorem dX10_init_373 : decode cX10_init 373 = .ok (.bipush 30, 2) := by decide +kernel
theorem dX10_init_375 : decode cX10_init 375 = .ok (.newarray .int, 2) := by decide +kernel
theorem dX10_init_377 : decode cX10_init 377 = .ok (.putfield 150, 3) := by decide +kernel
theorem dX10_init_380 : decode cX10_init 380 = .ok (.aload_n 0, 1) := by decide +kernel
theorem dX10_init_381 : decode cX10_init 381 = .ok (.bipush 30, 2) := by decide +kernel
theorem dX10_init_383 : decode cX10_init 383 = .ok (.newarray .int, 2) := by decide +kernel
theorem dX10_init_385 : decode cX10_init 385 = .ok (.putfield 153, 3) := by decide +kernel
theorem dX10_init_388 : decode cX10_init 388 = .ok (.iconst 0, 1) := by decide +kernel
theorem dX10_init_389 : decode cX10_init 389 = .ok (.istore_n 1, 1) := by decide +kernel
theorem dX10_init_390 : decode cX10_init 390 = .ok (.iload_n 1, 1) := by decide +kernel
theorem dX10_init_391 : decode cX10_init 391 = .ok (.bipush 6, 2) := by decide +kernel
theorem dX10_init_393 : decode cX10_init 393 = .ok (.if_icmp .ge 17, 3) := by decide +kernel
theorem dX10_init_396 : decode cX10_init 396 = .ok (.aload_n 0, 1) := by decide +kernel
theorem dX10_init_397 : decode cX10_init 397 = .ok (.getfield 17, 3) := by decide +kernel
theorem dX10_init_400 : decode cX10_init 400 = .ok (.iload_n 1, 1) := by decide +kernel
theorem dX10_init_401 : decode cX10_init 401 = .ok (.bipush (-9), 2) := by decide +kernel
theorem dX10_init_403 : decode cX10_init 403 = .ok (.iastore, 1) := by decide +kernel
theorem dX10_init_404 : decode cX10_init 404 = .ok (.iinc 1 1, 3) := by decide +kernel
theorem dX10_init_407 : decode cX10_init 407 = .ok (.goto (-17), 3) := by decide +kernel
theorem dX10_init_410 : decode cX10_init 410 = .ok (.iconst 0, 1) := by decide +kernel
theorem dX10_init_411 : decode cX10_init 411 = .ok (.istore_n 1, 1) := by decide +kernel
theorem dX10_init_412 : decode cX10_init 412 = .ok (.iload_n 1, 1) := by decide +kernel
theorem dX10_init_413 : decode cX10_init 413 = .ok (.iconst 4, 1) := by decide +kernel
theorem dX10_init_414 : decode cX10_init 414 = .ok (.if_icmp .ge 25, 3) := by decide +kernel
theorem dX10_init_417 : decode cX10_init 417 = .ok (.aload_n 0, 1) := by decide +kernel
theorem dX10_init_418 : decode cX10_init 418 = .ok (.getfield 26, 3) := by decide +kernel
theorem dX10_init_421 : decode cX10_init 421 = .ok (.iload_n 1, 1) := by decide +kernel
theorem dX10_init_422 : decode cX10_init 422 = .ok (.bipush (-9), 2) := by decide +kernel
theorem dX10_init_424 : decode cX10_init 424 = .ok (.iastore, 1) := by decide +kernel
theorem dX10_init_425 : decode cX10_init 425 = .ok (.aload_n 0, 1) := by decide +kernel
theorem dX10_init_426 : decode cX10_init 426 = .ok (.getfield 141, 3) := by decide +kernel
theorem dX10_init_429 : decode cX10_init 429 = .ok (.iload_n 1, 1) := by decide +kernel
theorem dX10_init_430 : decode cX10_init 430 = .ok (.bipush (-9), 2) := by decide +kernel
theorem dX10_init_432 : decode cX10_init 432 = .ok (.iastore, 1) := by decide +kernel
theorem dX10_init_433 : decode cX10_init 433 = .ok (.iinc 1 1, 3) := by decide +kernel
theorem dX10_init_436 : decode cX10_init 436 = .ok (.goto (-24), 3) := by decide +kernel
theorem dX10_init_439 : decode cX10_init 439 = .ok (.iconst 0, 1) := by decide +kernel
theorem dX10_init_440 : decode cX10_init 440 = .ok (.istore_n 1, 1) := by decide +kernel
theorem dX10_init_441 : decode cX10_init 441 = .ok (.iload_n 1, 1) := by decide +kernel
theorem dX10_init_442 : decode cX10_init 442 = .ok (.bipush 10, 2) := by decide +kernel
theorem dX10_init_444 : decode cX10_init 444 = .ok (.if_icmp .ge 17, 3) := by decide +kernel
theorem dX10_init_447 : decode cX10_init 447 = .ok (.aload_n 0, 1) := by decide +kernel
theorem dX10_init_448 : decode cX10_init 448 = .ok (.getfield 32, 3) := by decide +kernel
theorem dX10_init_451 : decode cX10_init 451 = .ok (.iload_n 1, 1) := by decide +kernel
theorem dX10_init_452 : decode cX10_init 452 = .ok (.bipush (-9), 2) := by decide +kernel
theorem dX10_init_454 : decode cX10_init 454 = .ok (.iastore, 1) := by decide +kernel
theorem dX10_init_455 : decode cX10_init 455 = .ok (.iinc 1 1, 3) := by decide +kernel
theorem dX10_init_458 : decode cX10_init 458 = .ok (.goto (-17), 3) := by decide +kernel
theorem dX10_init_461 : decode cX10_init 461 = .ok (.iconst 0, 1) := by decide +kernel
theorem dX10_init_462 : decode cX10_init 462 = .ok (.istore_n 1, 1) := by decide +kernel
theorem dX10_init_463 : decode cX10_init 463 = .ok (.iload_n 1, 1) := by decide +kernel
theorem dX10_init_464 : decode cX10_init 464 = .ok (.bipush 6, 2) := by decide +kernel
theorem dX10_init_466 : decode cX10_init 466 = .ok (.if_icmp .ge 17, 3) := by decide +kernel
theorem dX10_init_469 : decode cX10_init 469 = .ok (.aload_n 0, 1) := by decide +kernel
theorem dX10_init_470 : decode cX10_init 470 = .ok (.getfield 44, 3) := by decide +kernel
theorem dX10_init_473 : decode cX10_init 473 = .ok (.iload_n 1, 1) := by decide +kernel
theorem dX10_init_474 : decode cX10_init 474 = .ok (.bipush (-9), 2) := by decide +kernel
theorem dX10_init_476 : decode cX10_init 476 = .ok (.iastore, 1) := by decide +kernel
theorem dX10_init_477 : decode cX10_init 477 = .ok (.iinc 1 1, 3) := by decide +kernel
theorem dX10_init_480 : decode cX10_init 480 = .ok (.goto (-17), 3) := by decide +kernel
theorem dX10_init_483 : decode cX10_init 483 = .ok (.iconst 0, 1) := by decide +kernel
theorem dX10_init_484 : decode cX10_init 484 = .ok (.istore_n 1, 1) := by decide +kernel
theorem dX10_init_485 : decode cX10_init 485 = .ok (.iload_n 1, 1) := by decide +kernel
theorem dX10_init_486 : decode cX10_init 486 = .ok (.bipush 8, 2) := by decide +kernel
theorem dX10_init_488 : decode cX10_init 488 = .ok (.if_icmp .ge 25, 3) := by decide +kernel
theorem dX10_init_491 : decode cX10_init 491 = .ok (.aload_n 0, 1) := by decide +kernel
theorem dX10_init_492 : decode cX10_init 492 = .ok (.getfield 62, 3) := by decide +kernel
theorem dX10_init_495 : decode cX10_init 495 = .ok (.iload_n 1, 1) := by decide +kernel
theorem dX10_init_496 : decode cX10_init 496 = .ok (.bipush (-9), 2) := by decide +kernel
theorem dX10_init_498 : decode cX10_init 498 = .ok (.iastore, 1) := by decide +kernel
theorem dX10_init_499 : decode cX10_init 499 = .ok (.aload_n 0, 1) := by decide +kernel
theorem dX10_init_500 : decode cX10_init 500 = .ok (.getfield 65, 3) := by decide +kernel
theorem dX10_init_503 : decode cX10_init 503 = .ok (.iload_n 1, 1) := by decide +kernel
theorem dX10_init_504 : decode cX10_init 504 = .ok (.bipush (-9), 2) := by decide +kernel
theorem dX10_init_506 : decode cX10_init 506 = .ok (.iastore, 1) := by decide +kernel
theorem dX10_init_507 : decode cX10_init 507 = .ok (.iinc 1 1, 3) := by decide +kernel
theorem dX10_init_510 : decode cX10_init 510 = .ok (.goto (-25), 3) := by decide +kernel
theorem dX10_init_513 : decode cX10_init 513 = .ok (.return_, 1) := by decide +kernel
def c_X10_init_L390 (F : Nat) (a143 : Nat) (k410 : z_Hp → Option (z_Hp)) : Nat → Int32 → z_Hp → Option (z_Hp)
  | 0, _, _ => none
  | n + 1, x144, h145 => (if 6 ≤ x144 then (k410 h145) else (if hT h145 a143 = 10 then (lt_ (hR h145 a143 7) (fun o147 => (nn o147 (fun a148 => (if okA h145 a148 20 x144 = true then (lt_ (sI h145 a148 (ix x144) (-9)) (fun h149 => (lt_ (x144 + 1) (fun x150 => (c_X10_init_L390 F a143 k410 n x150 h149))))) else none))))) else none))
def c_X10_init_L412 (F : Nat) (a152 : Nat) (k439 : z_Hp → Option (z_Hp)) : Nat → Int32 → z_Hp → Option (z_Hp)
  | 0, _, _ => none
  | n + 1, x153, h154 => (if 4 ≤ x153 then (k439 h154) else (if hT h154 a152 = 10 then (lt_ (hR h154 a152 10) (fun o156 => (nn o156 (fun a157 => (if okA h154 a157 20 x153 = true then (lt_ (sI h154 a157 (ix x153) (-9)) (fun h158 => (if hT h158 a152 = 10 then (lt_ (hR h158 a152 53) (fun o159 => (nn o159 (fun a160 => (if okA h158 a160 20 x153 = true then (lt_ (sI h158 a160 (ix x153) (-9)) (fun h161 => (lt_ (x153 + 1) (fun x162 => (c_X10_init_L412 F a152 k439 n x162 h161))))) else none))))) else none))) else none))))) else none))
def c_X10_init_L441 (F : Nat) (a164 : Nat) (k461 : z_Hp → Option (z_Hp)) : Nat → Int32 → z_Hp → Option (z_Hp)
  | 0, _, _ => none
  | n + 1, x165, h166 => (if 10 ≤ x165 then (k461 h166) else (if hT h166 a164 = 10 then (lt_ (hR h166 a164 12) (fun o168 => (nn o168 (fun a169 => (if okA h166 a169 20 x165 = true then (lt_ (sI h166 a169 (ix x165) (-9)) (fun h170 => (lt_ (x165 + 1) (fun x171 => (c_X10_init_L441 F a164 k461 n x171 h170))))) else none))))) else none))
def c_X10_init_L463 (F : Nat) (a173 : Nat) (k483 : z_Hp → Option (z_Hp)) : Nat → Int32 → z_Hp → Option (z_Hp)
  | 0, _, _ => none
  | n + 1, x174, h175 => (if 6 ≤ x174 then (k483 h175) else (if hT h175 a173 = 10 then (lt_ (hR h175 a173 17) (fun o177 => (nn o177 (fun a178 => (if okA h175 a178 20 x174 = true then (lt_ (sI h175 a178 (ix x174) (-9)) (fun h179 => (lt_ (x174 + 1) (fun x180 => (c_X10_init_L463 F a173 k483 n x180 h179))))) else none))))) else none))
def c_X10_init_L485 (F : Nat) (a182 : Nat) : Nat → Int32 → z_Hp → Option (z_Hp)
  | 0, _, _ => none
  | n + 1, x183, h184 => (if 8 ≤ x183 then (some h184) else (if hT h184 a182 = 10 then (lt_ (hR h184 a182 24) (fun o185 => (nn o185 (fun a186 => (if okA h184 a186 20 x183 = true then (lt_ (sI h184 a186 (ix x183) (-9)) (fun h187 => (if hT h187 a182 = 10 then (lt_ (hR h187 a182 25) (fun o188 => (nn o188 (fun a189 => (if okA h187 a189 20 x183 = true then (lt_ (sI h187 a189 (ix x183) (-9)) (fun h190 => (lt_ (x183 + 1) (fun x191 => (c_X10_init_L485 F a182 n x191 h190))))) else none))))) else none))) else none))))) else none))
set_option maxRecDepth 20000 in
def c_X10_init (F : Nat) (a0 : Nat) (h0 : z_Hp) : Option (z_Hp) := (if inb 6 100000 = true then (nwo h0 20 (ix 6) (fun a1 h2 => (if hT h2 a0 = 10 then (lt_ (sR h2 a0 1 (some a1)) (fun h3 => (if hT h3 a0 = 10 then (lt_ (sJ h3 a0 5 1) (fun h4 => (if inb 6 100000 = true then (nwo h4 20 (ix 6) (fun a5 h6 => (if hT h6 a0 = 10 then (lt_ (sR h6 a0 7 (some a5)) (fun h7 => (if inb 240 100000 = true then (nwo h7 20 (ix 240) (fun a8 h9 => (if hT h9 a0 = 10 then (lt_ (sR h9 a0 8 (some a8)) (fun h10 => (if inb 40 100000 = true then (nwo h10 20 (ix 40) (fun a11 h12 => (if hT h12 a0 = 10 then (lt_ (sR h12 a0 9 (some a11)) (fun h13 => (if inb 4 100000 = true then (nwo h13 20 (ix 4) (fun a14 h15 => (if hT h15 a0 = 10 then (lt_ (sR h15 a0 10 (some a14)) (fun h16 => (if inb 240 100000 = true then (nwo h16 20 (ix 240) (fun a17 h18 => (if hT h18 a0 = 10 then (lt_ (sR h18 a0 11 (some a17)) (fun h19 => (if inb 10 100000 = true then (nwo h19 20 (ix 10) (fun a20 h21 => (if hT h21 a0 = 10 then (lt_ (sR h21 a0 12 (some a20)) (fun h22 => (if inb 600 100000 = true then (nwo h22 20 (ix 600) (fun a23 h24 => (if hT h24 a0 = 10 then (lt_ (sR h24 a0 13 (some a23)) (fun h25 => (if inb 70 100000 = true then (nwo h25 20 (ix 70) (fun a26 h27 => (if hT h27 a0 = 10 then (lt_ (sR h27 a0 15 (some a26)) (fun h28 => (if inb 70 100000 = true then (nwo h28 20 (ix 70) (fun a29 h30 => (if hT h30 a0 = 10 then (lt_ (sR h30 a0 16 (some a29)) (fun h31 => (if inb 6 100000 = true then (nwo h31 20 (ix 6) (fun a32 h33 => (if hT h33 a0 = 10 then (lt_ (sR h33 a0 17 (some a32)) (fun h34 => (if inb 48 100000 = true then (nwo h34 20 (ix 48) (fun a35 h36 => (if hT h36 a0 = 10 then (lt_ (sR h36 a0 18 (some a35)) (fun h37 => (if inb 16 100000 = true then (nwo h37 20 (ix 16) (fun a38 h39 => (if hT h39 a0 = 10 then (lt_ (sR h39 a0 20 (some a38)) (fun h40 => (if inb 16 100000 = true then (nwo h40 20 (ix 16) (fun a41 h42 => (if hT h42 a0 = 10 then (lt_ (sR h42 a0 21 (some a41)) (fun h43 => (if inb 80 100000 = true then (nwo h43 20 (ix 80) (fun a44 h45 => (if hT h45 a0 = 10 then (lt_ (sR h45 a0 22 (some a44)) (fun h46 => (if inb 5 100000 = true then (nwo h46 20 (ix 5) (fun a47 h48 => (if hT h48 a0 = 10 then (lt_ (sR h48 a0 23 (some a47)) (fun h49 => (if inb 8 100000 = true then (nwo h49 20 (ix 8) (fun a50 h51 => (if hT h51 a0 = 10 then (lt_ (sR h51 a0 24 (some a50)) (fun h52 => (if inb 8 100000 = true then (nwo h52 20 (ix 8) (fun a53 h54 => (if hT h54 a0 = 10 then (lt_ (sR h54 a0 25 (some a53)) (fun h55 => (if inb 20 100000 = true then (nwo h55 20 (ix 20) (fun a56 h57 => (if hT h57 a0 = 10 then (lt_ (sR h57 a0 27 (some a56)) (fun h58 => (if inb 20 100000 = true then (nwo h58 20 (ix 20) (fun a59 h60 => (if hT h60 a0 = 10 then (lt_ (sR h60 a0 28 (some a59)) (fun h61 => (if inb 20 100000 = true then (nwo h61 20 (ix 20) (fun a62 h63 => (if hT h63 a0 = 10 then (lt_ (sR h63 a0 29 (some a62)) (fun h64 => (if inb 20 100000 = true then (nwo h64 20 (ix 20) (fun a65 h66 => (if hT h66 a0 = 10 then (lt_ (sR h66 a0 30 (some a65)) (fun h67 => (if inb 20 100000 = true then (nwo h67 20 (ix 20) (fun a68 h69 => (if hT h69 a0 = 10 then (lt_ (sR h69 a0 31 (some a68)) (fun h70 => (if inb 20 100000 = true then (nwo h70 20 (ix 20) (fun a71 h72 => (if hT h72 a0 = 10 then (lt_ (sR h72 a0 32 (some a71)) (fun h73 => (if inb 20 100000 = true then (nwo h73 20 (ix 20) (fun a74 h75 => (if hT h75 a0 = 10 then (lt_ (sR h75 a0 33 (some a74)) (fun h76 => (if inb 20 100000 = true then (nwo h76 20 (ix 20) (fun a77 h78 => (if hT h78 a0 = 10 then (lt_ (sR h78 a0 34 (some a77)) (fun h79 => (if inb 20 100000 = true then (nwo h79 20 (ix 20) (fun a80 h81 => (if hT h81 a0 = 10 then (lt_ (sR h81 a0 35 (some a80)) (fun h82 => (if inb 20 100000 = true then (nwo h82 20 (ix 20) (fun a83 h84 => (if hT h84 a0 = 10 then (lt_ (sR h84 a0 36 (some a83)) (fun h85 => (if inb 20 100000 = true then (nwo h85 20 (ix 20) (fun a86 h87 => (if hT h87 a0 = 10 then (lt_ (sR h87 a0 37 (some a86)) (fun h88 => (if inb 800 100000 = true then (nwo h88 20 (ix 800) (fun a89 h90 => (if hT h90 a0 = 10 then (lt_ (sR h90 a0 38 (some a89)) (fun h91 => (if inb 20 100000 = true then (nwo h91 20 (ix 20) (fun a92 h93 => (if hT h93 a0 = 10 then (lt_ (sR h93 a0 40 (some a92)) (fun h94 => (if inb 20 100000 = true then (nwo h94 20 (ix 20) (fun a95 h96 => (if hT h96 a0 = 10 then (lt_ (sR h96 a0 41 (some a95)) (fun h97 => (if inb 4096 100000 = true then (nwo h97 22 (ix 4096) (fun a98 h99 => (if hT h99 a0 = 10 then (lt_ (sR h99 a0 42 (some a98)) (fun h100 => (if inb 20 100000 = true then (nwo h100 20 (ix 20) (fun a101 h102 => (if hT h102 a0 = 10 then (lt_ (sR h102 a0 43 (some a101)) (fun h103 => (if inb 20 100000 = true then (nwo h103 20 (ix 20) (fun a104 h105 => (if hT h105 a0 = 10 then (lt_ (sR h105 a0 44 (some a104)) (fun h106 => (if inb 70 100000 = true then (nwo h106 20 (ix 70) (fun a107 h108 => (if hT h108 a0 = 10 then (lt_ (sR h108 a0 45 (some a107)) (fun h109 => (if inb 70 100000 = true then (nwo h109 20 (ix 70) (fun a110 h111 => (if hT h111 a0 = 10 then (lt_ (sR h111 a0 46 (some a110)) (fun h112 => (if inb 71 100000 = true then (nwo h112 20 (ix 71) (fun a113 h114 => (if hT h114 a0 = 10 then (lt_ (sR h114 a0 47 (some a113)) (fun h115 => (if inb 71 100000 = true then (nwo h115 20 (ix 71) (fun a116 h117 => (if hT h117 a0 = 10 then (lt_ (sR h117 a0 48 (some a116)) (fun h118 => (if inb 40 100000 = true then (nwo h118 20 (ix 40) (fun a119 h120 => (if hT h120 a0 = 10 then (lt_ (sR h120 a0 50 (some a119)) (fun h121 => (if inb 40 100000 = true then (nwo h121 20 (ix 40) (fun a122 h123 => (if hT h123 a0 = 10 then (lt_ (sR h123 a0 51 (some a122)) (fun h124 => (if inb 40 100000 = true then (nwo h124 20 (ix 40) (fun a125 h126 => (if hT h126 a0 = 10 then (lt_ (sR h126 a0 52 (some a125)) (fun h127 => (if inb 4 100000 = true then (nwo h127 20 (ix 4) (fun a128 h129 => (if hT h129 a0 = 10 then (lt_ (sR h129 a0 53 (some a128)) (fun h130 => (if inb 160 100000 = true then (nwo h130 20 (ix 160) (fun a131 h132 => (if hT h132 a0 = 10 then (lt_ (sR h132 a0 54 (some a131)) (fun h133 => (if inb 30 100000 = true then (nwo h133 20 (ix 30) (fun a134 h135 => (if hT h135 a0 = 10 then (lt_ (sR h135 a0 56 (some a134)) (fun h136 => (if inb 30 100000 = true then (nwo h136 20 (ix 30) (fun a137 h138 => (if hT h138 a0 = 10 then (lt_ (sR h138 a0 57 (some a137)) (fun h139 => (if inb 30 100000 = true then (nwo h139 20 (ix 30) (fun a140 h141 => (if hT h141 a0 = 10 then (lt_ (sR h141 a0 58 (some a140)) (fun h142 => (c_X10_init_L390 F a0 (fun h151 => (c_X10_init_L412 F a0 (fun h163 => (c_X10_init_L441 F a0 (fun h172 => (c_X10_init_L463 F a0 (fun h181 => (c_X10_init_L485 F a0 F 0 h181)) F 0 h172)) F 0 h163)) F 0 h151)) F 0 h142))) else none))) else none))) else none))) else none))) else none))) else none))) else none))) else none))) else none))) else none))) else none))) else none))) else none))) else none))) else none))) else none))) else none))) else none))) else none))) else none))) else none))) else none))) else none))) else none))) else none))) else none))) else none))) else none))) else none))) else none))) else none))) else none))) else none))) else none))) else none))) else none))) else none))) else none))) else none))) else none))) else none))) else none))) else none))) else none))) else none))) else none))) else none))) else none))) else none))) else none))) else none))) else none))) else none))) else none))) else none))) else none))) else none))) else none))) else none))) else none))) else none))) else none))) else none))) else none))) else none))) else none))) else none))) else none))) else none))) else none))) else none))) else none))) else none))) else none))) else none))) else none))) else none))) else none))) else none))) else none))) else none))) else none))) else none))) else none))) else none))) else none))) else none))) else none))) else none))) else none))) else none))) else none))) else none))) else none))) else none)
set_option maxRecDepth 20000 in
set_option maxHeartbeats 4000000 in
theorem g_X10_init_L390 (F : Nat) (a143 : Nat) (k410 : z_Hp → Option (z_Hp)) (qk410 : ∀ (h146 : z_Hp), z_G zv mi_X10_init 410 [(0, vr (some a143))] [] h146 (k410 h146)) : ∀ (n : Nat) (x144 : Int32) (h145 : z_Hp), z_G zv mi_X10_init 390 [(0, vr (some a143)), (1, vi x144)] [] h145 (c_X10_init_L390 F a143 k410 n x144 h145) := by
  intro n
  induction n with
  | zero => intro x144 h145; rw [c_X10_init_L390]; exact z_none
  | succ n ih =>
    intro x144 h145
    rw [c_X10_init_L390]
    refine z_iload_n (pc := 390) dX10_init_390 rfl 1 rfl (z_bipush (pc := 391) dX10_init_391 bp_6 (?_))
    refine z_icmp_ge (pc := 393) (tgt := 410) dX10_init_393 (by decide) ?_ ?_
    · exact z_sub [0] rfl (qk410 h145)
    · refine z_aload_n (pc := 396) dX10_init_396 rfl 0 rfl (z_getRl (pc := 397) fl_RX10_17 rfl dX10_init_397 (fun o147 => (z_iload_n (pc := 400) dX10_init_400 rfl 1 rfl (z_bipush (pc := 401) dX10_init_401 bp_m9 (?_)))))
      refine z_nn (fun a148 ea148 => ?_)
      subst ea148
      refine z_iastorel (pc := 403) dX10_init_403 (fun h149 => (z_iincl (pc := 404) (L' := fun x150 => [(0, vr (some a143)), (1, vi x150)]) dX10_init_404 1 rfl ic_1 (Nat.le_of_ble_eq_true rfl) (fun _ => rfl) (fun x150 => (z_goto (pc := 407) (tgt := 390) dX10_init_407 (by decide) (?_)))))
      exact ih x150 h149
set_option maxRecDepth 20000 in
set_option maxHeartbeats 4000000 in
theorem g_X10_init_L412 (F : Nat) (a152 : Nat) (k439 : z_Hp → Option (z_Hp)) (qk439 : ∀ (h155 : z_Hp), z_G zv mi_X10_init 439 [(0, vr (some a152))] [] h155 (k439 h155)) : ∀ (n : Nat) (x153 : Int32) (h154 : z_Hp), z_G zv mi_X10_init 412 [(0, vr (some a152)), (1, vi x153)] [] h154 (c_X10_init_L412 F a152 k439 n x153 h154) := by
  intro n
  induction n with
  | zero => intro x153 h154; rw [c_X10_init_L412]; exact z_none
  | succ n ih =>
    intro x153 h154
    rw [c_X10_init_L412]
    refine z_iload_n (pc := 412) dX10_init_412 rfl 1 rfl (z_iconst (pc := 413) dX10_init_413 ic_4 (?_))
    refine z_icmp_ge (pc := 414) (tgt := 439) dX10_init_414 (by decide) ?_ ?_
    · exact z_sub [0] rfl (qk439 h154)
    · refine z_aload_n (pc := 417) dX10_init_417 rfl 0 rfl (z_getRl (pc := 418) fl_RX10_26 rfl dX10_init_418 (fun o156 => (z_iload_n (pc := 421) dX10_init_421 rfl 1 rfl (z_bipush (pc := 422) dX10_init_422 bp_m9 (?_)))))
      refine z_nn (fun a157 ea157 => ?_)
      subst ea157
      refine z_iastorel (pc := 424) dX10_init_424 (fun h158 => (z_aload_n (pc := 425) dX10_init_425 rfl 0 rfl (z_getRl (pc := 426) fl_RX10_141 rfl dX10_init_426 (fun o159 => (z_iload_n (pc := 429) dX10_init_429 rfl 1 rfl (z_bipush (pc := 430) dX10_init_430 bp_m9 (?_)))))))
      refine z_nn (fun a160 ea160 => ?_)
      subst ea160
      refine z_iastorel (pc := 432) dX10_init_432 (fun h161 => (z_iincl (pc := 433) (L' := fun x162 => [(0, vr (some a152)), (1, vi x162)]) dX10_init_433 1 rfl ic_1 (Nat.le_of_ble_eq_true rfl) (fun _ => rfl) (fun x162 => (z_goto (pc := 436) (tgt := 412) dX10_init_436 (by decide) (?_)))))
      exact ih x162 h161
set_option maxRecDepth 20000 in
set_option maxHeartbeats 4000000 in
theorem g_X10_init_L441 (F : Nat) (a164 : Nat) (k461 : z_Hp → Option (z_Hp)) (qk461 : ∀ (h167 : z_Hp), z_G zv mi_X10_init 461 [(0, vr (some a164))] [] h167 (k461 h167)) : ∀ (n : Nat) (x165 : Int32) (h166 : z_Hp), z_G zv mi_X10_init 441 [(0, vr (some a164)), (1, vi x165)] [] h166 (c_X10_init_L441 F a164 k461 n x165 h166) := by
  intro n
  induction n with
  | zero => intro x165 h166; rw [c_X10_init_L441]; exact z_none
  | succ n ih =>
    intro x165 h166
    rw [c_X10_init_L441]
    refine z_iload_n (pc := 441) dX10_init_441 rfl 1 rfl (z_bipush (pc := 442) dX10_init_442 bp_10 (?_))
    refine z_icmp_ge (pc := 444) (tgt := 461) dX10_init_444 (by decide) ?_ ?_
    · exact z_sub [0] rfl (qk461 h166)
    · refine z_aload_n (pc := 447) dX10_init_447 rfl 0 rfl (z_getRl (pc := 448) fl_RX10_32 rfl dX10_init_448 (fun o168 => (z_iload_n (pc := 451) dX10_init_451 rfl 1 rfl (z_bipush (pc := 452) dX10_init_452 bp_m9 (?_)))))
      refine z_nn (fun a169 ea169 => ?_)
      subst ea169
      refine z_iastorel (pc := 454) dX10_init_454 (fun h170 => (z_iincl (pc := 455) (L' := fun x171 => [(0, vr (some a164)), (1, vi x171)]) dX10_init_455 1 rfl ic_1 (Nat.le_of_ble_eq_true rfl) (fun _ => rfl) (fun x171 => (z_goto (pc := 458) (tgt := 441) dX10_init_458 (by decide) (?_)))))
      exact ih x171 h170
set_option maxRecDepth 20000 in
set_option maxHeartbeats 4000000 in
theorem g_X10_init_L463 (F : Nat) (a173 : Nat) (k483 : z_Hp → Option (z_Hp)) (qk483 : ∀ (h176 : z_Hp), z_G zv mi_X10_init 483 [(0, vr (some a173))] [] h176 (k483 h176)) : ∀ (n : Nat) (x174 : Int32) (h175 : z_Hp), z_G zv mi_X10_init 463 [(0, vr (some a173)), (1, vi x174)] [] h175 (c_X10_init_L463 F a173 k483 n x174 h175) := by
  intro n
  induction n with
  | zero => intro x174 h175; rw [c_X10_init_L463]; exact z_none
  | succ n ih =>
    intro x174 h175
    rw [c_X10_init_L463]
    refine z_iload_n (pc := 463) dX10_init_463 rfl 1 rfl (z_bipush (pc := 464) dX10_init_464 bp_6 (?_))
    refine z_icmp_ge (pc := 466) (tgt := 483) dX10_init_466 (by decide) ?_ ?_
    · exact z_sub [0] rfl (qk483 h175)
    · refine z_aload_n (pc := 469) dX10_init_469 rfl 0 rfl (z_getRl (pc := 470) fl_RX10_44 rfl dX10_init_470 (fun o177 => (z_iload_n (pc := 473) dX10_init_473 rfl 1 rfl (z_bipush (pc := 474) dX10_init_474 bp_m9 (?_)))))
      refine z_nn (fun a178 ea178 => ?_)
      subst ea178
      refine z_iastorel (pc := 476) dX10_init_476 (fun h179 => (z_iincl (pc := 477) (L' := fun x180 => [(0, vr (some a173)), (1, vi x180)]) dX10_init_477 1 rfl ic_1 (Nat.le_of_ble_eq_true rfl) (fun _ => rfl) (fun x180 => (z_goto (pc := 480) (tgt := 463) dX10_init_480 (by decide) (?_)))))
      exact ih x180 h179
set_option maxRecDepth 20000 in
set_option maxHeartbeats 4000000 in
theorem g_X10_init_L485 (F : Nat) (a182 : Nat) : ∀ (n : Nat) (x183 : Int32) (h184 : z_Hp), z_G zv mi_X10_init 485 [(0, vr (some a182)), (1, vi x183)] [] h184 (c_X10_init_L485 F a182 n x183 h184) := by
  intro n
  induction n with
  | zero => intro x183 h184; rw [c_X10_init_L485]; exact z_none
  | succ n ih =>
    intro x183 h184
    rw [c_X10_init_L485]
    refine z_iload_n (pc := 485) dX10_init_485 rfl 1 rfl (z_bipush (pc := 486) dX10_init_486 bp_8 (?_))
    refine z_icmp_ge (pc := 488) (tgt := 513) dX10_init_488 (by decide) ?_ ?_
    · exact z_vret (pc := 513) dX10_init_513 rfl
    · refine z_aload_n (pc := 491) dX10_init_491 rfl 0 rfl (z_getRl (pc := 492) fl_RX10_62 rfl dX10_init_492 (fun o185 => (z_iload_n (pc := 495) dX10_init_495 rfl 1 rfl (z_bipush (pc := 496) dX10_init_496 bp_m9 (?_)))))
      refine z_nn (fun a186 ea186 => ?_)
      subst ea186
      refine z_iastorel (pc := 498) dX10_init_498 (fun h187 => (z_aload_n (pc := 499) dX10_init_499 rfl 0 rfl (z_getRl (pc := 500) fl_RX10_65 rfl dX10_init_500 (fun o188 => (z_iload_n (pc := 503) dX10_init_503 rfl 1 rfl (z_bipush (pc := 504) dX10_init_504 bp_m9 (?_)))))))
      refine z_nn (fun a189 ea189 => ?_)
      subst ea189
      refine z_iastorel (pc := 506) dX10_init_506 (fun h190 => (z_iincl (pc := 507) (L' := fun x191 => [(0, vr (some a182)), (1, vi x191)]) dX10_init_507 1 rfl ic_1 (Nat.le_of_ble_eq_true rfl) (fun _ => rfl) (fun x191 => (z_goto (pc := 510) (tgt := 485) dX10_init_510 (by decide) (?_)))))
      exact ih x191 h190
set_option maxRecDepth 20000 in
set_option maxHeartbeats 4000000 in
theorem t_X10_init (F : Nat) (a0 : Nat) (h0 : z_Hp) : z_Ct zv mi_X10_init [vr (some a0)] h0 (c_X10_init F a0 h0) := by
  refine z_entry (by decide) (Nat.le_of_ble_eq_true rfl) [(0, vr (some a0))] rfl ?_
  unfold c_X10_init
  refine z_aload_n (pc := 0) dX10_init_0 rfl 0 rfl (z_objinit (pc := 1) wo_RX10_1 wo_im wo_cd (Nat.le_of_ble_eq_true rfl) (Nat.le_of_ble_eq_true rfl) (Nat.le_of_ble_eq_true rfl) dX10_init_1 (z_aload_n (pc := 4) dX10_init_4 rfl 0 rfl (z_bipush (pc := 5) dX10_init_5 bp_6 (z_newarrl (pc := 7) 20 (by decide) rfl wa_20 dX10_init_7 (fun a1 h2 => (z_putRl (pc := 9) fl_RX10_7 fin_X10_init_10_1 rfl dX10_init_9 (fun h3 => (z_aload_n (pc := 12) dX10_init_12 rfl 0 rfl (z_lconst (pc := 13) dX10_init_13 lc_1 (?_))))))))))
  refine z_putJl (pc := 14) fl_RX10_13 (fin_X_10_5 _) rfl dX10_init_14 (fun h4 => (z_aload_n (pc := 17) dX10_init_17 rfl 0 rfl (z_bipush (pc := 18) dX10_init_18 bp_6 (z_newarrl (pc := 20) 20 (by decide) rfl wa_20 dX10_init_20 (fun a5 h6 => (z_putRl (pc := 22) fl_RX10_17 fin_X10_init_10_7 rfl dX10_init_22 (fun h7 => (z_aload_n (pc := 25) dX10_init_25 rfl 0 rfl (z_sipush (pc := 26) dX10_init_26 sp_240 (z_newarrl (pc := 29) 20 (by decide) rfl wa_20 dX10_init_29 (fun a8 h9 => (?_))))))))))))
  refine z_putRl (pc := 31) fl_RX10_20 fin_X10_init_10_8 rfl dX10_init_31 (fun h10 => (z_aload_n (pc := 34) dX10_init_34 rfl 0 rfl (z_bipush (pc := 35) dX10_init_35 bp_40 (z_newarrl (pc := 37) 20 (by decide) rfl wa_20 dX10_init_37 (fun a11 h12 => (z_putRl (pc := 39) fl_RX10_23 fin_X10_init_10_9 rfl dX10_init_39 (fun h13 => (z_aload_n (pc := 42) dX10_init_42 rfl 0 rfl (z_iconst (pc := 43) dX10_init_43 ic_4 (z_newarrl (pc := 44) 20 (by decide) rfl wa_20 dX10_init_44 (fun a14 h15 => (?_))))))))))))
  refine z_putRl (pc := 46) fl_RX10_26 fin_X10_init_10_10 rfl dX10_init_46 (fun h16 => (z_aload_n (pc := 49) dX10_init_49 rfl 0 rfl (z_sipush (pc := 50) dX10_init_50 sp_240 (z_newarrl (pc := 53) 20 (by decide) rfl wa_20 dX10_init_53 (fun a17 h18 => (z_putRl (pc := 55) fl_RX10_29 fin_X10_init_10_11 rfl dX10_init_55 (fun h19 => (z_aload_n (pc := 58) dX10_init_58 rfl 0 rfl (z_bipush (pc := 59) dX10_init_59 bp_10 (z_newarrl (pc := 61) 20 (by decide) rfl wa_20 dX10_init_61 (fun a20 h21 => (?_))))))))))))
  refine z_putRl (pc := 63) fl_RX10_32 fin_X10_init_10_12 rfl dX10_init_63 (fun h22 => (z_aload_n (pc := 66) dX10_init_66 rfl 0 rfl (z_sipush (pc := 67) dX10_init_67 sp_600 (z_newarrl (pc := 70) 20 (by decide) rfl wa_20 dX10_init_70 (fun a23 h24 => (z_putRl (pc := 72) fl_RX10_35 fin_X10_init_10_13 rfl dX10_init_72 (fun h25 => (z_aload_n (pc := 75) dX10_init_75 rfl 0 rfl (z_bipush (pc := 76) dX10_init_76 bp_70 (z_newarrl (pc := 78) 20 (by decide) rfl wa_20 dX10_init_78 (fun a26 h27 => (?_))))))))))))
  refine z_putRl (pc := 80) fl_RX10_38 fin_X10_init_10_15 rfl dX10_init_80 (fun h28 => (z_aload_n (pc := 83) dX10_init_83 rfl 0 rfl (z_bipush (pc := 84) dX10_init_84 bp_70 (z_newarrl (pc := 86) 20 (by decide) rfl wa_20 dX10_init_86 (fun a29 h30 => (z_putRl (pc := 88) fl_RX10_41 fin_X10_init_10_16 rfl dX10_init_88 (fun h31 => (z_aload_n (pc := 91) dX10_init_91 rfl 0 rfl (z_bipush (pc := 92) dX10_init_92 bp_6 (z_newarrl (pc := 94) 20 (by decide) rfl wa_20 dX10_init_94 (fun a32 h33 => (?_))))))))))))
  refine z_putRl (pc := 96) fl_RX10_44 fin_X10_init_10_17 rfl dX10_init_96 (fun h34 => (z_aload_n (pc := 99) dX10_init_99 rfl 0 rfl (z_bipush (pc := 100) dX10_init_100 bp_48 (z_newarrl (pc := 102) 20 (by decide) rfl wa_20 dX10_init_102 (fun a35 h36 => (z_putRl (pc := 104) fl_RX10_47 fin_X10_init_10_18 rfl dX10_init_104 (fun h37 => (z_aload_n (pc := 107) dX10_init_107 rfl 0 rfl (z_bipush (pc := 108) dX10_init_108 bp_16 (z_newarrl (pc := 110) 20 (by decide) rfl wa_20 dX10_init_110 (fun a38 h39 => (?_))))))))))))
  refine z_putRl (pc := 112) fl_RX10_50 fin_X10_init_10_20 rfl dX10_init_112 (fun h40 => (z_aload_n (pc := 115) dX10_init_115 rfl 0 rfl (z_bipush (pc := 116) dX10_init_116 bp_16 (z_newarrl (pc := 118) 20 (by decide) rfl wa_20 dX10_init_118 (fun a41 h42 => (z_putRl (pc := 120) fl_RX10_53 fin_X10_init_10_21 rfl dX10_init_120 (fun h43 => (z_aload_n (pc := 123) dX10_init_123 rfl 0 rfl (z_bipush (pc := 124) dX10_init_124 bp_80 (z_newarrl (pc := 126) 20 (by decide) rfl wa_20 dX10_init_126 (fun a44 h45 => (?_))))))))))))
  refine z_putRl (pc := 128) fl_RX10_56 fin_X10_init_10_22 rfl dX10_init_128 (fun h46 => (z_aload_n (pc := 131) dX10_init_131 rfl 0 rfl (z_iconst (pc := 132) dX10_init_132 ic_5 (z_newarrl (pc := 133) 20 (by decide) rfl wa_20 dX10_init_133 (fun a47 h48 => (z_putRl (pc := 135) fl_RX10_59 fin_X10_init_10_23 rfl dX10_init_135 (fun h49 => (z_aload_n (pc := 138) dX10_init_138 rfl 0 rfl (z_bipush (pc := 139) dX10_init_139 bp_8 (z_newarrl (pc := 141) 20 (by decide) rfl wa_20 dX10_init_141 (fun a50 h51 => (?_))))))))))))
  refine z_putRl (pc := 143) fl_RX10_62 fin_X10_init_10_24 rfl dX10_init_143 (fun h52 => (z_aload_n (pc := 146) dX10_init_146 rfl 0 rfl (z_bipush (pc := 147) dX10_init_147 bp_8 (z_newarrl (pc := 149) 20 (by decide) rfl wa_20 dX10_init_149 (fun a53 h54 => (z_putRl (pc := 151) fl_RX10_65 fin_X10_init_10_25 rfl dX10_init_151 (fun h55 => (z_aload_n (pc := 154) dX10_init_154 rfl 0 rfl (z_bipush (pc := 155) dX10_init_155 bp_20 (z_newarrl (pc := 157) 20 (by decide) rfl wa_20 dX10_init_157 (fun a56 h57 => (?_))))))))))))
  refine z_putRl (pc := 159) fl_RX10_68 fin_X10_init_10_27 rfl dX10_init_159 (fun h58 => (z_aload_n (pc := 162) dX10_init_162 rfl 0 rfl (z_bipush (pc := 163) dX10_init_163 bp_20 (z_newarrl (pc := 165) 20 (by decide) rfl wa_20 dX10_init_165 (fun a59 h60 => (z_putRl (pc := 167) fl_RX10_71 fin_X10_init_10_28 rfl dX10_init_167 (fun h61 => (z_aload_n (pc := 170) dX10_init_170 rfl 0 rfl (z_bipush (pc := 171) dX10_init_171 bp_20 (z_newarrl (pc := 173) 20 (by decide) rfl wa_20 dX10_init_173 (fun a62 h63 => (?_))))))))))))
  refine z_putRl (pc := 175) fl_RX10_74 fin_X10_init_10_29 rfl dX10_init_175 (fun h64 => (z_aload_n (pc := 178) dX10_init_178 rfl 0 rfl (z_bipush (pc := 179) dX10_init_179 bp_20 (z_newarrl (pc := 181) 20 (by decide) rfl wa_20 dX10_init_181 (fun a65 h66 => (z_putRl (pc := 183) fl_RX10_77 fin_X10_init_10_30 rfl dX10_init_183 (fun h67 => (z_aload_n (pc := 186) dX10_init_186 rfl 0 rfl (z_bipush (pc := 187) dX10_init_187 bp_20 (z_newarrl (pc := 189) 20 (by decide) rfl wa_20 dX10_init_189 (fun a68 h69 => (?_))))))))))))
  refine z_putRl (pc := 191) fl_RX10_80 fin_X10_init_10_31 rfl dX10_init_191 (fun h70 => (z_aload_n (pc := 194) dX10_init_194 rfl 0 rfl (z_bipush (pc := 195) dX10_init_195 bp_20 (z_newarrl (pc := 197) 20 (by decide) rfl wa_20 dX10_init_197 (fun a71 h72 => (z_putRl (pc := 199) fl_RX10_83 fin_X10_init_10_32 rfl dX10_init_199 (fun h73 => (z_aload_n (pc := 202) dX10_init_202 rfl 0 rfl (z_bipush (pc := 203) dX10_init_203 bp_20 (z_newarrl (pc := 205) 20 (by decide) rfl wa_20 dX10_init_205 (fun a74 h75 => (?_))))))))))))
  refine z_putRl (pc := 207) fl_RX10_86 fin_X10_init_10_33 rfl dX10_init_207 (fun h76 => (z_aload_n (pc := 210) dX10_init_210 rfl 0 rfl (z_bipush (pc := 211) dX10_init_211 bp_20 (z_newarrl (pc := 213) 20 (by decide) rfl wa_20 dX10_init_213 (fun a77 h78 => (z_putRl (pc := 215) fl_RX10_89 fin_X10_init_10_34 rfl dX10_init_215 (fun h79 => (z_aload_n (pc := 218) dX10_init_218 rfl 0 rfl (z_bipush (pc := 219) dX10_init_219 bp_20 (z_newarrl (pc := 221) 20 (by decide) rfl wa_20 dX10_init_221 (fun a80 h81 => (?_))))))))))))
  refine z_putRl (pc := 223) fl_RX10_92 fin_X10_init_10_35 rfl dX10_init_223 (fun h82 => (z_aload_n (pc := 226) dX10_init_226 rfl 0 rfl (z_bipush (pc := 227) dX10_init_227 bp_20 (z_newarrl (pc := 229) 20 (by decide) rfl wa_20 dX10_init_229 (fun a83 h84 => (z_putRl (pc := 231) fl_RX10_95 fin_X10_init_10_36 rfl dX10_init_231 (fun h85 => (z_aload_n (pc := 234) dX10_init_234 rfl 0 rfl (z_bipush (pc := 235) dX10_init_235 bp_20 (z_newarrl (pc := 237) 20 (by decide) rfl wa_20 dX10_init_237 (fun a86 h87 => (?_))))))))))))
  refine z_putRl (pc := 239) fl_RX10_98 fin_X10_init_10_37 rfl dX10_init_239 (fun h88 => (z_aload_n (pc := 242) dX10_init_242 rfl 0 rfl (z_sipush (pc := 243) dX10_init_243 sp_800 (z_newarrl (pc := 246) 20 (by decide) rfl wa_20 dX10_init_246 (fun a89 h90 => (z_putRl (pc := 248) fl_RX10_101 fin_X10_init_10_38 rfl dX10_init_248 (fun h91 => (z_aload_n (pc := 251) dX10_init_251 rfl 0 rfl (z_bipush (pc := 252) dX10_init_252 bp_20 (z_newarrl (pc := 254) 20 (by decide) rfl wa_20 dX10_init_254 (fun a92 h93 => (?_))))))))))))
  refine z_putRl (pc := 256) fl_RX10_104 fin_X10_init_10_40 rfl dX10_init_256 (fun h94 => (z_aload_n (pc := 259) dX10_init_259 rfl 0 rfl (z_bipush (pc := 260) dX10_init_260 bp_20 (z_newarrl (pc := 262) 20 (by decide) rfl wa_20 dX10_init_262 (fun a95 h96 => (z_putRl (pc := 264) fl_RX10_107 fin_X10_init_10_41 rfl dX10_init_264 (fun h97 => (z_aload_n (pc := 267) dX10_init_267 rfl 0 rfl (z_sipush (pc := 268) dX10_init_268 sp_4096 (z_newarrl (pc := 271) 22 (by decide) rfl wa_22 dX10_init_271 (fun a98 h99 => (?_))))))))))))
  refine z_putRl (pc := 273) fl_RX10_110 fin_X10_init_10_42 rfl dX10_init_273 (fun h100 => (z_aload_n (pc := 276) dX10_init_276 rfl 0 rfl (z_bipush (pc := 277) dX10_init_277 bp_20 (z_newarrl (pc := 279) 20 (by decide) rfl wa_20 dX10_init_279 (fun a101 h102 => (z_putRl (pc := 281) fl_RX10_114 fin_X10_init_10_43 rfl dX10_init_281 (fun h103 => (z_aload_n (pc := 284) dX10_init_284 rfl 0 rfl (z_bipush (pc := 285) dX10_init_285 bp_20 (z_newarrl (pc := 287) 20 (by decide) rfl wa_20 dX10_init_287 (fun a104 h105 => (?_))))))))))))
  refine z_putRl (pc := 289) fl_RX10_117 fin_X10_init_10_44 rfl dX10_init_289 (fun h106 => (z_aload_n (pc := 292) dX10_init_292 rfl 0 rfl (z_bipush (pc := 293) dX10_init_293 bp_70 (z_newarrl (pc := 295) 20 (by decide) rfl wa_20 dX10_init_295 (fun a107 h108 => (z_putRl (pc := 297) fl_RX10_120 fin_X10_init_10_45 rfl dX10_init_297 (fun h109 => (z_aload_n (pc := 300) dX10_init_300 rfl 0 rfl (z_bipush (pc := 301) dX10_init_301 bp_70 (z_newarrl (pc := 303) 20 (by decide) rfl wa_20 dX10_init_303 (fun a110 h111 => (?_))))))))))))
  refine z_putRl (pc := 305) fl_RX10_123 fin_X10_init_10_46 rfl dX10_init_305 (fun h112 => (z_aload_n (pc := 308) dX10_init_308 rfl 0 rfl (z_bipush (pc := 309) dX10_init_309 bp_71 (z_newarrl (pc := 311) 20 (by decide) rfl wa_20 dX10_init_311 (fun a113 h114 => (z_putRl (pc := 313) fl_RX10_126 fin_X10_init_10_47 rfl dX10_init_313 (fun h115 => (z_aload_n (pc := 316) dX10_init_316 rfl 0 rfl (z_bipush (pc := 317) dX10_init_317 bp_71 (z_newarrl (pc := 319) 20 (by decide) rfl wa_20 dX10_init_319 (fun a116 h117 => (?_))))))))))))
  refine z_putRl (pc := 321) fl_RX10_129 fin_X10_init_10_48 rfl dX10_init_321 (fun h118 => (z_aload_n (pc := 324) dX10_init_324 rfl 0 rfl (z_bipush (pc := 325) dX10_init_325 bp_40 (z_newarrl (pc := 327) 20 (by decide) rfl wa_20 dX10_init_327 (fun a119 h120 => (z_putRl (pc := 329) fl_RX10_132 fin_X10_init_10_50 rfl dX10_init_329 (fun h121 => (z_aload_n (pc := 332) dX10_init_332 rfl 0 rfl (z_bipush (pc := 333) dX10_init_333 bp_40 (z_newarrl (pc := 335) 20 (by decide) rfl wa_20 dX10_init_335 (fun a122 h123 => (?_))))))))))))
  refine z_putRl (pc := 337) fl_RX10_135 fin_X10_init_10_51 rfl dX10_init_337 (fun h124 => (z_aload_n (pc := 340) dX10_init_340 rfl 0 rfl (z_bipush (pc := 341) dX10_init_341 bp_40 (z_newarrl (pc := 343) 20 (by decide) rfl wa_20 dX10_init_343 (fun a125 h126 => (z_putRl (pc := 345) fl_RX10_138 fin_X10_init_10_52 rfl dX10_init_345 (fun h127 => (z_aload_n (pc := 348) dX10_init_348 rfl 0 rfl (z_iconst (pc := 349) dX10_init_349 ic_4 (z_newarrl (pc := 350) 20 (by decide) rfl wa_20 dX10_init_350 (fun a128 h129 => (?_))))))))))))
  refine z_putRl (pc := 352) fl_RX10_141 fin_X10_init_10_53 rfl dX10_init_352 (fun h130 => (z_aload_n (pc := 355) dX10_init_355 rfl 0 rfl (z_sipush (pc := 356) dX10_init_356 sp_160 (z_newarrl (pc := 359) 20 (by decide) rfl wa_20 dX10_init_359 (fun a131 h132 => (z_putRl (pc := 361) fl_RX10_144 fin_X10_init_10_54 rfl dX10_init_361 (fun h133 => (z_aload_n (pc := 364) dX10_init_364 rfl 0 rfl (z_bipush (pc := 365) dX10_init_365 bp_30 (z_newarrl (pc := 367) 20 (by decide) rfl wa_20 dX10_init_367 (fun a134 h135 => (?_))))))))))))
  refine z_putRl (pc := 369) fl_RX10_147 fin_X10_init_10_56 rfl dX10_init_369 (fun h136 => (z_aload_n (pc := 372) dX10_init_372 rfl 0 rfl (z_bipush (pc := 373) dX10_init_373 bp_30 (z_newarrl (pc := 375) 20 (by decide) rfl wa_20 dX10_init_375 (fun a137 h138 => (z_putRl (pc := 377) fl_RX10_150 fin_X10_init_10_57 rfl dX10_init_377 (fun h139 => (z_aload_n (pc := 380) dX10_init_380 rfl 0 rfl (z_bipush (pc := 381) dX10_init_381 bp_30 (z_newarrl (pc := 383) 20 (by decide) rfl wa_20 dX10_init_383 (fun a140 h141 => (?_))))))))))))
  refine z_putRl (pc := 385) fl_RX10_153 fin_X10_init_10_58 rfl dX10_init_385 (fun h142 => (z_iconst (pc := 388) dX10_init_388 ic_0 (z_istore_n (pc := 389) (L' := [(0, vr (some a0)), (1, vi 0)]) dX10_init_389 rfl (Nat.le_of_ble_eq_true rfl) rfl (?_))))
  refine g_X10_init_L390 F a0 _ (fun h151 => ?_) F 0 h142
  refine z_iconst (pc := 410) dX10_init_410 ic_0 (z_istore_n (pc := 411) (L' := [(0, vr (some a0)), (1, vi 0)]) dX10_init_411 rfl (Nat.le_of_ble_eq_true rfl) rfl (?_))
  refine g_X10_init_L412 F a0 _ (fun h163 => ?_) F 0 h151
  refine z_iconst (pc := 439) dX10_init_439 ic_0 (z_istore_n (pc := 440) (L' := [(0, vr (some a0)), (1, vi 0)]) dX10_init_440 rfl (Nat.le_of_ble_eq_true rfl) rfl (?_))
  refine g_X10_init_L441 F a0 _ (fun h172 => ?_) F 0 h163
  refine z_iconst (pc := 461) dX10_init_461 ic_0 (z_istore_n (pc := 462) (L' := [(0, vr (some a0)), (1, vi 0)]) dX10_init_462 rfl (Nat.le_of_ble_eq_true rfl) rfl (?_))
  refine g_X10_init_L463 F a0 _ (fun h181 => ?_) F 0 h172
  refine z_iconst (pc := 483) dX10_init_483 ic_0 (z_istore_n (pc := 484) (L' := [(0, vr (some a0)), (1, vi 0)]) dX10_init_484 rfl (Nat.le_of_ble_eq_true rfl) rfl (?_))
  refine g_X10_init_L485 F a0 F 0 h181
theorem dX10_in_0 : decode cX10_in 0 = .ok (.iload_n 0, 1) := by decide +kernel
theorem dX10_in_1 : decode cX10_in 1 = .ok (.iload_n 1, 1) := by decide +kernel
theorem dX10_in_2 : decode cX10_in 2 = .ok (.if_icmp .lt 12, 3) := by decide +kernel
theorem dX10_in_5 : decode cX10_in 5 = .ok (.iload_n 0, 1) := by decide +kernel
theorem dX10_in_6 : decode cX10_in 6 = .ok (.iload_n 2, 1) := by decide +kernel
theorem dX10_in_7 : decode cX10_in 7 = .ok (.if_icmp .gt 7, 3) := by decide +kernel
theorem dX10_in_10 : decode cX10_in 10 = .ok (.iconst 1, 1) := by decide +kernel
theorem dX10_in_11 : decode cX10_in 11 = .ok (.goto 4, 3) := by decide +kernel
theorem dX10_in_14 : decode cX10_in 14 = .ok (.iconst 0, 1) := by decide +kernel
theorem dX10_in_15 : decode cX10_in 15 = .ok (.ireturn, 1) := by decide +kernel
def c_X10_in (F : Nat) (x1 : Int32) (x2 : Int32) (x3 : Int32) (h0 : z_Hp) : Option (Int32 × z_Hp) := (if x1 < x2 then (some (0, h0)) else (if x3 < x1 then (some (0, h0)) else (some (1, h0))))
set_option maxRecDepth 20000 in
set_option maxHeartbeats 4000000 in
theorem t_X10_in (F : Nat) (x1 : Int32) (x2 : Int32) (x3 : Int32) (h0 : z_Hp) : z_Ct zi mi_X10_in [vi x1, vi x2, vi x3] h0 (c_X10_in F x1 x2 x3 h0) := by
  refine z_entry (by decide) (Nat.le_of_ble_eq_true rfl) [(0, vi x1), (1, vi x2), (2, vi x3)] rfl ?_
  unfold c_X10_in
  refine z_iload_n (pc := 0) dX10_in_0 rfl 0 rfl (z_iload_n (pc := 1) dX10_in_1 rfl 1 rfl (?_))
  refine z_icmp_lt (pc := 2) (tgt := 14) dX10_in_2 (by decide) ?_ ?_
  · refine z_iconst (pc := 14) dX10_in_14 ic_0 (?_)
    exact z_iret (pc := 15) dX10_in_15 rfl rfl
  · refine z_iload_n (pc := 5) dX10_in_5 rfl 0 rfl (z_iload_n (pc := 6) dX10_in_6 rfl 2 rfl (?_))
    refine z_icmp_gt (pc := 7) (tgt := 14) dX10_in_7 (by decide) ?_ ?_
    · refine z_iconst (pc := 14) dX10_in_14 ic_0 (?_)
      exact z_iret (pc := 15) dX10_in_15 rfl rfl
    · refine z_iconst (pc := 10) dX10_in_10 ic_1 (z_goto (pc := 11) (tgt := 15) dX10_in_11 (by decide) (?_))
      exact z_iret (pc := 15) dX10_in_15 rfl rfl
theorem dX10_meets_0 : decode cX10_meets 0 = .ok (.aload_n 0, 1) := by decide +kernel
theorem dX10_meets_1 : decode cX10_meets 1 = .ok (.iload_n 1, 1) := by decide +kernel
theorem dX10_meets_2 : decode cX10_meets 2 = .ok (.putfield 156, 3) := by decide +kernel
theorem dX10_meets_5 : decode cX10_meets 5 = .ok (.aload_n 0, 1) := by decide +kernel
theorem dX10_meets_6 : decode cX10_meets 6 = .ok (.getfield 7, 3) := by decide +kernel
theorem dX10_meets_9 : decode cX10_meets 9 = .ok (.iload_n 1, 1) := by decide +kernel
theorem dX10_meets_10 : decode cX10_meets 10 = .ok (.dup2, 1) := by decide +kernel
theorem dX10_meets_11 : decode cX10_meets 11 = .ok (.iaload, 1) := by decide +kernel
theorem dX10_meets_12 : decode cX10_meets 12 = .ok (.iconst 1, 1) := by decide +kernel
theorem dX10_meets_13 : decode cX10_meets 13 = .ok (.iadd, 1) := by decide +kernel
theorem dX10_meets_14 : decode cX10_meets 14 = .ok (.iastore, 1) := by decide +kernel
theorem dX10_meets_15 : decode cX10_meets 15 = .ok (.bipush (-3), 2) := by decide +kernel
theorem dX10_meets_17 : decode cX10_meets 17 = .ok (.ireturn, 1) := by decide +kernel
def c_X10_meets (F : Nat) (a0 : Nat) (x1 : Int32) (h0 : z_Hp) : Option (Int32 × z_Hp) := (if hT h0 a0 = 10 then (lt_ (sI h0 a0 0 x1) (fun h2 => (if hT h2 a0 = 10 then (lt_ (hR h2 a0 1) (fun o3 => (nn o3 (fun a4 => (if okA h2 a4 20 x1 = true then (if okA h2 a4 20 x1 = true then (lt_ (sI h2 a4 (ix x1) ((hI h2 a4 (ix x1)) + 1)) (fun h5 => (some ((-3), h5)))) else none) else none))))) else none))) else none)
set_option maxRecDepth 20000 in
set_option maxHeartbeats 4000000 in
theorem t_X10_meets (F : Nat) (a0 : Nat) (x1 : Int32) (h0 : z_Hp) : z_Ct zi mi_X10_meets [vr (some a0), vi x1] h0 (c_X10_meets F a0 x1 h0) := by
  refine z_entry (by decide) (Nat.le_of_ble_eq_true rfl) [(0, vr (some a0)), (1, vi x1)] rfl ?_
  unfold c_X10_meets
  refine z_aload_n (pc := 0) dX10_meets_0 rfl 0 rfl (z_iload_n (pc := 1) dX10_meets_1 rfl 1 rfl (z_putIl (pc := 2) fl_RX10_156 (fin_X_10_0 _) rfl dX10_meets_2 (fun h2 => (z_aload_n (pc := 5) dX10_meets_5 rfl 0 rfl (z_getRl (pc := 6) fl_RX10_7 rfl dX10_meets_6 (fun o3 => (z_iload_n (pc := 9) dX10_meets_9 rfl 1 rfl (z_dup2 (pc := 10) dX10_meets_10 rfl rfl (?_)))))))))
  refine z_nn (fun a4 ea4 => ?_)
  subst ea4
  refine z_iaload (pc := 11) dX10_meets_11 (z_iconst (pc := 12) dX10_meets_12 ic_1 (z_iadd (pc := 13) dX10_meets_13 (z_iastorel (pc := 14) dX10_meets_14 (fun h5 => (z_bipush (pc := 15) dX10_meets_15 bp_m3 (?_))))))
  exact z_iret (pc := 17) dX10_meets_17 rfl rfl
