theorem dX9_put_0 : decode cX9_put 0 = .ok (.iload_n 1, 1) := by decide +kernel
theorem dX9_put_1 : decode cX9_put 1 = .ok (.invokestatic 108, 3) := by decide +kernel
theorem dX9_put_4 : decode cX9_put 4 = .ok (.ifCond .ne 5, 3) := by decide +kernel
theorem dX9_put_7 : decode cX9_put 7 = .ok (.iconst (-1), 1) := by decide +kernel
theorem dX9_put_8 : decode cX9_put 8 = .ok (.ireturn, 1) := by decide +kernel
theorem dX9_put_9 : decode cX9_put 9 = .ok (.aload_n 0, 1) := by decide +kernel
theorem dX9_put_10 : decode cX9_put 10 = .ok (.getfield 17, 3) := by decide +kernel
theorem dX9_put_13 : decode cX9_put 13 = .ok (.iload_n 1, 1) := by decide +kernel
theorem dX9_put_14 : decode cX9_put 14 = .ok (.aaload, 1) := by decide +kernel
theorem dX9_put_15 : decode cX9_put 15 = .ok (.astore 4, 2) := by decide +kernel
theorem dX9_put_17 : decode cX9_put 17 = .ok (.aload 4, 2) := by decide +kernel
theorem dX9_put_19 : decode cX9_put 19 = .ok (.ifnonnull 9, 3) := by decide +kernel
theorem dX9_put_22 : decode cX9_put 22 = .ok (.aload_n 0, 1) := by decide +kernel
theorem dX9_put_23 : decode cX9_put 23 = .ok (.iconst 1, 1) := by decide +kernel
theorem dX9_put_24 : decode cX9_put 24 = .ok (.invokevirtual 90, 3) := by decide +kernel
theorem dX9_put_27 : decode cX9_put 27 = .ok (.ireturn, 1) := by decide +kernel
theorem dX9_put_28 : decode cX9_put 28 = .ok (.iload_n 2, 1) := by decide +kernel
theorem dX9_put_29 : decode cX9_put 29 = .ok (.ifCond .lt 10, 3) := by decide +kernel
theorem dX9_put_32 : decode cX9_put 32 = .ok (.iload_n 2, 1) := by decide +kernel
theorem dX9_put_33 : decode cX9_put 33 = .ok (.aload 4, 2) := by decide +kernel
theorem dX9_put_35 : decode cX9_put 35 = .ok (.arraylength, 1) := by decide +kernel
theorem dX9_put_36 : decode cX9_put 36 = .ok (.if_icmp .lt 9, 3) := by decide +kernel
theorem dX9_put_39 : decode cX9_put 39 = .ok (.aload_n 0, 1) := by decide +kernel
theorem dX9_put_40 : decode cX9_put 40 = .ok (.iconst 2, 1) := by decide +kernel
theorem dX9_put_41 : decode cX9_put 41 = .ok (.invokevirtual 90, 3) := by decide +kernel
theorem dX9_put_44 : decode cX9_put 44 = .ok (.ireturn, 1) := by decide +kernel
theorem dX9_put_45 : decode cX9_put 45 = .ok (.aload 4, 2) := by decide +kernel
theorem dX9_put_47 : decode cX9_put 47 = .ok (.iload_n 2, 1) := by decide +kernel
theorem dX9_put_48 : decode cX9_put 48 = .ok (.baload, 1) := by decide +kernel
theorem dX9_put_49 : decode cX9_put 49 = .ok (.istore 5, 2) := by decide +kernel
theorem dX9_put_51 : decode cX9_put 51 = .ok (.aload 4, 2) := by decide +kernel
theorem dX9_put_53 : decode cX9_put 53 = .ok (.iload_n 2, 1) := by decide +kernel
theorem dX9_put_54 : decode cX9_put 54 = .ok (.iload_n 3, 1) := by decide +kernel
theorem dX9_put_55 : decode cX9_put 55 = .ok (.i2b, 1) := by decide +kernel
theorem dX9_put_56 : decode cX9_put 56 = .ok (.bastore, 1) := by decide +kernel
theorem dX9_put_57 : decode cX9_put 57 = .ok (.iload 5, 2) := by decide +kernel
theorem dX9_put_59 : decode cX9_put 59 = .ok (.sipush 1000, 3) := by decide +kernel
theorem dX9_put_62 : decode cX9_put 62 = .ok (.iadd, 1) := by decide +kernel
theorem dX9_put_63 : decode cX9_put 63 = .ok (.ireturn, 1) := by decide +kernel
def c_X9_put (F : Nat) (a0 : Nat) (x1 : Int32) (x2 : Int32) (x3 : Int32) (h0 : z_Hp) : Option (Int32 × z_Hp) := (bI (c_X9_isText F x1 h0) (fun x5 h4 => (if x5 = 0 then (some ((-1), h4)) else (if hT h4 a0 = 9 then (lt_ (hR h4 a0 1) (fun o6 => (nn o6 (fun a7 => (if okA h4 a7 24 x1 = true then (lt_ (hR h4 a7 (ix x1)) (fun o8 => (nl o8 (if hT h4 a0 = 9 then (bI (c_X9_found F a0 1 h4) (fun x11 h10 => (some (x11, h10)))) else none) (fun a9 => (lt_ (fun (h13 : z_Hp) => (if hT h13 a0 = 9 then (bI (c_X9_found F a0 2 h13) (fun x15 h14 => (some (x15, h14)))) else none)) (fun (j39_12 : z_Hp → Option (Int32 × z_Hp)) => (if x2 < 0 then (j39_12 h4) else (if okL h4 a9 = true then (if x2 < (nI (hN h4 a9)) then (if okA h4 a9 21 x2 = true then (lt_ (hI h4 a9 (ix x2)) (fun x16 => (if okA h4 a9 21 x2 = true then (lt_ (sI h4 a9 (ix x2) (((x3 : Int32).toInt8.toInt32 : Int32).toInt8.toInt32)) (fun h17 => (some (x16 + 1000, h17)))) else none))) else none) else (j39_12 h4)) else none)))))))) else none))))) else none))))
set_option maxRecDepth 20000 in
set_option maxHeartbeats 4000000 in
theorem t_X9_put (F : Nat) (a0 : Nat) (x1 : Int32) (x2 : Int32) (x3 : Int32) (h0 : z_Hp) : z_Ct zi mi_X9_put [vr (some a0), vi x1, vi x2, vi x3] h0 (c_X9_put F a0 x1 x2 x3 h0) := by
  refine z_entry (by decide) (Nat.le_of_ble_eq_true rfl) [(0, vr (some a0)), (1, vi x1), (2, vi x2), (3, vi x3)] rfl ?_
  unfold c_X9_put
  refine z_iload_n (pc := 0) dX9_put_0 rfl 1 rfl (z_callS_I (pc := 1) (avs := [vi x1]) (st := []) rfl (t_X9_isText F x1 h0) ky_X9_isText ws_X9_isText wz_RX9_108 (rm_X9_put_X9_isText) (Nat.le_of_ble_eq_true rfl) dX9_put_1 (fun x5 h4 => (?_)))
  refine z_if_ne (pc := 4) (tgt := 9) dX9_put_4 (by decide) ?_ ?_
  · refine z_aload_n (pc := 9) dX9_put_9 rfl 0 rfl (z_getRl (pc := 10) fl_RX9_17 rfl dX9_put_10 (fun o6 => (z_iload_n (pc := 13) dX9_put_13 rfl 1 rfl (?_))))
    refine z_nn (fun a7 ea7 => ?_)
    subst ea7
    refine z_aaloadl (pc := 14) 24 (by decide) dX9_put_14 (fun o8 => (z_astore (pc := 15) (L' := [(0, vr (some a0)), (1, vi x1), (2, vi x2), (3, vi x3), (4, vr o8)]) dX9_put_15 (Nat.le_of_ble_eq_true rfl) rfl (z_aload (pc := 17) dX9_put_17 4 rfl (?_))))
    refine z_ifnonnull (pc := 19) (tgt := 28) dX9_put_19 (by decide) (fun ea9 => ?_) (fun a9 ea9 => ?_)
    · subst ea9
      refine z_aload_n (pc := 22) dX9_put_22 rfl 0 rfl (z_iconst (pc := 23) dX9_put_23 ic_1 (z_callV_I (pc := 24) (avs := [vi 1]) (st := []) rfl (q := (RX9, TX9, 18)) rfl rfl (t_X9_found F a0 1 h4) ky_X9_found wm_X9_found we_X9_found wz_RX9_90 (rm_X9_put_X9_found) (Nat.le_of_ble_eq_true rfl) dX9_put_24 (fun x11 h10 => (?_))))
      exact z_iret (pc := 27) dX9_put_27 rfl rfl
    · subst ea9
      refine z_iload_n (pc := 28) dX9_put_28 rfl 2 rfl (?_)
      refine z_jn (P := fun (j : z_Hp → Option (Int32 × z_Hp)) => ∀ (h13 : z_Hp), z_G zi mi_X9_put 39 [(0, vr (some a0))] [] h13 (j h13)) (fun h13 => ?_) (fun j39_12 qj39_12 => ?_)
      · refine z_aload_n (pc := 39) dX9_put_39 rfl 0 rfl (z_iconst (pc := 40) dX9_put_40 ic_2 (z_callV_I (pc := 41) (avs := [vi 2]) (st := []) rfl (q := (RX9, TX9, 18)) rfl rfl (t_X9_found F a0 2 h13) ky_X9_found wm_X9_found we_X9_found wz_RX9_90 (rm_X9_put_X9_found) (Nat.le_of_ble_eq_true rfl) dX9_put_41 (fun x15 h14 => (?_))))
        exact z_iret (pc := 44) dX9_put_44 rfl rfl
      refine z_if_lt (pc := 29) (tgt := 39) dX9_put_29 (by decide) ?_ ?_
      · exact z_sub [0] rfl (qj39_12 h4)
      · refine z_iload_n (pc := 32) dX9_put_32 rfl 2 rfl (z_aload (pc := 33) dX9_put_33 4 rfl (z_alen (pc := 35) dX9_put_35 (?_)))
        refine z_icmp_lt (pc := 36) (tgt := 45) dX9_put_36 (by decide) ?_ ?_
        · refine z_aload (pc := 45) dX9_put_45 4 rfl (z_iload_n (pc := 47) dX9_put_47 rfl 2 rfl (z_baload (pc := 48) dX9_put_48 (z_istorel (pc := 49) (L' := fun x16 => [(0, vr (some a0)), (1, vi x1), (2, vi x2), (3, vi x3), (4, vr (some a9)), (5, vi x16)]) dX9_put_49 (Nat.le_of_ble_eq_true rfl) (fun _ => rfl) (fun x16 => (z_aload (pc := 51) dX9_put_51 4 rfl (z_iload_n (pc := 53) dX9_put_53 rfl 2 rfl (z_iload_n (pc := 54) dX9_put_54 rfl 3 rfl (z_i2b (pc := 55) dX9_put_55 (?_)))))))))
          refine z_bastorel (pc := 56) dX9_put_56 (fun h17 => (z_iload (pc := 57) dX9_put_57 5 rfl (z_sipush (pc := 59) dX9_put_59 sp_1000 (z_iadd (pc := 62) dX9_put_62 (?_)))))
          exact z_iret (pc := 63) dX9_put_63 rfl rfl
        · exact z_sub [0] rfl (qj39_12 h4)
  · refine z_iconst (pc := 7) dX9_put_7 ic_m1 (?_)
    exact z_iret (pc := 8) dX9_put_8 rfl rfl
theorem dX9_later_0 : decode cX9_later 0 = .ok (.iload_n 1, 1) := by decide +kernel
theorem dX9_later_1 : decode cX9_later 1 = .ok (.ifCond .lt 15, 3) := by decide +kernel
theorem dX9_later_4 : decode cX9_later 4 = .ok (.iload_n 1, 1) := by decide +kernel
theorem dX9_later_5 : decode cX9_later 5 = .ok (.sipush 999, 3) := by decide +kernel
theorem dX9_later_8 : decode cX9_later 8 = .ok (.aload_n 0, 1) := by decide +kernel
theorem dX9_later_9 : decode cX9_later 9 = .ok (.getfield 111, 3) := by decide +kernel
theorem dX9_later_12 : decode cX9_later 12 = .ok (.isub, 1) := by decide +kernel
theorem dX9_later_13 : decode cX9_later 13 = .ok (.if_icmp .le 5, 3) := by decide +kernel
theorem dX9_later_16 : decode cX9_later 16 = .ok (.iconst (-1), 1) := by decide +kernel
theorem dX9_later_17 : decode cX9_later 17 = .ok (.ireturn, 1) := by decide +kernel
theorem dX9_later_18 : decode cX9_later 18 = .ok (.aload_n 0, 1) := by decide +kernel
theorem dX9_later_19 : decode cX9_later 19 = .ok (.dup, 1) := by decide +kernel
theorem dX9_later_20 : decode cX9_later 20 = .ok (.getfield 111, 3) := by decide +kernel
theorem dX9_later_23 : decode cX9_later 23 = .ok (.iload_n 1, 1) := by decide +kernel
theorem dX9_later_24 : decode cX9_later 24 = .ok (.iadd, 1) := by decide +kernel
theorem dX9_later_25 : decode cX9_later 25 = .ok (.putfield 111, 3) := by decide +kernel
theorem dX9_later_28 : decode cX9_later 28 = .ok (.aload_n 0, 1) := by decide +kernel
theorem dX9_later_29 : decode cX9_later 29 = .ok (.getfield 111, 3) := by decide +kernel
theorem dX9_later_32 : decode cX9_later 32 = .ok (.ireturn, 1) := by decide +kernel
def c_X9_later (F : Nat) (a0 : Nat) (x1 : Int32) (h0 : z_Hp) : Option (Int32 × z_Hp) := (if x1 < 0 then (some ((-1), h0)) else (if hT h0 a0 = 9 then (if x1 ≤ (999 - (hI h0 a0 4)) then (if hT h0 a0 = 9 then (if hT h0 a0 = 9 then (lt_ (sI h0 a0 4 ((hI h0 a0 4) + x1)) (fun h2 => (if hT h2 a0 = 9 then (some (hI h2 a0 4, h2)) else none))) else none) else none) else (some ((-1), h0))) else none))
set_option maxRecDepth 20000 in
set_option maxHeartbeats 4000000 in
theorem t_X9_later (F : Nat) (a0 : Nat) (x1 : Int32) (h0 : z_Hp) : z_Ct zi mi_X9_later [vr (some a0), vi x1] h0 (c_X9_later F a0 x1 h0) := by
  refine z_entry (by decide) (Nat.le_of_ble_eq_true rfl) [(0, vr (some a0)), (1, vi x1)] rfl ?_
  unfold c_X9_later
  refine z_iload_n (pc := 0) dX9_later_0 rfl 1 rfl (?_)
  refine z_if_lt (pc := 1) (tgt := 16) dX9_later_1 (by decide) ?_ ?_
  · refine z_iconst (pc := 16) dX9_later_16 ic_m1 (?_)
    exact z_iret (pc := 17) dX9_later_17 rfl rfl
  · refine z_iload_n (pc := 4) dX9_later_4 rfl 1 rfl (z_sipush (pc := 5) dX9_later_5 sp_999 (z_aload_n (pc := 8) dX9_later_8 rfl 0 rfl (z_getI (pc := 9) fl_RX9_111 rfl dX9_later_9 (z_isub (pc := 12) dX9_later_12 (?_)))))
    refine z_icmp_le (pc := 13) (tgt := 18) dX9_later_13 (by decide) ?_ ?_
    · refine z_aload_n (pc := 18) dX9_later_18 rfl 0 rfl (z_dup (pc := 19) dX9_later_19 rfl (z_getI (pc := 20) fl_RX9_111 rfl dX9_later_20 (z_iload_n (pc := 23) dX9_later_23 rfl 1 rfl (z_iadd (pc := 24) dX9_later_24 (z_putIl (pc := 25) fl_RX9_111 (fin_X_9_4 _) rfl dX9_later_25 (fun h2 => (z_aload_n (pc := 28) dX9_later_28 rfl 0 rfl (z_getI (pc := 29) fl_RX9_111 rfl dX9_later_29 (?_)))))))))
      exact z_iret (pc := 32) dX9_later_32 rfl rfl
    · refine z_iconst (pc := 16) dX9_later_16 ic_m1 (?_)
      exact z_iret (pc := 17) dX9_later_17 rfl rfl
theorem dX9_isSong_0 : decode cX9_isSong 0 = .ok (.iload_n 0, 1) := by decide +kernel
theorem dX9_isSong_1 : decode cX9_isSong 1 = .ok (.ifCond .lt 13, 3) := by decide +kernel
theorem dX9_isSong_4 : decode cX9_isSong 4 = .ok (.iload_n 0, 1) := by decide +kernel
theorem dX9_isSong_5 : decode cX9_isSong 5 = .ok (.bipush 10, 2) := by decide +kernel
theorem dX9_isSong_7 : decode cX9_isSong 7 = .ok (.if_icmp .ge 7, 3) := by decide +kernel
theorem dX9_isSong_10 : decode cX9_isSong 10 = .ok (.iconst 1, 1) := by decide +kernel
theorem dX9_isSong_11 : decode cX9_isSong 11 = .ok (.goto 4, 3) := by decide +kernel
theorem dX9_isSong_14 : decode cX9_isSong 14 = .ok (.iconst 0, 1) := by decide +kernel
theorem dX9_isSong_15 : decode cX9_isSong 15 = .ok (.ireturn, 1) := by decide +kernel
def c_X9_isSong (F : Nat) (x1 : Int32) (h0 : z_Hp) : Option (Int32 × z_Hp) := (if x1 < 0 then (some (0, h0)) else (if 10 ≤ x1 then (some (0, h0)) else (some (1, h0))))
set_option maxRecDepth 20000 in
set_option maxHeartbeats 4000000 in
theorem t_X9_isSong (F : Nat) (x1 : Int32) (h0 : z_Hp) : z_Ct zi mi_X9_isSong [vi x1] h0 (c_X9_isSong F x1 h0) := by
  refine z_entry (by decide) (Nat.le_of_ble_eq_true rfl) [(0, vi x1)] rfl ?_
  unfold c_X9_isSong
  refine z_iload_n (pc := 0) dX9_isSong_0 rfl 0 rfl (?_)
  refine z_if_lt (pc := 1) (tgt := 14) dX9_isSong_1 (by decide) ?_ ?_
  · refine z_iconst (pc := 14) dX9_isSong_14 ic_0 (?_)
    exact z_iret (pc := 15) dX9_isSong_15 rfl rfl
  · refine z_iload_n (pc := 4) dX9_isSong_4 rfl 0 rfl (z_bipush (pc := 5) dX9_isSong_5 bp_10 (?_))
    refine z_icmp_ge (pc := 7) (tgt := 14) dX9_isSong_7 (by decide) ?_ ?_
    · refine z_iconst (pc := 14) dX9_isSong_14 ic_0 (?_)
      exact z_iret (pc := 15) dX9_isSong_15 rfl rfl
    · refine z_iconst (pc := 10) dX9_isSong_10 ic_1 (z_goto (pc := 11) (tgt := 15) dX9_isSong_11 (by decide) (?_))
      exact z_iret (pc := 15) dX9_isSong_15 rfl rfl
theorem dX9_song_0 : decode cX9_song 0 = .ok (.iload_n 1, 1) := by decide +kernel
theorem dX9_song_1 : decode cX9_song 1 = .ok (.invokestatic 114, 3) := by decide +kernel
theorem dX9_song_4 : decode cX9_song 4 = .ok (.ifCond .eq 10, 3) := by decide +kernel
theorem dX9_song_7 : decode cX9_song 7 = .ok (.iload_n 2, 1) := by decide +kernel
theorem dX9_song_8 : decode cX9_song 8 = .ok (.invokestatic 108, 3) := by decide +kernel
theorem dX9_song_11 : decode cX9_song 11 = .ok (.ifCond .ne 5, 3) := by decide +kernel
theorem dX9_song_14 : decode cX9_song 14 = .ok (.iconst (-1), 1) := by decide +kernel
theorem dX9_song_15 : decode cX9_song 15 = .ok (.ireturn, 1) := by decide +kernel
theorem dX9_song_16 : decode cX9_song 16 = .ok (.aload_n 0, 1) := by decide +kernel
theorem dX9_song_17 : decode cX9_song 17 = .ok (.getfield 17, 3) := by decide +kernel
theorem dX9_song_20 : decode cX9_song 20 = .ok (.iload_n 2, 1) := by decide +kernel
theorem dX9_song_21 : decode cX9_song 21 = .ok (.aaload, 1) := by decide +kernel
theorem dX9_song_22 : decode cX9_song 22 = .ok (.astore_n 3, 1) := by decide +kernel
theorem dX9_song_23 : decode cX9_song 23 = .ok (.aload_n 3, 1) := by decide +kernel
theorem dX9_song_24 : decode cX9_song 24 = .ok (.ifnonnull 9, 3) := by decide +kernel
theorem dX9_song_27 : decode cX9_song 27 = .ok (.aload_n 0, 1) := by decide +kernel
theorem dX9_song_28 : decode cX9_song 28 = .ok (.iconst 1, 1) := by decide +kernel
theorem dX9_song_29 : decode cX9_song 29 = .ok (.invokevirtual 90, 3) := by decide +kernel
theorem dX9_song_32 : decode cX9_song 32 = .ok (.ireturn, 1) := by decide +kernel
theorem dX9_song_33 : decode cX9_song 33 = .ok (.aload_n 3, 1) := by decide +kernel
theorem dX9_song_34 : decode cX9_song 34 = .ok (.invokestatic 117, 3) := by decide +kernel
theorem dX9_song_37 : decode cX9_song 37 = .ok (.istore 4, 2) := by decide +kernel
theorem dX9_song_39 : decode cX9_song 39 = .ok (.iload 4, 2) := by decide +kernel
theorem dX9_song_41 : decode cX9_song 41 = .ok (.bipush (-9), 2) := by decide +kernel
theorem dX9_song_43 : decode cX9_song 43 = .ok (.if_icmp .ne 9, 3) := by decide +kernel
theorem dX9_song_46 : decode cX9_song 46 = .ok (.aload_n 0, 1) := by decide +kernel
theorem dX9_song_47 : decode cX9_song 47 = .ok (.iconst 3, 1) := by decide +kernel
theorem dX9_song_48 : decode cX9_song 48 = .ok (.invokevirtual 90, 3) := by decide +kernel
theorem dX9_song_51 : decode cX9_song 51 = .ok (.ireturn, 1) := by decide +kernel
theorem dX9_song_52 : decode cX9_song 52 = .ok (.aload_n 0, 1) := by decide +kernel
theorem dX9_song_53 : decode cX9_song 53 = .ok (.getfield 23, 3) := by decide +kernel
theorem dX9_song_56 : decode cX9_song 56 = .ok (.iload_n 1, 1) := by decide +kernel
theorem dX9_song_57 : decode cX9_song 57 = .ok (.new 21, 3) := by decide +kernel
theorem dX9_song_60 : decode cX9_song 60 = .ok (.dup, 1) := by decide +kernel
theorem dX9_song_61 : decode cX9_song 61 = .ok (.aload_n 3, 1) := by decide +kernel
theorem dX9_song_62 : decode cX9_song 62 = .ok (.iload 4, 2) := by decide +kernel
theorem dX9_song_64 : decode cX9_song 64 = .ok (.invokespecial 121, 3) := by decide +kernel
theorem dX9_song_67 : decode cX9_song 67 = .ok (.aastore, 1) := by decide +kernel
theorem dX9_song_68 : decode cX9_song 68 = .ok (.iload 4, 2) := by decide +kernel
theorem dX9_song_70 : decode cX9_song 70 = .ok (.ireturn, 1) := by decide +kernel
def c_X9_song (F : Nat) (a0 : Nat) (x1 : Int32) (x2 : Int32) (h0 : z_Hp) : Option (Int32 × z_Hp) := (bI (c_X9_isSong F x1 h0) (fun x4 h3 => (if x4 = 0 then (some ((-1), h3)) else (bI (c_X9_isText F x2 h3) (fun x6 h5 => (if x6 = 0 then (some ((-1), h5)) else (if hT h5 a0 = 9 then (lt_ (hR h5 a0 1) (fun o7 => (nn o7 (fun a8 => (if okA h5 a8 24 x2 = true then (lt_ (hR h5 a8 (ix x2)) (fun o9 => (nl o9 (if hT h5 a0 = 9 then (bI (c_X9_found F a0 1 h5) (fun x12 h11 => (some (x12, h11)))) else none) (fun a10 => (bI (c_X7_linesIn F (some a10) h5) (fun x14 h13 => (if x14 = (-9) then (if hT h13 a0 = 9 then (bI (c_X9_found F a0 3 h13) (fun x22 h21 => (some (x22, h21)))) else none) else (if hT h13 a0 = 9 then (lt_ (hR h13 a0 2) (fun o15 => (nwo h13 7 5 (fun a16 h17 => (bV (c_X7_init F a16 (some a10) x14 h17) (fun h18 => (nn o15 (fun a19 => (if okA h18 a19 25 x1 = true ∧ okS h18 25 (some a16) = true then (lt_ (sR h18 a19 (ix x1) (some a16)) (fun h20 => (some (x14, h20)))) else none))))))))) else none)))))))) else none))))) else none)))))))
set_option maxRecDepth 20000 in
set_option maxHeartbeats 4000000 in
theorem t_X9_song (F : Nat) (a0 : Nat) (x1 : Int32) (x2 : Int32) (h0 : z_Hp) : z_Ct zi mi_X9_song [vr (some a0), vi x1, vi x2] h0 (c_X9_song F a0 x1 x2 h0) := by
  refine z_entry (by decide) (Nat.le_of_ble_eq_true rfl) [(0, vr (some a0)), (1, vi x1), (2, vi x2)] rfl ?_
  unfold c_X9_song
  refine z_iload_n (pc := 0) dX9_song_0 rfl 1 rfl (z_callS_I (pc := 1) (avs := [vi x1]) (st := []) rfl (t_X9_isSong F x1 h0) ky_X9_isSong ws_X9_isSong wz_RX9_114 (rm_X9_song_X9_isSong) (Nat.le_of_ble_eq_true rfl) dX9_song_1 (fun x4 h3 => (?_)))
  refine z_if_eq (pc := 4) (tgt := 14) dX9_song_4 (by decide) ?_ ?_
  · refine z_iconst (pc := 14) dX9_song_14 ic_m1 (?_)
    exact z_iret (pc := 15) dX9_song_15 rfl rfl
  · refine z_iload_n (pc := 7) dX9_song_7 rfl 2 rfl (z_callS_I (pc := 8) (avs := [vi x2]) (st := []) rfl (t_X9_isText F x2 h3) ky_X9_isText ws_X9_isText wz_RX9_108 (rm_X9_song_X9_isText) (Nat.le_of_ble_eq_true rfl) dX9_song_8 (fun x6 h5 => (?_)))
    refine z_if_ne (pc := 11) (tgt := 16) dX9_song_11 (by decide) ?_ ?_
    · refine z_aload_n (pc := 16) dX9_song_16 rfl 0 rfl (z_getRl (pc := 17) fl_RX9_17 rfl dX9_song_17 (fun o7 => (z_iload_n (pc := 20) dX9_song_20 rfl 2 rfl (?_))))
      refine z_nn (fun a8 ea8 => ?_)
      subst ea8
      refine z_aaloadl (pc := 21) 24 (by decide) dX9_song_21 (fun o9 => (z_astore_n (pc := 22) (L' := [(0, vr (some a0)), (1, vi x1), (2, vi x2), (3, vr o9)]) dX9_song_22 rfl (Nat.le_of_ble_eq_true rfl) rfl (z_aload_n (pc := 23) dX9_song_23 rfl 3 rfl (?_))))
      refine z_ifnonnull (pc := 24) (tgt := 33) dX9_song_24 (by decide) (fun ea10 => ?_) (fun a10 ea10 => ?_)
      · subst ea10
        refine z_aload_n (pc := 27) dX9_song_27 rfl 0 rfl (z_iconst (pc := 28) dX9_song_28 ic_1 (z_callV_I (pc := 29) (avs := [vi 1]) (st := []) rfl (q := (RX9, TX9, 18)) rfl rfl (t_X9_found F a0 1 h5) ky_X9_found wm_X9_found we_X9_found wz_RX9_90 (rm_X9_song_X9_found) (Nat.le_of_ble_eq_true rfl) dX9_song_29 (fun x12 h11 => (?_))))
        exact z_iret (pc := 32) dX9_song_32 rfl rfl
      · subst ea10
        refine z_aload_n (pc := 33) dX9_song_33 rfl 3 rfl (z_callS_I (pc := 34) (avs := [vr (some a10)]) (st := []) rfl (t_X7_linesIn F (some a10) h5) ky_X7_linesIn ws_X7_linesIn wz_RX9_117 (rm_X9_song_X7_linesIn) (Nat.le_of_ble_eq_true rfl) dX9_song_34 (fun x14 h13 => (?_)))
        refine z_istore (pc := 37) (L' := [(0, vr (some a0)), (1, vi x1), (2, vi x2), (3, vr (some a10)), (4, vi x14)]) dX9_song_37 (Nat.le_of_ble_eq_true rfl) rfl (z_iload (pc := 39) dX9_song_39 4 rfl (z_bipush (pc := 41) dX9_song_41 bp_m9 (?_)))
        refine z_icmp_ne (pc := 43) (tgt := 52) dX9_song_43 (by decide) ?_ ?_
        · refine z_aload_n (pc := 52) dX9_song_52 rfl 0 rfl (z_getRl (pc := 53) fl_RX9_23 rfl dX9_song_53 (fun o15 => (z_iload_n (pc := 56) dX9_song_56 rfl 1 rfl (z_newl (pc := 57) (q := (RX7, TX7, 5)) cn_RX9_21 dX9_song_57 (fun a16 h17 => (z_dup (pc := 60) dX9_song_60 rfl (z_aload_n (pc := 61) dX9_song_61 rfl 3 rfl (z_iload (pc := 62) dX9_song_62 4 rfl (z_callI_V (pc := 64) (avs := [vr (some a10), vi x14]) (st := [vr (some a16), vi x1, vr o15]) rfl (t_X7_init F a16 (some a10) x14 h17) ky_X7_init rfl rfl wm_X7_init wz_RX9_121 (rm_X9_song_X7_init) (Nat.le_of_ble_eq_true rfl) dX9_song_64 (fun h18 => (?_)))))))))))
          refine z_nn (fun a19 ea19 => ?_)
          subst ea19
          refine z_aastorel (pc := 67) 25 (by decide) dX9_song_67 (fun h20 => (z_iload (pc := 68) dX9_song_68 4 rfl (?_)))
          exact z_iret (pc := 70) dX9_song_70 rfl rfl
        · refine z_aload_n (pc := 46) dX9_song_46 rfl 0 rfl (z_iconst (pc := 47) dX9_song_47 ic_3 (z_callV_I (pc := 48) (avs := [vi 3]) (st := []) rfl (q := (RX9, TX9, 18)) rfl rfl (t_X9_found F a0 3 h13) ky_X9_found wm_X9_found we_X9_found wz_RX9_90 (rm_X9_song_X9_found) (Nat.le_of_ble_eq_true rfl) dX9_song_48 (fun x22 h21 => (?_))))
          exact z_iret (pc := 51) dX9_song_51 rfl rfl
    · refine z_iconst (pc := 14) dX9_song_14 ic_m1 (?_)
      exact z_iret (pc := 15) dX9_song_15 rfl rfl
theorem dX9_songTold_0 : decode cX9_songTold 0 = .ok (.iload_n 1, 1) := by decide +kernel
theorem dX9_songTold_1 : decode cX9_songTold 1 = .ok (.invokestatic 114, 3) := by decide +kernel
theorem dX9_songTold_4 : decode cX9_songTold 4 = .ok (.ifCond .eq 12, 3) := by decide +kernel
theorem dX9_songTold_7 : decode cX9_songTold 7 = .ok (.iload_n 2, 1) := by decide +kernel
theorem dX9_songTold_8 : decode cX9_songTold 8 = .ok (.ifCond .lt 8, 3) := by decide +kernel
theorem dX9_songTold_11 : decode cX9_songTold 11 = .ok (.iload_n 2, 1) := by decide +kernel
theorem dX9_songTold_12 : decode cX9_songTold 12 = .ok (.iconst 2, 1) := by decide +kernel
theorem dX9_songTold_13 : decode cX9_songTold 13 = .ok (.if_icmp .le 5, 3) := by decide +kernel
theorem dX9_songTold_16 : decode cX9_songTold 16 = .ok (.iconst (-1), 1) := by decide +kernel
theorem dX9_songTold_17 : decode cX9_songTold 17 = .ok (.ireturn, 1) := by decide +kernel
theorem dX9_songTold_18 : decode cX9_songTold 18 = .ok (.aload_n 0, 1) := by decide +kernel
theorem dX9_songTold_19 : decode cX9_songTold 19 = .ok (.getfield 23, 3) := by decide +kernel
theorem dX9_songTold_22 : decode cX9_songTold 22 = .ok (.iload_n 1, 1) := by decide +kernel
theorem dX9_songTold_23 : decode cX9_songTold 23 = .ok (.aaload, 1) := by decide +kernel
theorem dX9_songTold_24 : decode cX9_songTold 24 = .ok (.astore_n 3, 1) := by decide +kernel
theorem dX9_songTold_25 : decode cX9_songTold 25 = .ok (.aload_n 3, 1) := by decide +kernel
theorem dX9_songTold_26 : decode cX9_songTold 26 = .ok (.ifnonnull 9, 3) := by decide +kernel
theorem dX9_songTold_29 : decode cX9_songTold 29 = .ok (.aload_n 0, 1) := by decide +kernel
theorem dX9_songTold_30 : decode cX9_songTold 30 = .ok (.iconst 1, 1) := by decide +kernel
theorem dX9_songTold_31 : decode cX9_songTold 31 = .ok (.invokevirtual 90, 3) := by decide +kernel
theorem dX9_songTold_34 : decode cX9_songTold 34 = .ok (.ireturn, 1) := by decide +kernel
theorem dX9_songTold_35 : decode cX9_songTold 35 = .ok (.aload_n 0, 1) := by decide +kernel
theorem dX9_songTold_36 : decode cX9_songTold 36 = .ok (.iload_n 2, 1) := by decide +kernel
theorem dX9_songTold_37 : decode cX9_songTold 37 = .ok (.ifCond .ne 10, 3) := by decide +kernel
theorem dX9_songTold_40 : decode cX9_songTold 40 = .ok (.aload_n 3, 1) := by decide +kernel
theorem dX9_songTold_41 : decode cX9_songTold 41 = .ok (.getfield 124, 3) := by decide +kernel
theorem dX9_songTold_44 : decode cX9_songTold 44 = .ok (.goto 19, 3) := by decide +kernel
theorem dX9_songTold_47 : decode cX9_songTold 47 = .ok (.iload_n 2, 1) := by decide +kernel
theorem dX9_songTold_48 : decode cX9_songTold 48 = .ok (.iconst 1, 1) := by decide +kernel
theorem dX9_songTold_49 : decode cX9_songTold 49 = .ok (.if_icmp .ne 10, 3) := by decide +kernel
theorem dX9_songTold_52 : decode cX9_songTold 52 = .ok (.aload_n 3, 1) := by decide +kernel
theorem dX9_songTold_53 : decode cX9_songTold 53 = .ok (.invokevirtual 127, 3) := by decide +kernel
theorem dX9_songTold_56 : decode cX9_songTold 56 = .ok (.goto 7, 3) := by decide +kernel
theorem dX9_songTold_59 : decode cX9_songTold 59 = .ok (.aload_n 3, 1) := by decide +kernel
theorem dX9_songTold_60 : decode cX9_songTold 60 = .ok (.invokevirtual 131, 3) := by decide +kernel
theorem dX9_songTold_63 : decode cX9_songTold 63 = .ok (.putfield 94, 3) := by decide +kernel
theorem dX9_songTold_66 : decode cX9_songTold 66 = .ok (.iconst 1, 1) := by decide +kernel
theorem dX9_songTold_67 : decode cX9_songTold 67 = .ok (.ireturn, 1) := by decide +kernel
def c_X9_songTold (F : Nat) (a0 : Nat) (x1 : Int32) (x2 : Int32) (h0 : z_Hp) : Option (Int32 × z_Hp) := (bI (c_X9_isSong F x1 h0) (fun x4 h3 => (if x4 = 0 then (some ((-1), h3)) else (if x2 < 0 then (some ((-1), h3)) else (if x2 ≤ 2 then (if hT h3 a0 = 9 then (lt_ (hR h3 a0 2) (fun o5 => (nn o5 (fun a6 => (if okA h3 a6 25 x1 = true then (lt_ (hR h3 a6 (ix x1)) (fun o7 => (nl o7 (if hT h3 a0 = 9 then (bI (c_X9_found F a0 1 h3) (fun x10 h9 => (some (x10, h9)))) else none) (fun a8 => (if x2 = 0 then (if hT h3 a8 = 7 then (if hT h3 a0 = 9 then (lt_ (sI h3 a0 15 (hI h3 a8 1)) (fun h17 => (some (1, h17)))) else none) else none) else (if x2 = 1 then (if hT h3 a8 = 7 then (bI (c_X7_words F a8 h3) (fun x15 h14 => (if hT h14 a0 = 9 then (lt_ (sI h14 a0 15 x15) (fun h16 => (some (1, h16)))) else none))) else none) else (if hT h3 a8 = 7 then (bI (c_X7_letters F a8 h3) (fun x12 h11 => (if hT h11 a0 = 9 then (lt_ (sI h11 a0 15 x12) (fun h13 => (some (1, h13)))) else none))) else none))))))) else none))))) else none) else (some ((-1), h3)))))))
set_option maxRecDepth 20000 in
set_option maxHeartbeats 4000000 in
theorem t_X9_songTold (F : Nat) (a0 : Nat) (x1 : Int32) (x2 : Int32) (h0 : z_Hp) : z_Ct zi mi_X9_songTold [vr (some a0), vi x1, vi x2] h0 (c_X9_songTold F a0 x1 x2 h0) := by
  refine z_entry (by decide) (Nat.le_of_ble_eq_true rfl) [(0, vr (some a0)), (1, vi x1), (2, vi x2)] rfl ?_
  unfold c_X9_songTold
  refine z_iload_n (pc := 0) dX9_songTold_0 rfl 1 rfl (z_callS_I (pc := 1) (avs := [vi x1]) (st := []) rfl (t_X9_isSong F x1 h0) ky_X9_isSong ws_X9_isSong wz_RX9_114 (rm_X9_songTold_X9_isSong) (Nat.le_of_ble_eq_true rfl) dX9_songTold_1 (fun x4 h3 => (?_)))
  refine z_if_eq (pc := 4) (tgt := 16) dX9_songTold_4 (by decide) ?_ ?_
  · refine z_iconst (pc := 16) dX9_songTold_16 ic_m1 (?_)
    exact z_iret (pc := 17) dX9_songTold_17 rfl rfl
  · refine z_iload_n (pc := 7) dX9_songTold_7 rfl 2 rfl (?_)
    refine z_if_lt (pc := 8) (tgt := 16) dX9_songTold_8 (by decide) ?_ ?_
    · refine z_iconst (pc := 16) dX9_songTold_16 ic_m1 (?_)
      exact z_iret (pc := 17) dX9_songTold_17 rfl rfl
    · refine z_iload_n (pc := 11) dX9_songTold_11 rfl 2 rfl (z_iconst (pc := 12) dX9_songTold_12 ic_2 (?_))
      refine z_icmp_le (pc := 13) (tgt := 18) dX9_songTold_13 (by decide) ?_ ?_
      · refine z_aload_n (pc := 18) dX9_songTold_18 rfl 0 rfl (z_getRl (pc := 19) fl_RX9_23 rfl dX9_songTold_19 (fun o5 => (z_iload_n (pc := 22) dX9_songTold_22 rfl 1 rfl (?_))))
        refine z_nn (fun a6 ea6 => ?_)
        subst ea6
        refine z_aaloadl (pc := 23) 25 (by decide) dX9_songTold_23 (fun o7 => (z_astore_n (pc := 24) (L' := [(0, vr (some a0)), (1, vi x1), (2, vi x2), (3, vr o7)]) dX9_songTold_24 rfl (Nat.le_of_ble_eq_true rfl) rfl (z_aload_n (pc := 25) dX9_songTold_25 rfl 3 rfl (?_))))
        refine z_ifnonnull (pc := 26) (tgt := 35) dX9_songTold_26 (by decide) (fun ea8 => ?_) (fun a8 ea8 => ?_)
        · subst ea8
          refine z_aload_n (pc := 29) dX9_songTold_29 rfl 0 rfl (z_iconst (pc := 30) dX9_songTold_30 ic_1 (z_callV_I (pc := 31) (avs := [vi 1]) (st := []) rfl (q := (RX9, TX9, 18)) rfl rfl (t_X9_found F a0 1 h3) ky_X9_found wm_X9_found we_X9_found wz_RX9_90 (rm_X9_songTold_X9_found) (Nat.le_of_ble_eq_true rfl) dX9_songTold_31 (fun x10 h9 => (?_))))
          exact z_iret (pc := 34) dX9_songTold_34 rfl rfl
        · subst ea8
          refine z_aload_n (pc := 35) dX9_songTold_35 rfl 0 rfl (z_iload_n (pc := 36) dX9_songTold_36 rfl 2 rfl (?_))
          refine z_if_ne (pc := 37) (tgt := 47) dX9_songTold_37 (by decide) ?_ ?_
          · refine z_iload_n (pc := 47) dX9_songTold_47 rfl 2 rfl (z_iconst (pc := 48) dX9_songTold_48 ic_1 (?_))
            refine z_icmp_ne (pc := 49) (tgt := 59) dX9_songTold_49 (by decide) ?_ ?_
            · refine z_aload_n (pc := 59) dX9_songTold_59 rfl 3 rfl (z_callV_I (pc := 60) (avs := []) (st := [vr (some a0)]) rfl (q := (RX7, TX7, 5)) rfl rfl (t_X7_letters F a8 h3) ky_X7_letters wm_X7_letters we_X7_letters wz_RX9_131 (rm_X9_songTold_X7_letters) (Nat.le_of_ble_eq_true rfl) dX9_songTold_60 (fun x12 h11 => (?_)))
              refine z_putIl (pc := 63) fl_RX9_94 (fin_X_9_15 _) rfl dX9_songTold_63 (fun h13 => (z_iconst (pc := 66) dX9_songTold_66 ic_1 (?_)))
              exact z_iret (pc := 67) dX9_songTold_67 rfl rfl
            · refine z_aload_n (pc := 52) dX9_songTold_52 rfl 3 rfl (z_callV_I (pc := 53) (avs := []) (st := [vr (some a0)]) rfl (q := (RX7, TX7, 5)) rfl rfl (t_X7_words F a8 h3) ky_X7_words wm_X7_words we_X7_words wz_RX9_127 (rm_X9_songTold_X7_words) (Nat.le_of_ble_eq_true rfl) dX9_songTold_53 (fun x15 h14 => (?_)))
              refine z_goto (pc := 56) (tgt := 63) dX9_songTold_56 (by decide) (z_putIl (pc := 63) fl_RX9_94 (fin_X_9_15 _) rfl dX9_songTold_63 (fun h16 => (z_iconst (pc := 66) dX9_songTold_66 ic_1 (?_))))
              exact z_iret (pc := 67) dX9_songTold_67 rfl rfl
          · refine z_aload_n (pc := 40) dX9_songTold_40 rfl 3 rfl (z_getI (pc := 41) fl_RX9_124 rfl dX9_songTold_41 (z_goto (pc := 44) (tgt := 63) dX9_songTold_44 (by decide) (z_putIl (pc := 63) fl_RX9_94 (fin_X_9_15 _) rfl dX9_songTold_63 (fun h17 => (z_iconst (pc := 66) dX9_songTold_66 ic_1 (?_))))))
            exact z_iret (pc := 67) dX9_songTold_67 rfl rfl
      · refine z_iconst (pc := 16) dX9_songTold_16 ic_m1 (?_)
        exact z_iret (pc := 17) dX9_songTold_17 rfl rfl
theorem dX9_measure_0 : decode cX9_measure 0 = .ok (.iload_n 1, 1) := by decide +kernel
theorem dX9_measure_1 : decode cX9_measure 1 = .ok (.invokestatic 114, 3) := by decide +kernel
theorem dX9_measure_4 : decode cX9_measure 4 = .ok (.ifCond .ne 5, 3) := by decide +kernel
theorem dX9_measure_7 : decode cX9_measure 7 = .ok (.iconst (-1), 1) := by decide +kernel
theorem dX9_measure_8 : decode cX9_measure 8 = .ok (.ireturn, 1) := by decide +kernel
theorem dX9_measure_9 : decode cX9_measure 9 = .ok (.aload_n 0, 1) := by decide +kernel
theorem dX9_measure_10 : decode cX9_measure 10 = .ok (.getfield 23, 3) := by decide +kernel
theorem dX9_measure_13 : decode cX9_measure 13 = .ok (.iload_n 1, 1) := by decide +kernel
theorem dX9_measure_14 : decode cX9_measure 14 = .ok (.aaload, 1) := by decide +kernel
theorem dX9_measure_15 : decode cX9_measure 15 = .ok (.astore_n 3, 1) := by decide +kernel
theorem dX9_measure_16 : decode cX9_measure 16 = .ok (.aload_n 3, 1) := by decide +kernel
theorem dX9_measure_17 : decode cX9_measure 17 = .ok (.ifnonnull 9, 3) := by decide +kernel
theorem dX9_measure_20 : decode cX9_measure 20 = .ok (.aload_n 0, 1) := by decide +kernel
theorem dX9_measure_21 : decode cX9_measure 21 = .ok (.iconst 1, 1) := by decide +kernel
theorem dX9_measure_22 : decode cX9_measure 22 = .ok (.invokevirtual 90, 3) := by decide +kernel
theorem dX9_measure_25 : decode cX9_measure 25 = .ok (.ireturn, 1) := by decide +kernel
theorem dX9_measure_26 : decode cX9_measure 26 = .ok (.aload_n 3, 1) := by decide +kernel
theorem dX9_measure_27 : decode cX9_measure 27 = .ok (.iload_n 2, 1) := by decide +kernel
theorem dX9_measure_28 : decode cX9_measure 28 = .ok (.invokevirtual 134, 3) := by decide +kernel
theorem dX9_measure_31 : decode cX9_measure 31 = .ok (.ifCond .ne 9, 3) := by decide +kernel
theorem dX9_measure_34 : decode cX9_measure 34 = .ok (.aload_n 0, 1) := by decide +kernel
theorem dX9_measure_35 : decode cX9_measure 35 = .ok (.iconst 2, 1) := by decide +kernel
theorem dX9_measure_36 : decode cX9_measure 36 = .ok (.invokevirtual 90, 3) := by decide +kernel
theorem dX9_measure_39 : decode cX9_measure 39 = .ok (.ireturn, 1) := by decide +kernel
theorem dX9_measure_40 : decode cX9_measure 40 = .ok (.aload_n 3, 1) := by decide +kernel
theorem dX9_measure_41 : decode cX9_measure 41 = .ok (.iload_n 2, 1) := by decide +kernel
theorem dX9_measure_42 : decode cX9_measure 42 = .ok (.invokevirtual 137, 3) := by decide +kernel
theorem dX9_measure_45 : decode cX9_measure 45 = .ok (.ireturn, 1) := by decide +kernel
def c_X9_measure (F : Nat) (a0 : Nat) (x1 : Int32) (x2 : Int32) (h0 : z_Hp) : Option (Int32 × z_Hp) := (bI (c_X9_isSong F x1 h0) (fun x4 h3 => (if x4 = 0 then (some ((-1), h3)) else (if hT h3 a0 = 9 then (lt_ (hR h3 a0 2) (fun o5 => (nn o5 (fun a6 => (if okA h3 a6 25 x1 = true then (lt_ (hR h3 a6 (ix x1)) (fun o7 => (nl o7 (if hT h3 a0 = 9 then (bI (c_X9_found F a0 1 h3) (fun x10 h9 => (some (x10, h9)))) else none) (fun a8 => (if hT h3 a8 = 7 then (bI (c_X7_hasLine F a8 x2 h3) (fun x12 h11 => (if x12 = 0 then (if hT h11 a0 = 9 then (bI (c_X9_found F a0 2 h11) (fun x16 h15 => (some (x16, h15)))) else none) else (if hT h11 a8 = 7 then (bI (c_X7_beats F a8 x2 h11) (fun x14 h13 => (some (x14, h13)))) else none)))) else none))))) else none))))) else none))))
set_option maxRecDepth 20000 in
set_option maxHeartbeats 4000000 in
theorem t_X9_measure (F : Nat) (a0 : Nat) (x1 : Int32) (x2 : Int32) (h0 : z_Hp) : z_Ct zi mi_X9_measure [vr (some a0), vi x1, vi x2] h0 (c_X9_measure F a0 x1 x2 h0) := by
  refine z_entry (by decide) (Nat.le_of_ble_eq_true rfl) [(0, vr (some a0)), (1, vi x1), (2, vi x2)] rfl ?_
  unfold c_X9_measure
  refine z_iload_n (pc := 0) dX9_measure_0 rfl 1 rfl (z_callS_I (pc := 1) (avs := [vi x1]) (st := []) rfl (t_X9_isSong F x1 h0) ky_X9_isSong ws_X9_isSong wz_RX9_114 (rm_X9_measure_X9_isSong) (Nat.le_of_ble_eq_true rfl) dX9_measure_1 (fun x4 h3 => (?_)))
  refine z_if_ne (pc := 4) (tgt := 9) dX9_measure_4 (by decide) ?_ ?_
  · refine z_aload_n (pc := 9) dX9_measure_9 rfl 0 rfl (z_getRl (pc := 10) fl_RX9_23 rfl dX9_measure_10 (fun o5 => (z_iload_n (pc := 13) dX9_measure_13 rfl 1 rfl (?_))))
    refine z_nn (fun a6 ea6 => ?_)
    subst ea6
    refine z_aaloadl (pc := 14) 25 (by decide) dX9_measure_14 (fun o7 => (z_astore_n (pc := 15) (L' := [(0, vr (some a0)), (1, vi x1), (2, vi x2), (3, vr o7)]) dX9_measure_15 rfl (Nat.le_of_ble_eq_true rfl) rfl (z_aload_n (pc := 16) dX9_measure_16 rfl 3 rfl (?_))))
    refine z_ifnonnull (pc := 17) (tgt := 26) dX9_measure_17 (by decide) (fun ea8 => ?_) (fun a8 ea8 => ?_)
    · subst ea8
      refine z_aload_n (pc := 20) dX9_measure_20 rfl 0 rfl (z_iconst (pc := 21) dX9_measure_21 ic_1 (z_callV_I (pc := 22) (avs := [vi 1]) (st := []) rfl (q := (RX9, TX9, 18)) rfl rfl (t_X9_found F a0 1 h3) ky_X9_found wm_X9_found we_X9_found wz_RX9_90 (rm_X9_measure_X9_found) (Nat.le_of_ble_eq_true rfl) dX9_measure_22 (fun x10 h9 => (?_))))
      exact z_iret (pc := 25) dX9_measure_25 rfl rfl
    · subst ea8
      refine z_aload_n (pc := 26) dX9_measure_26 rfl 3 rfl (z_iload_n (pc := 27) dX9_measure_27 rfl 2 rfl (z_callV_I (pc := 28) (avs := [vi x2]) (st := []) rfl (q := (RX7, TX7, 5)) rfl rfl (t_X7_hasLine F a8 x2 h3) ky_X7_hasLine wm_X7_hasLine we_X7_hasLine wz_RX9_134 (rm_X9_measure_X7_hasLine) (Nat.le_of_ble_eq_true rfl) dX9_measure_28 (fun x12 h11 => (?_))))
      refine z_if_ne (pc := 31) (tgt := 40) dX9_measure_31 (by decide) ?_ ?_
      · refine z_aload_n (pc := 40) dX9_measure_40 rfl 3 rfl (z_iload_n (pc := 41) dX9_measure_41 rfl 2 rfl (z_callV_I (pc := 42) (avs := [vi x2]) (st := []) rfl (q := (RX7, TX7, 5)) rfl rfl (t_X7_beats F a8 x2 h11) ky_X7_beats wm_X7_beats we_X7_beats wz_RX9_137 (rm_X9_measure_X7_beats) (Nat.le_of_ble_eq_true rfl) dX9_measure_42 (fun x14 h13 => (?_))))
        exact z_iret (pc := 45) dX9_measure_45 rfl rfl
      · refine z_aload_n (pc := 34) dX9_measure_34 rfl 0 rfl (z_iconst (pc := 35) dX9_measure_35 ic_2 (z_callV_I (pc := 36) (avs := [vi 2]) (st := []) rfl (q := (RX9, TX9, 18)) rfl rfl (t_X9_found F a0 2 h11) ky_X9_found wm_X9_found we_X9_found wz_RX9_90 (rm_X9_measure_X9_found) (Nat.le_of_ble_eq_true rfl) dX9_measure_36 (fun x16 h15 => (?_))))
        exact z_iret (pc := 39) dX9_measure_39 rfl rfl
  · refine z_iconst (pc := 7) dX9_measure_7 ic_m1 (?_)
    exact z_iret (pc := 8) dX9_measure_8 rfl rfl
theorem dX9_rhyme_0 : decode cX9_rhyme 0 = .ok (.iload_n 1, 1) := by decide +kernel
theorem dX9_rhyme_1 : decode cX9_rhyme 1 = .ok (.invokestatic 114, 3) := by decide +kernel
theorem dX9_rhyme_4 : decode cX9_rhyme 4 = .ok (.ifCond .ne 5, 3) := by decide +kernel
theorem dX9_rhyme_7 : decode cX9_rhyme 7 = .ok (.iconst (-1), 1) := by decide +kernel
theorem dX9_rhyme_8 : decode cX9_rhyme 8 = .ok (.ireturn, 1) := by decide +kernel
theorem dX9_rhyme_9 : decode cX9_rhyme 9 = .ok (.aload_n 0, 1) := by decide +kernel
theorem dX9_rhyme_10 : decode cX9_rhyme 10 = .ok (.getfield 23, 3) := by decide +kernel
theorem dX9_rhyme_13 : decode cX9_rhyme 13 = .ok (.iload_n 1, 1) := by decide +kernel
theorem dX9_rhyme_14 : decode cX9_rhyme 14 = .ok (.aaload, 1) := by decide +kernel
theorem dX9_rhyme_15 : decode cX9_rhyme 15 = .ok (.astore 4, 2) := by decide +kernel
theorem dX9_rhyme_17 : decode cX9_rhyme 17 = .ok (.aload 4, 2) := by decide +kernel
theorem dX9_rhyme_19 : decode cX9_rhyme 19 = .ok (.ifnonnull 9, 3) := by decide +kernel
theorem dX9_rhyme_22 : decode cX9_rhyme 22 = .ok (.aload_n 0, 1) := by decide +kernel
theorem dX9_rhyme_23 : decode cX9_rhyme 23 = .ok (.iconst 1, 1) := by decide +kernel
theorem dX9_rhyme_24 : decode cX9_rhyme 24 = .ok (.invokevirtual 90, 3) := by decide +kernel
theorem dX9_rhyme_27 : decode cX9_rhyme 27 = .ok (.ireturn, 1) := by decide +kernel
theorem dX9_rhyme_28 : decode cX9_rhyme 28 = .ok (.aload 4, 2) := by decide +kernel
theorem dX9_rhyme_30 : decode cX9_rhyme 30 = .ok (.iload_n 2, 1) := by decide +kernel
theorem dX9_rhyme_31 : decode cX9_rhyme 31 = .ok (.invokevirtual 134, 3) := by decide +kernel
theorem dX9_rhyme_34 : decode cX9_rhyme 34 = .ok (.ifCond .eq 12, 3) := by decide +kernel
theorem dX9_rhyme_37 : decode cX9_rhyme 37 = .ok (.aload 4, 2) := by decide +kernel
theorem dX9_rhyme_39 : decode cX9_rhyme 39 = .ok (.iload_n 3, 1) := by decide +kernel
theorem dX9_rhyme_40 : decode cX9_rhyme 40 = .ok (.invokevirtual 134, 3) := by decide +kernel
theorem dX9_rhyme_43 : decode cX9_rhyme 43 = .ok (.ifCond .ne 9, 3) := by decide +kernel
theorem dX9_rhyme_46 : decode cX9_rhyme 46 = .ok (.aload_n 0, 1) := by decide +kernel
theorem dX9_rhyme_47 : decode cX9_rhyme 47 = .ok (.iconst 2, 1) := by decide +kernel
theorem dX9_rhyme_48 : decode cX9_rhyme 48 = .ok (.invokevirtual 90, 3) := by decide +kernel
theorem dX9_rhyme_51 : decode cX9_rhyme 51 = .ok (.ireturn, 1) := by decide +kernel
theorem dX9_rhyme_52 : decode cX9_rhyme 52 = .ok (.aload 4, 2) := by decide +kernel
theorem dX9_rhyme_54 : decode cX9_rhyme 54 = .ok (.iload_n 2, 1) := by decide +kernel
theorem dX9_rhyme_55 : decode cX9_rhyme 55 = .ok (.iload_n 3, 1) := by decide +kernel
theorem dX9_rhyme_56 : decode cX9_rhyme 56 = .ok (.invokevirtual 140, 3) := by decide +kernel
theorem dX9_rhyme_59 : decode cX9_rhyme 59 = .ok (.ifCond .eq 7, 3) := by decide +kernel
theorem dX9_rhyme_62 : decode cX9_rhyme 62 = .ok (.iconst 1, 1) := by decide +kernel
theorem dX9_rhyme_63 : decode cX9_rhyme 63 = .ok (.goto 4, 3) := by decide +kernel
theorem dX9_rhyme_66 : decode cX9_rhyme 66 = .ok (.iconst 0, 1) := by decide +kernel
theorem dX9_rhyme_67 : decode cX9_rhyme 67 = .ok (.ireturn, 1) := by decide +kernel
def c_X9_rhyme (F : Nat) (a0 : Nat) (x1 : Int32) (x2 : Int32) (x3 : Int32) (h0 : z_Hp) : Option (Int32 × z_Hp) := (bI (c_X9_isSong F x1 h0) (fun x5 h4 => (if x5 = 0 then (some ((-1), h4)) else (if hT h4 a0 = 9 then (lt_ (hR h4 a0 2) (fun o6 => (nn o6 (fun a7 => (if okA h4 a7 25 x1 = true then (lt_ (hR h4 a7 (ix x1)) (fun o8 => (nl o8 (if hT h4 a0 = 9 then (bI (c_X9_found F a0 1 h4) (fun x11 h10 => (some (x11, h10)))) else none) (fun a9 => (if hT h4 a9 = 7 then (bI (c_X7_hasLine F a9 x2 h4) (fun x13 h12 => (lt_ (fun (h15 : z_Hp) => (if hT h15 a0 = 9 then (bI (c_X9_found F a0 2 h15) (fun x17 h16 => (some (x17, h16)))) else none)) (fun (j46_14 : z_Hp → Option (Int32 × z_Hp)) => (if x13 = 0 then (j46_14 h12) else (if hT h12 a9 = 7 then (bI (c_X7_hasLine F a9 x3 h12) (fun x19 h18 => (if x19 = 0 then (j46_14 h18) else (if hT h18 a9 = 7 then (bI (c_X7_linesRhyme F a9 x2 x3 h18) (fun x21 h20 => (if x21 = 0 then (some (0, h20)) else (some (1, h20))))) else none)))) else none)))))) else none))))) else none))))) else none))))
set_option maxRecDepth 20000 in
set_option maxHeartbeats 4000000 in
theorem t_X9_rhyme (F : Nat) (a0 : Nat) (x1 : Int32) (x2 : Int32) (x3 : Int32) (h0 : z_Hp) : z_Ct zi mi_X9_rhyme [vr (some a0), vi x1, vi x2, vi x3] h0 (c_X9_rhyme F a0 x1 x2 x3 h0) := by
  refine z_entry (by decide) (Nat.le_of_ble_eq_true rfl) [(0, vr (some a0)), (1, vi x1), (2, vi x2), (3, vi x3)] rfl ?_
  unfold c_X9_rhyme
  refine z_iload_n (pc := 0) dX9_rhyme_0 rfl 1 rfl (z_callS_I (pc := 1) (avs := [vi x1]) (st := []) rfl (t_X9_isSong F x1 h0) ky_X9_isSong ws_X9_isSong wz_RX9_114 (rm_X9_rhyme_X9_isSong) (Nat.le_of_ble_eq_true rfl) dX9_rhyme_1 (fun x5 h4 => (?_)))
  refine z_if_ne (pc := 4) (tgt := 9) dX9_rhyme_4 (by decide) ?_ ?_
  · refine z_aload_n (pc := 9) dX9_rhyme_9 rfl 0 rfl (z_getRl (pc := 10) fl_RX9_23 rfl dX9_rhyme_10 (fun o6 => (z_iload_n (pc := 13) dX9_rhyme_13 rfl 1 rfl (?_))))
    refine z_nn (fun a7 ea7 => ?_)
    subst ea7
    refine z_aaloadl (pc := 14) 25 (by decide) dX9_rhyme_14 (fun o8 => (z_astore (pc := 15) (L' := [(0, vr (some a0)), (1, vi x1), (2, vi x2), (3, vi x3), (4, vr o8)]) dX9_rhyme_15 (Nat.le_of_ble_eq_true rfl) rfl (z_aload (pc := 17) dX9_rhyme_17 4 rfl (?_))))
    refine z_ifnonnull (pc := 19) (tgt := 28) dX9_rhyme_19 (by decide) (fun ea9 => ?_) (fun a9 ea9 => ?_)
    · subst ea9
      refine z_aload_n (pc := 22) dX9_rhyme_22 rfl 0 rfl (z_iconst (pc := 23) dX9_rhyme_23 ic_1 (z_callV_I (pc := 24) (avs := [vi 1]) (st := []) rfl (q := (RX9, TX9, 18)) rfl rfl (t_X9_found F a0 1 h4) ky_X9_found wm_X9_found we_X9_found wz_RX9_90 (rm_X9_rhyme_X9_found) (Nat.le_of_ble_eq_true rfl) dX9_rhyme_24 (fun x11 h10 => (?_))))
      exact z_iret (pc := 27) dX9_rhyme_27 rfl rfl
    · subst ea9
      refine z_aload (pc := 28) dX9_rhyme_28 4 rfl (z_iload_n (pc := 30) dX9_rhyme_30 rfl 2 rfl (z_callV_I (pc := 31) (avs := [vi x2]) (st := []) rfl (q := (RX7, TX7, 5)) rfl rfl (t_X7_hasLine F a9 x2 h4) ky_X7_hasLine wm_X7_hasLine we_X7_hasLine wz_RX9_134 (rm_X9_rhyme_X7_hasLine) (Nat.le_of_ble_eq_true rfl) dX9_rhyme_31 (fun x13 h12 => (?_))))
      refine z_jn (P := fun (j : z_Hp → Option (Int32 × z_Hp)) => ∀ (h15 : z_Hp), z_G zi mi_X9_rhyme 46 [(0, vr (some a0))] [] h15 (j h15)) (fun h15 => ?_) (fun j46_14 qj46_14 => ?_)
      · refine z_aload_n (pc := 46) dX9_rhyme_46 rfl 0 rfl (z_iconst (pc := 47) dX9_rhyme_47 ic_2 (z_callV_I (pc := 48) (avs := [vi 2]) (st := []) rfl (q := (RX9, TX9, 18)) rfl rfl (t_X9_found F a0 2 h15) ky_X9_found wm_X9_found we_X9_found wz_RX9_90 (rm_X9_rhyme_X9_found) (Nat.le_of_ble_eq_true rfl) dX9_rhyme_48 (fun x17 h16 => (?_))))
        exact z_iret (pc := 51) dX9_rhyme_51 rfl rfl
      refine z_if_eq (pc := 34) (tgt := 46) dX9_rhyme_34 (by decide) ?_ ?_
      · exact z_sub [0] rfl (qj46_14 h12)
      · refine z_aload (pc := 37) dX9_rhyme_37 4 rfl (z_iload_n (pc := 39) dX9_rhyme_39 rfl 3 rfl (z_callV_I (pc := 40) (avs := [vi x3]) (st := []) rfl (q := (RX7, TX7, 5)) rfl rfl (t_X7_hasLine F a9 x3 h12) ky_X7_hasLine wm_X7_hasLine we_X7_hasLine wz_RX9_134 (rm_X9_rhyme_X7_hasLine) (Nat.le_of_ble_eq_true rfl) dX9_rhyme_40 (fun x19 h18 => (?_))))
        refine z_if_ne (pc := 43) (tgt := 52) dX9_rhyme_43 (by decide) ?_ ?_
        · refine z_aload (pc := 52) dX9_rhyme_52 4 rfl (z_iload_n (pc := 54) dX9_rhyme_54 rfl 2 rfl (z_iload_n (pc := 55) dX9_rhyme_55 rfl 3 rfl (z_callV_I (pc := 56) (avs := [vi x2, vi x3]) (st := []) rfl (q := (RX7, TX7, 5)) rfl rfl (t_X7_linesRhyme F a9 x2 x3 h18) ky_X7_linesRhyme wm_X7_linesRhyme we_X7_linesRhyme wz_RX9_140 (rm_X9_rhyme_X7_linesRhyme) (Nat.le_of_ble_eq_true rfl) dX9_rhyme_56 (fun x21 h20 => (?_)))))
          refine z_if_eq (pc := 59) (tgt := 66) dX9_rhyme_59 (by decide) ?_ ?_
          · refine z_iconst (pc := 66) dX9_rhyme_66 ic_0 (?_)
            exact z_iret (pc := 67) dX9_rhyme_67 rfl rfl
          · refine z_iconst (pc := 62) dX9_rhyme_62 ic_1 (z_goto (pc := 63) (tgt := 67) dX9_rhyme_63 (by decide) (?_))
            exact z_iret (pc := 67) dX9_rhyme_67 rfl rfl
        · exact z_sub [0] rfl (qj46_14 h18)
  · refine z_iconst (pc := 7) dX9_rhyme_7 ic_m1 (?_)
    exact z_iret (pc := 8) dX9_rhyme_8 rfl rfl
theorem dX9_isTune_0 : decode cX9_isTune 0 = .ok (.iload_n 0, 1) := by decide +kernel
theorem dX9_isTune_1 : decode cX9_isTune 1 = .ok (.ifCond .lt 13, 3) := by decide +kernel
theorem dX9_isTune_4 : decode cX9_isTune 4 = .ok (.iload_n 0, 1) := by decide +kernel
theorem dX9_isTune_5 : decode cX9_isTune 5 = .ok (.bipush 6, 2) := by decide +kernel
theorem dX9_isTune_7 : decode cX9_isTune 7 = .ok (.if_icmp .ge 7, 3) := by decide +kernel
theorem dX9_isTune_10 : decode cX9_isTune 10 = .ok (.iconst 1, 1) := by decide +kernel
theorem dX9_isTune_11 : decode cX9_isTune 11 = .ok (.goto 4, 3) := by decide +kernel
theorem dX9_isTune_14 : decode cX9_isTune 14 = .ok (.iconst 0, 1) := by decide +kernel
theorem dX9_isTune_15 : decode cX9_isTune 15 = .ok (.ireturn, 1) := by decide +kernel
def c_X9_isTune (F : Nat) (x1 : Int32) (h0 : z_Hp) : Option (Int32 × z_Hp) := (if x1 < 0 then (some (0, h0)) else (if 6 ≤ x1 then (some (0, h0)) else (some (1, h0))))
set_option maxRecDepth 20000 in
set_option maxHeartbeats 4000000 in
theorem t_X9_isTune (F : Nat) (x1 : Int32) (h0 : z_Hp) : z_Ct zi mi_X9_isTune [vi x1] h0 (c_X9_isTune F x1 h0) := by
  refine z_entry (by decide) (Nat.le_of_ble_eq_true rfl) [(0, vi x1)] rfl ?_
  unfold c_X9_isTune
  refine z_iload_n (pc := 0) dX9_isTune_0 rfl 0 rfl (?_)
  refine z_if_lt (pc := 1) (tgt := 14) dX9_isTune_1 (by decide) ?_ ?_
  · refine z_iconst (pc := 14) dX9_isTune_14 ic_0 (?_)
    exact z_iret (pc := 15) dX9_isTune_15 rfl rfl
  · refine z_iload_n (pc := 4) dX9_isTune_4 rfl 0 rfl (z_bipush (pc := 5) dX9_isTune_5 bp_6 (?_))
    refine z_icmp_ge (pc := 7) (tgt := 14) dX9_isTune_7 (by decide) ?_ ?_
    · refine z_iconst (pc := 14) dX9_isTune_14 ic_0 (?_)
      exact z_iret (pc := 15) dX9_isTune_15 rfl rfl
    · refine z_iconst (pc := 10) dX9_isTune_10 ic_1 (z_goto (pc := 11) (tgt := 15) dX9_isTune_11 (by decide) (?_))
      exact z_iret (pc := 15) dX9_isTune_15 rfl rfl
theorem dX9_allWithin_0 : decode cX9_allWithin 0 = .ok (.iconst 0, 1) := by decide +kernel
theorem dX9_allWithin_1 : decode cX9_allWithin 1 = .ok (.istore_n 2, 1) := by decide +kernel
theorem dX9_allWithin_2 : decode cX9_allWithin 2 = .ok (.iload_n 2, 1) := by decide +kernel
theorem dX9_allWithin_3 : decode cX9_allWithin 3 = .ok (.aload_n 0, 1) := by decide +kernel
theorem dX9_allWithin_4 : decode cX9_allWithin 4 = .ok (.arraylength, 1) := by decide +kernel
theorem dX9_allWithin_5 : decode cX9_allWithin 5 = .ok (.if_icmp .ge 24, 3) := by decide +kernel
theorem dX9_allWithin_8 : decode cX9_allWithin 8 = .ok (.aload_n 0, 1) := by decide +kernel
theorem dX9_allWithin_9 : decode cX9_allWithin 9 = .ok (.iload_n 2, 1) := by decide +kernel
theorem dX9_allWithin_10 : decode cX9_allWithin 10 = .ok (.iaload, 1) := by decide +kernel
theorem dX9_allWithin_11 : decode cX9_allWithin 11 = .ok (.ifCond .lt 10, 3) := by decide +kernel
theorem dX9_allWithin_14 : decode cX9_allWithin 14 = .ok (.aload_n 0, 1) := by decide +kernel
theorem dX9_allWithin_15 : decode cX9_allWithin 15 = .ok (.iload_n 2, 1) := by decide +kernel
theorem dX9_allWithin_16 : decode cX9_allWithin 16 = .ok (.iaload, 1) := by decide +kernel
theorem dX9_allWithin_17 : decode cX9_allWithin 17 = .ok (.iload_n 1, 1) := by decide +kernel
theorem dX9_allWithin_18 : decode cX9_allWithin 18 = .ok (.if_icmp .le 5, 3) := by decide +kernel
theorem dX9_allWithin_21 : decode cX9_allWithin 21 = .ok (.iconst 0, 1) := by decide +kernel
theorem dX9_allWithin_22 : decode cX9_allWithin 22 = .ok (.ireturn, 1) := by decide +kernel
theorem dX9_allWithin_23 : decode cX9_allWithin 23 = .ok (.iinc 2 1, 3) := by decide +kernel
theorem dX9_allWithin_26 : decode cX9_allWithin 26 = .ok (.goto (-24), 3) := by decide +kernel
theorem dX9_allWithin_29 : decode cX9_allWithin 29 = .ok (.iconst 1, 1) := by decide +kernel
theorem dX9_allWithin_30 : decode cX9_allWithin 30 = .ok (.ireturn, 1) := by decide +kernel
def c_X9_allWithin_L2 (F : Nat) (o3 : Option Nat) (x4 : Int32) : Nat → Int32 → z_Hp → Option (Int32 × z_Hp)
  | 0, _, _ => none
  | n + 1, x5, h6 => (nn o3 (fun a7 => (if okL h6 a7 = true then (if (nI (hN h6 a7)) ≤ x5 then (some (1, h6)) else (if okA h6 a7 20 x5 = true then (if (hI h6 a7 (ix x5)) < 0 then (some (0, h6)) else (if okA h6 a7 20 x5 = true then (if (hI h6 a7 (ix x5)) ≤ x4 then (lt_ (x5 + 1) (fun x8 => (c_X9_allWithin_L2 F o3 x4 n x8 h6))) else (some (0, h6))) else none)) else none)) else none)))
def c_X9_allWithin (F : Nat) (o1 : Option Nat) (x2 : Int32) (h0 : z_Hp) : Option (Int32 × z_Hp) := (c_X9_allWithin_L2 F o1 x2 F 0 h0)
set_option maxRecDepth 20000 in
set_option maxHeartbeats 4000000 in
theorem g_X9_allWithin_L2 (F : Nat) (o3 : Option Nat) (x4 : Int32) : ∀ (n : Nat) (x5 : Int32) (h6 : z_Hp), z_G zi mi_X9_allWithin 2 [(0, vr o3), (1, vi x4), (2, vi x5)] [] h6 (c_X9_allWithin_L2 F o3 x4 n x5 h6) := by
  intro n
  induction n with
  | zero => intro x5 h6; rw [c_X9_allWithin_L2]; exact z_none
  | succ n ih =>
    intro x5 h6
    rw [c_X9_allWithin_L2]
    refine z_iload_n (pc := 2) dX9_allWithin_2 rfl 2 rfl (z_aload_n (pc := 3) dX9_allWithin_3 rfl 0 rfl (?_))
    refine z_nn (fun a7 ea7 => ?_)
    subst ea7
    refine z_alen (pc := 4) dX9_allWithin_4 (?_)
    refine z_icmp_ge (pc := 5) (tgt := 29) dX9_allWithin_5 (by decide) ?_ ?_
    · refine z_iconst (pc := 29) dX9_allWithin_29 ic_1 (?_)
      exact z_iret (pc := 30) dX9_allWithin_30 rfl rfl
    · refine z_aload_n (pc := 8) dX9_allWithin_8 rfl 0 rfl (z_iload_n (pc := 9) dX9_allWithin_9 rfl 2 rfl (z_iaload (pc := 10) dX9_allWithin_10 (?_)))
      refine z_if_lt (pc := 11) (tgt := 21) dX9_allWithin_11 (by decide) ?_ ?_
      · refine z_iconst (pc := 21) dX9_allWithin_21 ic_0 (?_)
        exact z_iret (pc := 22) dX9_allWithin_22 rfl rfl
      · refine z_aload_n (pc := 14) dX9_allWithin_14 rfl 0 rfl (z_iload_n (pc := 15) dX9_allWithin_15 rfl 2 rfl (z_iaload (pc := 16) dX9_allWithin_16 (z_iload_n (pc := 17) dX9_allWithin_17 rfl 1 rfl (?_))))
        refine z_icmp_le (pc := 18) (tgt := 23) dX9_allWithin_18 (by decide) ?_ ?_
        · refine z_iincl (pc := 23) (L' := fun x8 => [(0, vr (some a7)), (1, vi x4), (2, vi x8)]) dX9_allWithin_23 2 rfl ic_1 (Nat.le_of_ble_eq_true rfl) (fun _ => rfl) (fun x8 => (z_goto (pc := 26) (tgt := 2) dX9_allWithin_26 (by decide) (?_)))
          exact ih x8 h6
        · refine z_iconst (pc := 21) dX9_allWithin_21 ic_0 (?_)
          exact z_iret (pc := 22) dX9_allWithin_22 rfl rfl
set_option maxRecDepth 20000 in
set_option maxHeartbeats 4000000 in
theorem t_X9_allWithin (F : Nat) (o1 : Option Nat) (x2 : Int32) (h0 : z_Hp) : z_Ct zi mi_X9_allWithin [vr o1, vi x2] h0 (c_X9_allWithin F o1 x2 h0) := by
  refine z_entry (by decide) (Nat.le_of_ble_eq_true rfl) [(0, vr o1), (1, vi x2)] rfl ?_
  unfold c_X9_allWithin
  refine z_iconst (pc := 0) dX9_allWithin_0 ic_0 (z_istore_n (pc := 1) (L' := [(0, vr o1), (1, vi x2), (2, vi 0)]) dX9_allWithin_1 rfl (Nat.le_of_ble_eq_true rfl) rfl (?_))
  refine g_X9_allWithin_L2 F o1 x2 F 0 h0
theorem dJ7_copyOf_59c91_0 : decode cJ7_copyOf_59c91 0 = .ok (.iload_n 1, 1) := by decide +kernel
theorem dJ7_copyOf_59c91_1 : decode cJ7_copyOf_59c91 1 = .ok (.aload_n 0, 1) := by decide +kernel
theorem dJ7_copyOf_59c91_2 : decode cJ7_copyOf_59c91 2 = .ok (.arraylength, 1) := by decide +kernel
theorem dJ7_copyOf_59c91_3 : decode cJ7_copyOf_59c91 3 = .ok (.if_icmp .ne 11, 3) := by decide +kernel
theorem dJ7_copyOf_59c91_6 : decode cJ7_copyOf_59c91 6 = .ok (.aload_n 0, 1) := by decide +kernel
theorem dJ7_copyOf_59c91_7 : decode cJ7_copyOf_59c91 7 = .ok (.invokevirtual 316, 3) := by decide +kernel
theorem dJ7_copyOf_59c91_10 : decode cJ7_copyOf_59c91 10 = .ok (.checkcast 317, 3) := by decide +kernel
theorem dJ7_copyOf_59c91_13 : decode cJ7_copyOf_59c91 13 = .ok (.areturn, 1) := by decide +kernel
theorem dJ7_copyOf_59c91_14 : decode cJ7_copyOf_59c91 14 = .ok (.iload_n 1, 1) := by decide +kernel
theorem dJ7_copyOf_59c91_15 : decode cJ7_copyOf_59c91 15 = .ok (.newarray .int, 2) := by decide +kernel
theorem dJ7_copyOf_59c91_17 : decode cJ7_copyOf_59c91 17 = .ok (.astore_n 2, 1) := by decide +kernel
theorem dJ7_copyOf_59c91_18 : decode cJ7_copyOf_59c91 18 = .ok (.aload_n 0, 1) := by decide +kernel
theorem dJ7_copyOf_59c91_19 : decode cJ7_copyOf_59c91 19 = .ok (.iconst 0, 1) := by decide +kernel
theorem dJ7_copyOf_59c91_20 : decode cJ7_copyOf_59c91 20 = .ok (.aload_n 2, 1) := by decide +kernel
theorem dJ7_copyOf_59c91_21 : decode cJ7_copyOf_59c91 21 = .ok (.iconst 0, 1) := by decide +kernel
theorem dJ7_copyOf_59c91_22 : decode cJ7_copyOf_59c91 22 = .ok (.aload_n 0, 1) := by decide +kernel
theorem dJ7_copyOf_59c91_23 : decode cJ7_copyOf_59c91 23 = .ok (.arraylength, 1) := by decide +kernel
theorem dJ7_copyOf_59c91_24 : decode cJ7_copyOf_59c91 24 = .ok (.iload_n 1, 1) := by decide +kernel
theorem dJ7_copyOf_59c91_25 : decode cJ7_copyOf_59c91 25 = .ok (.invokestatic 304, 3) := by decide +kernel
theorem dJ7_copyOf_59c91_28 : decode cJ7_copyOf_59c91 28 = .ok (.invokestatic 150, 3) := by decide +kernel
theorem dJ7_copyOf_59c91_31 : decode cJ7_copyOf_59c91 31 = .ok (.aload_n 2, 1) := by decide +kernel
theorem dJ7_copyOf_59c91_32 : decode cJ7_copyOf_59c91 32 = .ok (.areturn, 1) := by decide +kernel
def c_J7_copyOf_59c91 (F : Nat) (o1 : Option Nat) (x2 : Int32) (h0 : z_Hp) : Option (Option Nat × z_Hp) := (nn o1 (fun a3 => (if okL h0 a3 = true then (if x2 = (nI (hN h0 a3)) then (if hT h0 a3 = 20 then (clo h0 a3 (fun a4 h5 => (if hT h5 a4 = 20 then (some ((some a4), h5)) else none))) else none) else none) else none)))
set_option maxRecDepth 20000 in
set_option maxHeartbeats 4000000 in
theorem t_J7_copyOf_59c91 (F : Nat) (o1 : Option Nat) (x2 : Int32) (h0 : z_Hp) : z_Ct zr mi_J7_copyOf_59c91 [vr o1, vi x2] h0 (c_J7_copyOf_59c91 F o1 x2 h0) := by
  refine z_entry (by decide) (Nat.le_of_ble_eq_true rfl) [(0, vr o1), (1, vi x2)] rfl ?_
  unfold c_J7_copyOf_59c91
  refine z_iload_n (pc := 0) dJ7_copyOf_59c91_0 rfl 1 rfl (z_aload_n (pc := 1) dJ7_copyOf_59c91_1 rfl 0 rfl (?_))
  refine z_nn (fun a3 ea3 => ?_)
  subst ea3
  refine z_alen (pc := 2) dJ7_copyOf_59c91_2 (?_)
  refine z_icmp_ne (pc := 3) (tgt := 14) dJ7_copyOf_59c91_3 (by decide) ?_ ?_
  · exact z_none
  · refine z_aload_n (pc := 6) dJ7_copyOf_59c91_6 rfl 0 rfl (z_clonel (pc := 7) 20 (by decide) wq_20_l wq_20_s wq_n wq_i wq_20_e (Nat.le_of_ble_eq_true rfl) (Nat.le_of_ble_eq_true rfl) (Nat.le_of_ble_eq_true rfl) dJ7_copyOf_59c91_7 (fun a4 h5 => (z_castA (pc := 10) 20 (by decide) wl_RJ7_317 dJ7_copyOf_59c91_10 (?_))))
    exact z_aret (pc := 13) dJ7_copyOf_59c91_13 rfl
theorem dX9_tune_0 : decode cX9_tune 0 = .ok (.iload_n 1, 1) := by decide +kernel
theorem dX9_tune_1 : decode cX9_tune 1 = .ok (.invokestatic 144, 3) := by decide +kernel
theorem dX9_tune_4 : decode cX9_tune 4 = .ok (.ifCond .eq 10, 3) := by decide +kernel
theorem dX9_tune_7 : decode cX9_tune 7 = .ok (.iload_n 2, 1) := by decide +kernel
theorem dX9_tune_8 : decode cX9_tune 8 = .ok (.invokestatic 86, 3) := by decide +kernel
theorem dX9_tune_11 : decode cX9_tune 11 = .ok (.ifCond .ne 5, 3) := by decide +kernel
theorem dX9_tune_14 : decode cX9_tune 14 = .ok (.iconst (-1), 1) := by decide +kernel
theorem dX9_tune_15 : decode cX9_tune 15 = .ok (.ireturn, 1) := by decide +kernel
theorem dX9_tune_16 : decode cX9_tune 16 = .ok (.aload_n 0, 1) := by decide +kernel
theorem dX9_tune_17 : decode cX9_tune 17 = .ok (.getfield 11, 3) := by decide +kernel
theorem dX9_tune_20 : decode cX9_tune 20 = .ok (.iload_n 2, 1) := by decide +kernel
theorem dX9_tune_21 : decode cX9_tune 21 = .ok (.aaload, 1) := by decide +kernel
theorem dX9_tune_22 : decode cX9_tune 22 = .ok (.astore_n 3, 1) := by decide +kernel
theorem dX9_tune_23 : decode cX9_tune 23 = .ok (.aload_n 3, 1) := by decide +kernel
theorem dX9_tune_24 : decode cX9_tune 24 = .ok (.ifnonnull 9, 3) := by decide +kernel
theorem dX9_tune_27 : decode cX9_tune 27 = .ok (.aload_n 0, 1) := by decide +kernel
theorem dX9_tune_28 : decode cX9_tune 28 = .ok (.iconst 1, 1) := by decide +kernel
theorem dX9_tune_29 : decode cX9_tune 29 = .ok (.invokevirtual 90, 3) := by decide +kernel
theorem dX9_tune_32 : decode cX9_tune 32 = .ok (.ireturn, 1) := by decide +kernel
theorem dX9_tune_33 : decode cX9_tune 33 = .ok (.aload_n 3, 1) := by decide +kernel
theorem dX9_tune_34 : decode cX9_tune 34 = .ok (.arraylength, 1) := by decide +kernel
theorem dX9_tune_35 : decode cX9_tune 35 = .ok (.ifCond .eq 10, 3) := by decide +kernel
theorem dX9_tune_38 : decode cX9_tune 38 = .ok (.aload_n 3, 1) := by decide +kernel
theorem dX9_tune_39 : decode cX9_tune 39 = .ok (.arraylength, 1) := by decide +kernel
theorem dX9_tune_40 : decode cX9_tune 40 = .ok (.bipush 8, 2) := by decide +kernel
theorem dX9_tune_42 : decode cX9_tune 42 = .ok (.if_icmp .le 9, 3) := by decide +kernel
theorem dX9_tune_45 : decode cX9_tune 45 = .ok (.aload_n 0, 1) := by decide +kernel
theorem dX9_tune_46 : decode cX9_tune 46 = .ok (.iconst 5, 1) := by decide +kernel
theorem dX9_tune_47 : decode cX9_tune 47 = .ok (.invokevirtual 90, 3) := by decide +kernel
theorem dX9_tune_50 : decode cX9_tune 50 = .ok (.ireturn, 1) := by decide +kernel
theorem dX9_tune_51 : decode cX9_tune 51 = .ok (.aload_n 3, 1) := by decide +kernel
theorem dX9_tune_52 : decode cX9_tune 52 = .ok (.bipush 20, 2) := by decide +kernel
theorem dX9_tune_54 : decode cX9_tune 54 = .ok (.invokestatic 147, 3) := by decide +kernel
theorem dX9_tune_57 : decode cX9_tune 57 = .ok (.ifCond .ne 9, 3) := by decide +kernel
theorem dX9_tune_60 : decode cX9_tune 60 = .ok (.aload_n 0, 1) := by decide +kernel
theorem dX9_tune_61 : decode cX9_tune 61 = .ok (.iconst 3, 1) := by decide +kernel
theorem dX9_tune_62 : decode cX9_tune 62 = .ok (.invokevirtual 90, 3) := by decide +kernel
theorem dX9_tune_65 : decode cX9_tune 65 = .ok (.ireturn, 1) := by decide +kernel
theorem dX9_tune_66 : decode cX9_tune 66 = .ok (.aload_n 0, 1) := by decide +kernel
theorem dX9_tune_67 : decode cX9_tune 67 = .ok (.getfield 27, 3) := by decide +kernel
theorem dX9_tune_70 : decode cX9_tune 70 = .ok (.iload_n 1, 1) := by decide +kernel
theorem dX9_tune_71 : decode cX9_tune 71 = .ok (.aload_n 3, 1) := by decide +kernel
theorem dX9_tune_72 : decode cX9_tune 72 = .ok (.aload_n 3, 1) := by decide +kernel
theorem dX9_tune_73 : decode cX9_tune 73 = .ok (.arraylength, 1) := by decide +kernel
theorem dX9_tune_74 : decode cX9_tune 74 = .ok (.invokestatic 151, 3) := by decide +kernel
theorem dX9_tune_77 : decode cX9_tune 77 = .ok (.aastore, 1) := by decide +kernel
theorem dX9_tune_78 : decode cX9_tune 78 = .ok (.aload_n 3, 1) := by decide +kernel
theorem dX9_tune_79 : decode cX9_tune 79 = .ok (.arraylength, 1) := by decide +kernel
theorem dX9_tune_80 : decode cX9_tune 80 = .ok (.ireturn, 1) := by decide +kernel
def c_X9_tune (F : Nat) (a0 : Nat) (x1 : Int32) (x2 : Int32) (h0 : z_Hp) : Option (Int32 × z_Hp) := (bI (c_X9_isTune F x1 h0) (fun x4 h3 => (if x4 = 0 then (some ((-1), h3)) else (bI (c_X9_isRow F x2 h3) (fun x6 h5 => (if x6 = 0 then (some ((-1), h5)) else (if hT h5 a0 = 9 then (lt_ (hR h5 a0 0) (fun o7 => (nn o7 (fun a8 => (if okA h5 a8 23 x2 = true then (lt_ (hR h5 a8 (ix x2)) (fun o9 => (nl o9 (if hT h5 a0 = 9 then (bI (c_X9_found F a0 1 h5) (fun x12 h11 => (some (x12, h11)))) else none) (fun a10 => (if okL h5 a10 = true then (lt_ (fun (h14 : z_Hp) => (if hT h14 a0 = 9 then (bI (c_X9_found F a0 5 h14) (fun x16 h15 => (some (x16, h15)))) else none)) (fun (j45_13 : z_Hp → Option (Int32 × z_Hp)) => (if (nI (hN h5 a10)) = 0 then (j45_13 h5) else (if okL h5 a10 = true then (if (nI (hN h5 a10)) ≤ 8 then (bI (c_X9_allWithin F (some a10) 20 h5) (fun x18 h17 => (if x18 = 0 then (if hT h17 a0 = 9 then (bI (c_X9_found F a0 3 h17) (fun x25 h24 => (some (x25, h24)))) else none) else (if hT h17 a0 = 9 then (lt_ (hR h17 a0 3) (fun o19 => (if okL h17 a10 = true then (bR (c_J7_copyOf_59c91 F (some a10) (nI (hN h17 a10)) h17) (fun o21 h20 => (nn o19 (fun a22 => (if okA h20 a22 23 x1 = true ∧ okS h20 23 o21 = true then (lt_ (sR h20 a22 (ix x1) o21) (fun h23 => (if okL h23 a10 = true then (some (nI (hN h23 a10), h23)) else none))) else none))))) else none))) else none)))) else (j45_13 h5)) else none)))) else none))))) else none))))) else none)))))))
set_option maxRecDepth 20000 in
set_option maxHeartbeats 4000000 in
theorem t_X9_tune (F : Nat) (a0 : Nat) (x1 : Int32) (x2 : Int32) (h0 : z_Hp) : z_Ct zi mi_X9_tune [vr (some a0), vi x1, vi x2] h0 (c_X9_tune F a0 x1 x2 h0) := by
  refine z_entry (by decide) (Nat.le_of_ble_eq_true rfl) [(0, vr (some a0)), (1, vi x1), (2, vi x2)] rfl ?_
  unfold c_X9_tune
  refine z_iload_n (pc := 0) dX9_tune_0 rfl 1 rfl (z_callS_I (pc := 1) (avs := [vi x1]) (st := []) rfl (t_X9_isTune F x1 h0) ky_X9_isTune ws_X9_isTune wz_RX9_144 (rm_X9_tune_X9_isTune) (Nat.le_of_ble_eq_true rfl) dX9_tune_1 (fun x4 h3 => (?_)))
  refine z_if_eq (pc := 4) (tgt := 14) dX9_tune_4 (by decide) ?_ ?_
  · refine z_iconst (pc := 14) dX9_tune_14 ic_m1 (?_)
    exact z_iret (pc := 15) dX9_tune_15 rfl rfl
  · refine z_iload_n (pc := 7) dX9_tune_7 rfl 2 rfl (z_callS_I (pc := 8) (avs := [vi x2]) (st := []) rfl (t_X9_isRow F x2 h3) ky_X9_isRow ws_X9_isRow wz_RX9_86 (rm_X9_tune_X9_isRow) (Nat.le_of_ble_eq_true rfl) dX9_tune_8 (fun x6 h5 => (?_)))
    refine z_if_ne (pc := 11) (tgt := 16) dX9_tune_11 (by decide) ?_ ?_
    · refine z_aload_n (pc := 16) dX9_tune_16 rfl 0 rfl (z_getRl (pc := 17) fl_RX9_11 rfl dX9_tune_17 (fun o7 => (z_iload_n (pc := 20) dX9_tune_20 rfl 2 rfl (?_))))
      refine z_nn (fun a8 ea8 => ?_)
      subst ea8
      refine z_aaloadl (pc := 21) 23 (by decide) dX9_tune_21 (fun o9 => (z_astore_n (pc := 22) (L' := [(0, vr (some a0)), (1, vi x1), (2, vi x2), (3, vr o9)]) dX9_tune_22 rfl (Nat.le_of_ble_eq_true rfl) rfl (z_aload_n (pc := 23) dX9_tune_23 rfl 3 rfl (?_))))
      refine z_ifnonnull (pc := 24) (tgt := 33) dX9_tune_24 (by decide) (fun ea10 => ?_) (fun a10 ea10 => ?_)
      · subst ea10
        refine z_aload_n (pc := 27) dX9_tune_27 rfl 0 rfl (z_iconst (pc := 28) dX9_tune_28 ic_1 (z_callV_I (pc := 29) (avs := [vi 1]) (st := []) rfl (q := (RX9, TX9, 18)) rfl rfl (t_X9_found F a0 1 h5) ky_X9_found wm_X9_found we_X9_found wz_RX9_90 (rm_X9_tune_X9_found) (Nat.le_of_ble_eq_true rfl) dX9_tune_29 (fun x12 h11 => (?_))))
        exact z_iret (pc := 32) dX9_tune_32 rfl rfl
      · subst ea10
        refine z_aload_n (pc := 33) dX9_tune_33 rfl 3 rfl (z_alen (pc := 34) dX9_tune_34 (?_))
        refine z_jn (P := fun (j : z_Hp → Option (Int32 × z_Hp)) => ∀ (h14 : z_Hp), z_G zi mi_X9_tune 45 [(0, vr (some a0))] [] h14 (j h14)) (fun h14 => ?_) (fun j45_13 qj45_13 => ?_)
        · refine z_aload_n (pc := 45) dX9_tune_45 rfl 0 rfl (z_iconst (pc := 46) dX9_tune_46 ic_5 (z_callV_I (pc := 47) (avs := [vi 5]) (st := []) rfl (q := (RX9, TX9, 18)) rfl rfl (t_X9_found F a0 5 h14) ky_X9_found wm_X9_found we_X9_found wz_RX9_90 (rm_X9_tune_X9_found) (Nat.le_of_ble_eq_true rfl) dX9_tune_47 (fun x16 h15 => (?_))))
          exact z_iret (pc := 50) dX9_tune_50 rfl rfl
        refine z_if_eq (pc := 35) (tgt := 45) dX9_tune_35 (by decide) ?_ ?_
        · exact z_sub [0] rfl (qj45_13 h5)
        · refine z_aload_n (pc := 38) dX9_tune_38 rfl 3 rfl (z_alen (pc := 39) dX9_tune_39 (z_bipush (pc := 40) dX9_tune_40 bp_8 (?_)))
          refine z_icmp_le (pc := 42) (tgt := 51) dX9_tune_42 (by decide) ?_ ?_
          · refine z_aload_n (pc := 51) dX9_tune_51 rfl 3 rfl (z_bipush (pc := 52) dX9_tune_52 bp_20 (z_callS_I (pc := 54) (avs := [vr (some a10), vi 20]) (st := []) rfl (t_X9_allWithin F (some a10) 20 h5) ky_X9_allWithin ws_X9_allWithin wz_RX9_147 (rm_X9_tune_X9_allWithin) (Nat.le_of_ble_eq_true rfl) dX9_tune_54 (fun x18 h17 => (?_))))
            refine z_if_ne (pc := 57) (tgt := 66) dX9_tune_57 (by decide) ?_ ?_
            · refine z_aload_n (pc := 66) dX9_tune_66 rfl 0 rfl (z_getRl (pc := 67) fl_RX9_27 rfl dX9_tune_67 (fun o19 => (z_iload_n (pc := 70) dX9_tune_70 rfl 1 rfl (z_aload_n (pc := 71) dX9_tune_71 rfl 3 rfl (z_aload_n (pc := 72) dX9_tune_72 rfl 3 rfl (z_alen (pc := 73) dX9_tune_73 (z_callS_R (pc := 74) (avs := [vr (some a10), vi (nI (hN h17 a10))]) (st := [vi x1, vr o19]) rfl (t_J7_copyOf_59c91 F (some a10) (nI (hN h17 a10)) h17) ky_J7_copyOf_59c91 ws_J7_copyOf_59c91 wz_RX9_151 (rm_X9_tune_J7_copyOf_59c91) (Nat.le_of_ble_eq_true rfl) dX9_tune_74 (fun o21 h20 => (?_)))))))))
              refine z_nn (fun a22 ea22 => ?_)
              subst ea22
              refine z_aastorel (pc := 77) 23 (by decide) dX9_tune_77 (fun h23 => (z_aload_n (pc := 78) dX9_tune_78 rfl 3 rfl (z_alen (pc := 79) dX9_tune_79 (?_))))
              exact z_iret (pc := 80) dX9_tune_80 rfl rfl
            · refine z_aload_n (pc := 60) dX9_tune_60 rfl 0 rfl (z_iconst (pc := 61) dX9_tune_61 ic_3 (z_callV_I (pc := 62) (avs := [vi 3]) (st := []) rfl (q := (RX9, TX9, 18)) rfl rfl (t_X9_found F a0 3 h17) ky_X9_found wm_X9_found we_X9_found wz_RX9_90 (rm_X9_tune_X9_found) (Nat.le_of_ble_eq_true rfl) dX9_tune_62 (fun x25 h24 => (?_))))
              exact z_iret (pc := 65) dX9_tune_65 rfl rfl
          · exact z_sub [0] rfl (qj45_13 h5)
    · refine z_iconst (pc := 14) dX9_tune_14 ic_m1 (?_)
      exact z_iret (pc := 15) dX9_tune_15 rfl rfl
theorem dX9_inForceToday_0 : decode cX9_inForceToday 0 = .ok (.aload_n 0, 1) := by decide +kernel
theorem dX9_inForceToday_1 : decode cX9_inForceToday 1 = .ok (.getfield 33, 3) := by decide +kernel
theorem dX9_inForceToday_4 : decode cX9_inForceToday 4 = .ok (.iload_n 1, 1) := by decide +kernel
theorem dX9_inForceToday_5 : decode cX9_inForceToday 5 = .ok (.aload_n 0, 1) := by decide +kernel
theorem dX9_inForceToday_6 : decode cX9_inForceToday 6 = .ok (.getfield 111, 3) := by decide +kernel
theorem dX9_inForceToday_9 : decode cX9_inForceToday 9 = .ok (.aload_n 0, 1) := by decide +kernel
theorem dX9_inForceToday_10 : decode cX9_inForceToday 10 = .ok (.getfield 111, 3) := by decide +kernel
theorem dX9_inForceToday_13 : decode cX9_inForceToday 13 = .ok (.invokevirtual 181, 3) := by decide +kernel
theorem dX9_inForceToday_16 : decode cX9_inForceToday 16 = .ok (.ireturn, 1) := by decide +kernel
def c_X9_inForceToday (F : Nat) (a0 : Nat) (x1 : Int32) (h0 : z_Hp) : Option (Int32 × z_Hp) := (if hT h0 a0 = 9 then (lt_ (hR h0 a0 5) (fun o2 => (if hT h0 a0 = 9 then (if hT h0 a0 = 9 then (nn o2 (fun a3 => (if hT h0 a3 = 3 then (bI (c_X3_inForce F a3 x1 (hI h0 a0 4) (hI h0 a0 4) h0) (fun x5 h4 => (some (x5, h4)))) else none))) else none) else none))) else none)
set_option maxRecDepth 20000 in
set_option maxHeartbeats 4000000 in
theorem t_X9_inForceToday (F : Nat) (a0 : Nat) (x1 : Int32) (h0 : z_Hp) : z_Ct zi mi_X9_inForceToday [vr (some a0), vi x1] h0 (c_X9_inForceToday F a0 x1 h0) := by
  refine z_entry (by decide) (Nat.le_of_ble_eq_true rfl) [(0, vr (some a0)), (1, vi x1)] rfl ?_
  unfold c_X9_inForceToday
  refine z_aload_n (pc := 0) dX9_inForceToday_0 rfl 0 rfl (z_getRl (pc := 1) fl_RX9_33 rfl dX9_inForceToday_1 (fun o2 => (z_iload_n (pc := 4) dX9_inForceToday_4 rfl 1 rfl (z_aload_n (pc := 5) dX9_inForceToday_5 rfl 0 rfl (z_getI (pc := 6) fl_RX9_111 rfl dX9_inForceToday_6 (z_aload_n (pc := 9) dX9_inForceToday_9 rfl 0 rfl (z_getI (pc := 10) fl_RX9_111 rfl dX9_inForceToday_10 (?_))))))))
  refine z_nn (fun a3 ea3 => ?_)
  subst ea3
  refine z_callV_I (pc := 13) (avs := [vi x1, vi (hI h0 a0 4), vi (hI h0 a0 4)]) (st := []) rfl (q := (RX3, TX3, 4)) rfl rfl (t_X3_inForce F a3 x1 (hI h0 a0 4) (hI h0 a0 4) h0) ky_X3_inForce wm_X3_inForce we_X3_inForce wz_RX9_181 (rm_X9_inForceToday_X3_inForce) (Nat.le_of_ble_eq_true rfl) dX9_inForceToday_13 (fun x5 h4 => (?_))
  exact z_iret (pc := 16) dX9_inForceToday_16 rfl rfl
theorem dX9_fit_0 : decode cX9_fit 0 = .ok (.iload_n 1, 1) := by decide +kernel
theorem dX9_fit_1 : decode cX9_fit 1 = .ok (.invokestatic 114, 3) := by decide +kernel
theorem dX9_fit_4 : decode cX9_fit 4 = .ok (.ifCond .eq 10, 3) := by decide +kernel
theorem dX9_fit_7 : decode cX9_fit 7 = .ok (.iload_n 2, 1) := by decide +kernel
theorem dX9_fit_8 : decode cX9_fit 8 = .ok (.invokestatic 144, 3) := by decide +kernel
theorem dX9_fit_11 : decode cX9_fit 11 = .ok (.ifCond .ne 5, 3) := by decide +kernel
theorem dX9_fit_14 : decode cX9_fit 14 = .ok (.iconst (-1), 1) := by decide +kernel
theorem dX9_fit_15 : decode cX9_fit 15 = .ok (.ireturn, 1) := by decide +kernel
theorem dX9_fit_16 : decode cX9_fit 16 = .ok (.aload_n 0, 1) := by decide +kernel
theorem dX9_fit_17 : decode cX9_fit 17 = .ok (.getfield 23, 3) := by decide +kernel
theorem dX9_fit_20 : decode cX9_fit 20 = .ok (.iload_n 1, 1) := by decide +kernel
theorem dX9_fit_21 : decode cX9_fit 21 = .ok (.aaload, 1) := by decide +kernel
theorem dX9_fit_22 : decode cX9_fit 22 = .ok (.astore_n 3, 1) := by decide +kernel
theorem dX9_fit_23 : decode cX9_fit 23 = .ok (.aload_n 0, 1) := by decide +kernel
theorem dX9_fit_24 : decode cX9_fit 24 = .ok (.getfield 27, 3) := by decide +kernel
theorem dX9_fit_27 : decode cX9_fit 27 = .ok (.iload_n 2, 1) := by decide +kernel
theorem dX9_fit_28 : decode cX9_fit 28 = .ok (.aaload, 1) := by decide +kernel
theorem dX9_fit_29 : decode cX9_fit 29 = .ok (.astore 4, 2) := by decide +kernel
theorem dX9_fit_31 : decode cX9_fit 31 = .ok (.aload_n 3, 1) := by decide +kernel
theorem dX9_fit_32 : decode cX9_fit 32 = .ok (.ifnull 8, 3) := by decide +kernel
theorem dX9_fit_35 : decode cX9_fit 35 = .ok (.aload 4, 2) := by decide +kernel
theorem dX9_fit_37 : decode cX9_fit 37 = .ok (.ifnonnull 9, 3) := by decide +kernel
theorem dX9_fit_40 : decode cX9_fit 40 = .ok (.aload_n 0, 1) := by decide +kernel
theorem dX9_fit_41 : decode cX9_fit 41 = .ok (.iconst 1, 1) := by decide +kernel
theorem dX9_fit_42 : decode cX9_fit 42 = .ok (.invokevirtual 90, 3) := by decide +kernel
theorem dX9_fit_45 : decode cX9_fit 45 = .ok (.ireturn, 1) := by decide +kernel
theorem dX9_fit_46 : decode cX9_fit 46 = .ok (.aload_n 3, 1) := by decide +kernel
theorem dX9_fit_47 : decode cX9_fit 47 = .ok (.aload 4, 2) := by decide +kernel
theorem dX9_fit_49 : decode cX9_fit 49 = .ok (.aload_n 0, 1) := by decide +kernel
theorem dX9_fit_50 : decode cX9_fit 50 = .ok (.iconst 0, 1) := by decide +kernel
theorem dX9_fit_51 : decode cX9_fit 51 = .ok (.invokevirtual 157, 3) := by decide +kernel
theorem dX9_fit_54 : decode cX9_fit 54 = .ok (.invokevirtual 160, 3) := by decide +kernel
theorem dX9_fit_57 : decode cX9_fit 57 = .ok (.ireturn, 1) := by decide +kernel
def c_X9_fit (F : Nat) (a0 : Nat) (x1 : Int32) (x2 : Int32) (h0 : z_Hp) : Option (Int32 × z_Hp) := (bI (c_X9_isSong F x1 h0) (fun x4 h3 => (if x4 = 0 then (some ((-1), h3)) else (bI (c_X9_isTune F x2 h3) (fun x6 h5 => (if x6 = 0 then (some ((-1), h5)) else (if hT h5 a0 = 9 then (lt_ (hR h5 a0 2) (fun o7 => (nn o7 (fun a8 => (if okA h5 a8 25 x1 = true then (lt_ (hR h5 a8 (ix x1)) (fun o9 => (if hT h5 a0 = 9 then (lt_ (hR h5 a0 3) (fun o10 => (nn o10 (fun a11 => (if okA h5 a11 23 x2 = true then (lt_ (hR h5 a11 (ix x2)) (fun o12 => (lt_ (fun (h14 : z_Hp) => (if hT h14 a0 = 9 then (bI (c_X9_found F a0 1 h14) (fun x16 h15 => (some (x16, h15)))) else none)) (fun (j40_13 : z_Hp → Option (Int32 × z_Hp)) => (nl o9 (j40_13 h5) (fun a17 => (nl o12 (j40_13 h5) (fun a18 => (if hT h5 a0 = 9 then (bI (c_X9_inForceToday F a0 0 h5) (fun x20 h19 => (if hT h19 a17 = 7 then (bI (c_X7_firstMisfit F a17 (some a18) x20 h19) (fun x22 h21 => (some (x22, h21)))) else none))) else none))))))))) else none))))) else none))) else none))))) else none)))))))
set_option maxRecDepth 20000 in
set_option maxHeartbeats 4000000 in
theorem t_X9_fit (F : Nat) (a0 : Nat) (x1 : Int32) (x2 : Int32) (h0 : z_Hp) : z_Ct zi mi_X9_fit [vr (some a0), vi x1, vi x2] h0 (c_X9_fit F a0 x1 x2 h0) := by
  refine z_entry (by decide) (Nat.le_of_ble_eq_true rfl) [(0, vr (some a0)), (1, vi x1), (2, vi x2)] rfl ?_
  unfold c_X9_fit
  refine z_iload_n (pc := 0) dX9_fit_0 rfl 1 rfl (z_callS_I (pc := 1) (avs := [vi x1]) (st := []) rfl (t_X9_isSong F x1 h0) ky_X9_isSong ws_X9_isSong wz_RX9_114 (rm_X9_fit_X9_isSong) (Nat.le_of_ble_eq_true rfl) dX9_fit_1 (fun x4 h3 => (?_)))
  refine z_if_eq (pc := 4) (tgt := 14) dX9_fit_4 (by decide) ?_ ?_
  · refine z_iconst (pc := 14) dX9_fit_14 ic_m1 (?_)
    exact z_iret (pc := 15) dX9_fit_15 rfl rfl
  · refine z_iload_n (pc := 7) dX9_fit_7 rfl 2 rfl (z_callS_I (pc := 8) (avs := [vi x2]) (st := []) rfl (t_X9_isTune F x2 h3) ky_X9_isTune ws_X9_isTune wz_RX9_144 (rm_X9_fit_X9_isTune) (Nat.le_of_ble_eq_true rfl) dX9_fit_8 (fun x6 h5 => (?_)))
    refine z_if_ne (pc := 11) (tgt := 16) dX9_fit_11 (by decide) ?_ ?_
    · refine z_aload_n (pc := 16) dX9_fit_16 rfl 0 rfl (z_getRl (pc := 17) fl_RX9_23 rfl dX9_fit_17 (fun o7 => (z_iload_n (pc := 20) dX9_fit_20 rfl 1 rfl (?_))))
      refine z_nn (fun a8 ea8 => ?_)
      subst ea8
      refine z_aaloadl (pc := 21) 25 (by decide) dX9_fit_21 (fun o9 => (z_astore_n (pc := 22) (L' := [(0, vr (some a0)), (1, vi x1), (2, vi x2), (3, vr o9)]) dX9_fit_22 rfl (Nat.le_of_ble_eq_true rfl) rfl (z_aload_n (pc := 23) dX9_fit_23 rfl 0 rfl (z_getRl (pc := 24) fl_RX9_27 rfl dX9_fit_24 (fun o10 => (z_iload_n (pc := 27) dX9_fit_27 rfl 2 rfl (?_)))))))
      refine z_nn (fun a11 ea11 => ?_)
      subst ea11
      refine z_aaloadl (pc := 28) 23 (by decide) dX9_fit_28 (fun o12 => (z_astore (pc := 29) (L' := [(0, vr (some a0)), (1, vi x1), (2, vi x2), (3, vr o9), (4, vr o12)]) dX9_fit_29 (Nat.le_of_ble_eq_true rfl) rfl (z_aload_n (pc := 31) dX9_fit_31 rfl 3 rfl (?_))))
      refine z_jn (P := fun (j : z_Hp → Option (Int32 × z_Hp)) => ∀ (h14 : z_Hp), z_G zi mi_X9_fit 40 [(0, vr (some a0))] [] h14 (j h14)) (fun h14 => ?_) (fun j40_13 qj40_13 => ?_)
      · refine z_aload_n (pc := 40) dX9_fit_40 rfl 0 rfl (z_iconst (pc := 41) dX9_fit_41 ic_1 (z_callV_I (pc := 42) (avs := [vi 1]) (st := []) rfl (q := (RX9, TX9, 18)) rfl rfl (t_X9_found F a0 1 h14) ky_X9_found wm_X9_found we_X9_found wz_RX9_90 (rm_X9_fit_X9_found) (Nat.le_of_ble_eq_true rfl) dX9_fit_42 (fun x16 h15 => (?_))))
        exact z_iret (pc := 45) dX9_fit_45 rfl rfl
      refine z_ifnull (pc := 32) (tgt := 40) dX9_fit_32 (by decide) (fun ea17 => ?_) (fun a17 ea17 => ?_)
      · subst ea17
        exact z_sub [0] rfl (qj40_13 h5)
      · subst ea17
        refine z_aload (pc := 35) dX9_fit_35 4 rfl (?_)
        refine z_ifnonnull (pc := 37) (tgt := 46) dX9_fit_37 (by decide) (fun ea18 => ?_) (fun a18 ea18 => ?_)
        · subst ea18
          exact z_sub [0] rfl (qj40_13 h5)
        · subst ea18
          refine z_aload_n (pc := 46) dX9_fit_46 rfl 3 rfl (z_aload (pc := 47) dX9_fit_47 4 rfl (z_aload_n (pc := 49) dX9_fit_49 rfl 0 rfl (z_iconst (pc := 50) dX9_fit_50 ic_0 (z_callV_I (pc := 51) (avs := [vi 0]) (st := [vr (some a18), vr (some a17)]) rfl (q := (RX9, TX9, 18)) rfl rfl (t_X9_inForceToday F a0 0 h5) ky_X9_inForceToday wm_X9_inForceToday we_X9_inForceToday wz_RX9_157 (rm_X9_fit_X9_inForceToday) (Nat.le_of_ble_eq_true rfl) dX9_fit_51 (fun x20 h19 => (?_))))))
          refine z_callV_I (pc := 54) (avs := [vr (some a18), vi x20]) (st := []) rfl (q := (RX7, TX7, 5)) rfl rfl (t_X7_firstMisfit F a17 (some a18) x20 h19) ky_X7_firstMisfit wm_X7_firstMisfit we_X7_firstMisfit wz_RX9_160 (rm_X9_fit_X7_firstMisfit) (Nat.le_of_ble_eq_true rfl) dX9_fit_54 (fun x22 h21 => (?_))
          exact z_iret (pc := 57) dX9_fit_57 rfl rfl
    · refine z_iconst (pc := 14) dX9_fit_14 ic_m1 (?_)
      exact z_iret (pc := 15) dX9_fit_15 rfl rfl
theorem dX9_tunes_0 : decode cX9_tunes 0 = .ok (.iload_n 1, 1) := by decide +kernel
theorem dX9_tunes_1 : decode cX9_tunes 1 = .ok (.invokestatic 114, 3) := by decide +kernel
theorem dX9_tunes_4 : decode cX9_tunes 4 = .ok (.ifCond .ne 5, 3) := by decide +kernel
theorem dX9_tunes_7 : decode cX9_tunes 7 = .ok (.iconst (-1), 1) := by decide +kernel
theorem dX9_tunes_8 : decode cX9_tunes 8 = .ok (.ireturn, 1) := by decide +kernel
theorem dX9_tunes_9 : decode cX9_tunes 9 = .ok (.aload_n 0, 1) := by decide +kernel
theorem dX9_tunes_10 : decode cX9_tunes 10 = .ok (.getfield 23, 3) := by decide +kernel
theorem dX9_tunes_13 : decode cX9_tunes 13 = .ok (.iload_n 1, 1) := by decide +kernel
theorem dX9_tunes_14 : decode cX9_tunes 14 = .ok (.aaload, 1) := by decide +kernel
theorem dX9_tunes_15 : decode cX9_tunes 15 = .ok (.astore_n 2, 1) := by decide +kernel
theorem dX9_tunes_16 : decode cX9_tunes 16 = .ok (.aload_n 2, 1) := by decide +kernel
theorem dX9_tunes_17 : decode cX9_tunes 17 = .ok (.ifnonnull 9, 3) := by decide +kernel
theorem dX9_tunes_20 : decode cX9_tunes 20 = .ok (.aload_n 0, 1) := by decide +kernel
theorem dX9_tunes_21 : decode cX9_tunes 21 = .ok (.iconst 1, 1) := by decide +kernel
theorem dX9_tunes_22 : decode cX9_tunes 22 = .ok (.invokevirtual 90, 3) := by decide +kernel
theorem dX9_tunes_25 : decode cX9_tunes 25 = .ok (.ireturn, 1) := by decide +kernel
theorem dX9_tunes_26 : decode cX9_tunes 26 = .ok (.aload_n 0, 1) := by decide +kernel
theorem dX9_tunes_27 : decode cX9_tunes 27 = .ok (.iconst 0, 1) := by decide +kernel
theorem dX9_tunes_28 : decode cX9_tunes 28 = .ok (.invokevirtual 157, 3) := by decide +kernel
theorem dX9_tunes_31 : decode cX9_tunes 31 = .ok (.istore_n 3, 1) := by decide +kernel
theorem dX9_tunes_32 : decode cX9_tunes 32 = .ok (.iconst 0, 1) := by decide +kernel
theorem dX9_tunes_33 : decode cX9_tunes 33 = .ok (.istore 4, 2) := by decide +kernel
theorem dX9_tunes_35 : decode cX9_tunes 35 = .ok (.iconst 0, 1) := by decide +kernel
theorem dX9_tunes_36 : decode cX9_tunes 36 = .ok (.istore 5, 2) := by decide +kernel
theorem dX9_tunes_38 : decode cX9_tunes 38 = .ok (.iload 5, 2) := by decide +kernel
theorem dX9_tunes_40 : decode cX9_tunes 40 = .ok (.bipush 6, 2) := by decide +kernel
theorem dX9_tunes_42 : decode cX9_tunes 42 = .ok (.if_icmp .ge 44, 3) := by decide +kernel
theorem dX9_tunes_45 : decode cX9_tunes 45 = .ok (.aload_n 0, 1) := by decide +kernel
theorem dX9_tunes_46 : decode cX9_tunes 46 = .ok (.getfield 27, 3) := by decide +kernel
theorem dX9_tunes_49 : decode cX9_tunes 49 = .ok (.iload 5, 2) := by decide +kernel
theorem dX9_tunes_51 : decode cX9_tunes 51 = .ok (.aaload, 1) := by decide +kernel
theorem dX9_tunes_52 : decode cX9_tunes 52 = .ok (.astore 6, 2) := by decide +kernel
theorem dX9_tunes_54 : decode cX9_tunes 54 = .ok (.aload 6, 2) := by decide +kernel
theorem dX9_tunes_56 : decode cX9_tunes 56 = .ok (.ifnull 24, 3) := by decide +kernel
theorem dX9_tunes_59 : decode cX9_tunes 59 = .ok (.aload_n 2, 1) := by decide +kernel
theorem dX9_tunes_60 : decode cX9_tunes 60 = .ok (.aload 6, 2) := by decide +kernel
theorem dX9_tunes_62 : decode cX9_tunes 62 = .ok (.iload_n 3, 1) := by decide +kernel
theorem dX9_tunes_63 : decode cX9_tunes 63 = .ok (.invokevirtual 160, 3) := by decide +kernel
theorem dX9_tunes_66 : decode cX9_tunes 66 = .ok (.bipush (-9), 2) := by decide +kernel
theorem dX9_tunes_68 : decode cX9_tunes 68 = .ok (.if_icmp .ne 12, 3) := by decide +kernel
theorem dX9_tunes_71 : decode cX9_tunes 71 = .ok (.iload 4, 2) := by decide +kernel
theorem dX9_tunes_73 : decode cX9_tunes 73 = .ok (.iconst 1, 1) := by decide +kernel
theorem dX9_tunes_74 : decode cX9_tunes 74 = .ok (.iload 5, 2) := by decide +kernel
theorem dX9_tunes_76 : decode cX9_tunes 76 = .ok (.ishl, 1) := by decide +kernel
theorem dX9_tunes_77 : decode cX9_tunes 77 = .ok (.ior, 1) := by decide +kernel
theorem dX9_tunes_78 : decode cX9_tunes 78 = .ok (.istore 4, 2) := by decide +kernel
theorem dX9_tunes_80 : decode cX9_tunes 80 = .ok (.iinc 5 1, 3) := by decide +kernel
theorem dX9_tunes_83 : decode cX9_tunes 83 = .ok (.goto (-45), 3) := by decide +kernel
theorem dX9_tunes_86 : decode cX9_tunes 86 = .ok (.iload 4, 2) := by decide +kernel
theorem dX9_tunes_88 : decode cX9_tunes 88 = .ok (.ireturn, 1) := by decide +kernel
def c_X9_tunes_L38 (F : Nat) (a12 : Nat) (a13 : Nat) (x14 : Int32) : Nat → Int32 → Int32 → z_Hp → Option (Int32 × z_Hp)
  | 0, _, _, _ => none
  | n + 1, x15, x16, h17 => (if 6 ≤ x16 then (some (x15, h17)) else (if hT h17 a12 = 9 then (lt_ (hR h17 a12 3) (fun o18 => (nn o18 (fun a19 => (if okA h17 a19 23 x16 = true then (lt_ (hR h17 a19 (ix x16)) (fun o20 => (lt_ (fun (x22 : Int32) (h23 : z_Hp) => (lt_ (x16 + 1) (fun x24 => (c_X9_tunes_L38 F a12 a13 x14 n x22 x24 h23)))) (fun (j80_21 : Int32 → z_Hp → Option (Int32 × z_Hp)) => (nl o20 (j80_21 x15 h17) (fun a25 => (if hT h17 a13 = 7 then (bI (c_X7_firstMisfit F a13 (some a25) x14 h17) (fun x27 h26 => (if x27 = (-9) then (lt_ (x15 ||| (1 <<< (x16 &&& 31))) (fun x28 => (j80_21 x28 h26))) else (j80_21 x15 h26)))) else none))))))) else none))))) else none))
def c_X9_tunes (F : Nat) (a0 : Nat) (x1 : Int32) (h0 : z_Hp) : Option (Int32 × z_Hp) := (bI (c_X9_isSong F x1 h0) (fun x3 h2 => (if x3 = 0 then (some ((-1), h2)) else (if hT h2 a0 = 9 then (lt_ (hR h2 a0 2) (fun o4 => (nn o4 (fun a5 => (if okA h2 a5 25 x1 = true then (lt_ (hR h2 a5 (ix x1)) (fun o6 => (nl o6 (if hT h2 a0 = 9 then (bI (c_X9_found F a0 1 h2) (fun x9 h8 => (some (x9, h8)))) else none) (fun a7 => (if hT h2 a0 = 9 then (bI (c_X9_inForceToday F a0 0 h2) (fun x11 h10 => (c_X9_tunes_L38 F a0 a7 x11 F 0 0 h10))) else none))))) else none))))) else none))))
set_option maxRecDepth 20000 in
set_option maxHeartbeats 4000000 in
theorem g_X9_tunes_L38 (F : Nat) (a12 : Nat) (a13 : Nat) (x14 : Int32) : ∀ (n : Nat) (x15 : Int32) (x16 : Int32) (h17 : z_Hp), z_G zi mi_X9_tunes 38 [(0, vr (some a12)), (2, vr (some a13)), (3, vi x14), (4, vi x15), (5, vi x16)] [] h17 (c_X9_tunes_L38 F a12 a13 x14 n x15 x16 h17) := by
  intro n
  induction n with
  | zero => intro x15 x16 h17; rw [c_X9_tunes_L38]; exact z_none
  | succ n ih =>
    intro x15 x16 h17
    rw [c_X9_tunes_L38]
    refine z_iload (pc := 38) dX9_tunes_38 4 rfl (z_bipush (pc := 40) dX9_tunes_40 bp_6 (?_))
    refine z_icmp_ge (pc := 42) (tgt := 86) dX9_tunes_42 (by decide) ?_ ?_
    · refine z_iload (pc := 86) dX9_tunes_86 3 rfl (?_)
      exact z_iret (pc := 88) dX9_tunes_88 rfl rfl
    · refine z_aload_n (pc := 45) dX9_tunes_45 rfl 0 rfl (z_getRl (pc := 46) fl_RX9_27 rfl dX9_tunes_46 (fun o18 => (z_iload (pc := 49) dX9_tunes_49 4 rfl (?_))))
      refine z_nn (fun a19 ea19 => ?_)
      subst ea19
      refine z_aaloadl (pc := 51) 23 (by decide) dX9_tunes_51 (fun o20 => (z_astore (pc := 52) (L' := [(0, vr (some a12)), (2, vr (some a13)), (3, vi x14), (4, vi x15), (5, vi x16), (6, vr o20)]) dX9_tunes_52 (Nat.le_of_ble_eq_true rfl) rfl (z_aload (pc := 54) dX9_tunes_54 5 rfl (?_))))
      refine z_jn (P := fun (j : Int32 → z_Hp → Option (Int32 × z_Hp)) => ∀ (x22 : Int32) (h23 : z_Hp), z_G zi mi_X9_tunes 80 [(0, vr (some a12)), (2, vr (some a13)), (3, vi x14), (4, vi x22), (5, vi x16)] [] h23 (j x22 h23)) (fun x22 h23 => ?_) (fun j80_21 qj80_21 => ?_)
      · refine z_iincl (pc := 80) (L' := fun x24 => [(0, vr (some a12)), (2, vr (some a13)), (3, vi x14), (4, vi x22), (5, vi x24)]) dX9_tunes_80 4 rfl ic_1 (Nat.le_of_ble_eq_true rfl) (fun _ => rfl) (fun x24 => (z_goto (pc := 83) (tgt := 38) dX9_tunes_83 (by decide) (?_)))
        exact ih x22 x24 h23
      refine z_ifnull (pc := 56) (tgt := 80) dX9_tunes_56 (by decide) (fun ea25 => ?_) (fun a25 ea25 => ?_)
      · subst ea25
        exact z_sub [0, 1, 2, 3, 4] rfl (qj80_21 x15 h17)
      · subst ea25
        refine z_aload_n (pc := 59) dX9_tunes_59 rfl 1 rfl (z_aload (pc := 60) dX9_tunes_60 5 rfl (z_iload_n (pc := 62) dX9_tunes_62 rfl 2 rfl (z_callV_I (pc := 63) (avs := [vr (some a25), vi x14]) (st := []) rfl (q := (RX7, TX7, 5)) rfl rfl (t_X7_firstMisfit F a13 (some a25) x14 h17) ky_X7_firstMisfit wm_X7_firstMisfit we_X7_firstMisfit wz_RX9_160 (rm_X9_tunes_X7_firstMisfit) (Nat.le_of_ble_eq_true rfl) dX9_tunes_63 (fun x27 h26 => (?_)))))
        refine z_bipush (pc := 66) dX9_tunes_66 bp_m9 (?_)
        refine z_icmp_ne (pc := 68) (tgt := 80) dX9_tunes_68 (by decide) ?_ ?_
        · exact z_sub [0, 1, 2, 3, 4] rfl (qj80_21 x15 h26)
        · refine z_iload (pc := 71) dX9_tunes_71 3 rfl (z_iconst (pc := 73) dX9_tunes_73 ic_1 (z_iload (pc := 74) dX9_tunes_74 4 rfl (z_ishl (pc := 76) dX9_tunes_76 (z_ior (pc := 77) dX9_tunes_77 (z_istorel (pc := 78) (L' := fun x28 => [(0, vr (some a12)), (2, vr (some a13)), (3, vi x14), (4, vi x28), (5, vi x16), (6, vr (some a25))]) dX9_tunes_78 (Nat.le_of_ble_eq_true rfl) (fun _ => rfl) (fun x28 => (?_)))))))
          exact z_sub [0, 1, 2, 3, 4] rfl (qj80_21 x28 h26)
set_option maxRecDepth 20000 in
set_option maxHeartbeats 4000000 in
theorem t_X9_tunes (F : Nat) (a0 : Nat) (x1 : Int32) (h0 : z_Hp) : z_Ct zi mi_X9_tunes [vr (some a0), vi x1] h0 (c_X9_tunes F a0 x1 h0) := by
  refine z_entry (by decide) (Nat.le_of_ble_eq_true rfl) [(0, vr (some a0)), (1, vi x1)] rfl ?_
  unfold c_X9_tunes
  refine z_iload_n (pc := 0) dX9_tunes_0 rfl 1 rfl (z_callS_I (pc := 1) (avs := [vi x1]) (st := []) rfl (t_X9_isSong F x1 h0) ky_X9_isSong ws_X9_isSong wz_RX9_114 (rm_X9_tunes_X9_isSong) (Nat.le_of_ble_eq_true rfl) dX9_tunes_1 (fun x3 h2 => (?_)))
  refine z_if_ne (pc := 4) (tgt := 9) dX9_tunes_4 (by decide) ?_ ?_
  · refine z_aload_n (pc := 9) dX9_tunes_9 rfl 0 rfl (z_getRl (pc := 10) fl_RX9_23 rfl dX9_tunes_10 (fun o4 => (z_iload_n (pc := 13) dX9_tunes_13 rfl 1 rfl (?_))))
    refine z_nn (fun a5 ea5 => ?_)
    subst ea5
    refine z_aaloadl (pc := 14) 25 (by decide) dX9_tunes_14 (fun o6 => (z_astore_n (pc := 15) (L' := [(0, vr (some a0)), (1, vi x1), (2, vr o6)]) dX9_tunes_15 rfl (Nat.le_of_ble_eq_true rfl) rfl (z_aload_n (pc := 16) dX9_tunes_16 rfl 2 rfl (?_))))
    refine z_ifnonnull (pc := 17) (tgt := 26) dX9_tunes_17 (by decide) (fun ea7 => ?_) (fun a7 ea7 => ?_)
    · subst ea7
      refine z_aload_n (pc := 20) dX9_tunes_20 rfl 0 rfl (z_iconst (pc := 21) dX9_tunes_21 ic_1 (z_callV_I (pc := 22) (avs := [vi 1]) (st := []) rfl (q := (RX9, TX9, 18)) rfl rfl (t_X9_found F a0 1 h2) ky_X9_found wm_X9_found we_X9_found wz_RX9_90 (rm_X9_tunes_X9_found) (Nat.le_of_ble_eq_true rfl) dX9_tunes_22 (fun x9 h8 => (?_))))
      exact z_iret (pc := 25) dX9_tunes_25 rfl rfl
    · subst ea7
      refine z_aload_n (pc := 26) dX9_tunes_26 rfl 0 rfl (z_iconst (pc := 27) dX9_tunes_27 ic_0 (z_callV_I (pc := 28) (avs := [vi 0]) (st := []) rfl (q := (RX9, TX9, 18)) rfl rfl (t_X9_inForceToday F a0 0 h2) ky_X9_inForceToday wm_X9_inForceToday we_X9_inForceToday wz_RX9_157 (rm_X9_tunes_X9_inForceToday) (Nat.le_of_ble_eq_true rfl) dX9_tunes_28 (fun x11 h10 => (?_))))
      refine z_istore_n (pc := 31) (L' := [(0, vr (some a0)), (1, vi x1), (2, vr (some a7)), (3, vi x11)]) dX9_tunes_31 rfl (Nat.le_of_ble_eq_true rfl) rfl (z_iconst (pc := 32) dX9_tunes_32 ic_0 (z_istore (pc := 33) (L' := [(0, vr (some a0)), (1, vi x1), (2, vr (some a7)), (3, vi x11), (4, vi 0)]) dX9_tunes_33 (Nat.le_of_ble_eq_true rfl) rfl (z_iconst (pc := 35) dX9_tunes_35 ic_0 (z_istore (pc := 36) (L' := [(0, vr (some a0)), (1, vi x1), (2, vr (some a7)), (3, vi x11), (4, vi 0), (5, vi 0)]) dX9_tunes_36 (Nat.le_of_ble_eq_true rfl) rfl (?_)))))
      refine z_sub [0, 2, 3, 4, 5] rfl (g_X9_tunes_L38 F a0 a7 x11 F 0 0 h10)
  · refine z_iconst (pc := 7) dX9_tunes_7 ic_m1 (?_)
    exact z_iret (pc := 8) dX9_tunes_8 rfl rfl
theorem dX9_fault_0 : decode cX9_fault 0 = .ok (.iload_n 1, 1) := by decide +kernel
theorem dX9_fault_1 : decode cX9_fault 1 = .ok (.invokestatic 108, 3) := by decide +kernel
theorem dX9_fault_4 : decode cX9_fault 4 = .ok (.ifCond .ne 5, 3) := by decide +kernel
theorem dX9_fault_7 : decode cX9_fault 7 = .ok (.iconst (-1), 1) := by decide +kernel
theorem dX9_fault_8 : decode cX9_fault 8 = .ok (.ireturn, 1) := by decide +kernel
theorem dX9_fault_9 : decode cX9_fault 9 = .ok (.aload_n 0, 1) := by decide +kernel
theorem dX9_fault_10 : decode cX9_fault 10 = .ok (.getfield 17, 3) := by decide +kernel
theorem dX9_fault_13 : decode cX9_fault 13 = .ok (.iload_n 1, 1) := by decide +kernel
theorem dX9_fault_14 : decode cX9_fault 14 = .ok (.aaload, 1) := by decide +kernel
theorem dX9_fault_15 : decode cX9_fault 15 = .ok (.astore_n 2, 1) := by decide +kernel
theorem dX9_fault_16 : decode cX9_fault 16 = .ok (.aload_n 2, 1) := by decide +kernel
theorem dX9_fault_17 : decode cX9_fault 17 = .ok (.ifnonnull 9, 3) := by decide +kernel
theorem dX9_fault_20 : decode cX9_fault 20 = .ok (.aload_n 0, 1) := by decide +kernel
theorem dX9_fault_21 : decode cX9_fault 21 = .ok (.iconst 1, 1) := by decide +kernel
theorem dX9_fault_22 : decode cX9_fault 22 = .ok (.invokevirtual 90, 3) := by decide +kernel
theorem dX9_fault_25 : decode cX9_fault 25 = .ok (.ireturn, 1) := by decide +kernel
theorem dX9_fault_26 : decode cX9_fault 26 = .ok (.aload_n 2, 1) := by decide +kernel
theorem dX9_fault_27 : decode cX9_fault 27 = .ok (.invokestatic 164, 3) := by decide +kernel
theorem dX9_fault_30 : decode cX9_fault 30 = .ok (.ireturn, 1) := by decide +kernel
def c_X9_fault (F : Nat) (a0 : Nat) (x1 : Int32) (h0 : z_Hp) : Option (Int32 × z_Hp) := (bI (c_X9_isText F x1 h0) (fun x3 h2 => (if x3 = 0 then (some ((-1), h2)) else (if hT h2 a0 = 9 then (lt_ (hR h2 a0 1) (fun o4 => (nn o4 (fun a5 => (if okA h2 a5 24 x1 = true then (lt_ (hR h2 a5 (ix x1)) (fun o6 => (nl o6 (if hT h2 a0 = 9 then (bI (c_X9_found F a0 1 h2) (fun x9 h8 => (some (x9, h8)))) else none) (fun a7 => (bI (c_X3_faultIn F (some a7) h2) (fun x11 h10 => (some (x11, h10)))))))) else none))))) else none))))
set_option maxRecDepth 20000 in
set_option maxHeartbeats 4000000 in
theorem t_X9_fault (F : Nat) (a0 : Nat) (x1 : Int32) (h0 : z_Hp) : z_Ct zi mi_X9_fault [vr (some a0), vi x1] h0 (c_X9_fault F a0 x1 h0) := by
  refine z_entry (by decide) (Nat.le_of_ble_eq_true rfl) [(0, vr (some a0)), (1, vi x1)] rfl ?_
  unfold c_X9_fault
  refine z_iload_n (pc := 0) dX9_fault_0 rfl 1 rfl (z_callS_I (pc := 1) (avs := [vi x1]) (st := []) rfl (t_X9_isText F x1 h0) ky_X9_isText ws_X9_isText wz_RX9_108 (rm_X9_fault_X9_isText) (Nat.le_of_ble_eq_true rfl) dX9_fault_1 (fun x3 h2 => (?_)))
  refine z_if_ne (pc := 4) (tgt := 9) dX9_fault_4 (by decide) ?_ ?_
  · refine z_aload_n (pc := 9) dX9_fault_9 rfl 0 rfl (z_getRl (pc := 10) fl_RX9_17 rfl dX9_fault_10 (fun o4 => (z_iload_n (pc := 13) dX9_fault_13 rfl 1 rfl (?_))))
    refine z_nn (fun a5 ea5 => ?_)
    subst ea5
    refine z_aaloadl (pc := 14) 24 (by decide) dX9_fault_14 (fun o6 => (z_astore_n (pc := 15) (L' := [(0, vr (some a0)), (1, vi x1), (2, vr o6)]) dX9_fault_15 rfl (Nat.le_of_ble_eq_true rfl) rfl (z_aload_n (pc := 16) dX9_fault_16 rfl 2 rfl (?_))))
    refine z_ifnonnull (pc := 17) (tgt := 26) dX9_fault_17 (by decide) (fun ea7 => ?_) (fun a7 ea7 => ?_)
    · subst ea7
      refine z_aload_n (pc := 20) dX9_fault_20 rfl 0 rfl (z_iconst (pc := 21) dX9_fault_21 ic_1 (z_callV_I (pc := 22) (avs := [vi 1]) (st := []) rfl (q := (RX9, TX9, 18)) rfl rfl (t_X9_found F a0 1 h2) ky_X9_found wm_X9_found we_X9_found wz_RX9_90 (rm_X9_fault_X9_found) (Nat.le_of_ble_eq_true rfl) dX9_fault_22 (fun x9 h8 => (?_))))
      exact z_iret (pc := 25) dX9_fault_25 rfl rfl
    · subst ea7
      refine z_aload_n (pc := 26) dX9_fault_26 rfl 2 rfl (z_callS_I (pc := 27) (avs := [vr (some a7)]) (st := []) rfl (t_X3_faultIn F (some a7) h2) ky_X3_faultIn ws_X3_faultIn wz_RX9_164 (rm_X9_fault_X3_faultIn) (Nat.le_of_ble_eq_true rfl) dX9_fault_27 (fun x11 h10 => (?_)))
      exact z_iret (pc := 30) dX9_fault_30 rfl rfl
  · refine z_iconst (pc := 7) dX9_fault_7 ic_m1 (?_)
    exact z_iret (pc := 8) dX9_fault_8 rfl rfl
theorem dX9_isDay_0 : decode cX9_isDay 0 = .ok (.iload_n 0, 1) := by decide +kernel
theorem dX9_isDay_1 : decode cX9_isDay 1 = .ok (.ifCond .lt 14, 3) := by decide +kernel
theorem dX9_isDay_4 : decode cX9_isDay 4 = .ok (.iload_n 0, 1) := by decide +kernel
theorem dX9_isDay_5 : decode cX9_isDay 5 = .ok (.sipush 999, 3) := by decide +kernel
theorem dX9_isDay_8 : decode cX9_isDay 8 = .ok (.if_icmp .gt 7, 3) := by decide +kernel
theorem dX9_isDay_11 : decode cX9_isDay 11 = .ok (.iconst 1, 1) := by decide +kernel
theorem dX9_isDay_12 : decode cX9_isDay 12 = .ok (.goto 4, 3) := by decide +kernel
theorem dX9_isDay_15 : decode cX9_isDay 15 = .ok (.iconst 0, 1) := by decide +kernel
theorem dX9_isDay_16 : decode cX9_isDay 16 = .ok (.ireturn, 1) := by decide +kernel
def c_X9_isDay (F : Nat) (x1 : Int32) (h0 : z_Hp) : Option (Int32 × z_Hp) := (if x1 < 0 then (some (0, h0)) else (if 999 < x1 then (some (0, h0)) else (some (1, h0))))
set_option maxRecDepth 20000 in
set_option maxHeartbeats 4000000 in
theorem t_X9_isDay (F : Nat) (x1 : Int32) (h0 : z_Hp) : z_Ct zi mi_X9_isDay [vi x1] h0 (c_X9_isDay F x1 h0) := by
  refine z_entry (by decide) (Nat.le_of_ble_eq_true rfl) [(0, vi x1)] rfl ?_
  unfold c_X9_isDay
  refine z_iload_n (pc := 0) dX9_isDay_0 rfl 0 rfl (?_)
  refine z_if_lt (pc := 1) (tgt := 15) dX9_isDay_1 (by decide) ?_ ?_
  · refine z_iconst (pc := 15) dX9_isDay_15 ic_0 (?_)
    exact z_iret (pc := 16) dX9_isDay_16 rfl rfl
  · refine z_iload_n (pc := 4) dX9_isDay_4 rfl 0 rfl (z_sipush (pc := 5) dX9_isDay_5 sp_999 (?_))
    refine z_icmp_gt (pc := 8) (tgt := 15) dX9_isDay_8 (by decide) ?_ ?_
    · refine z_iconst (pc := 15) dX9_isDay_15 ic_0 (?_)
      exact z_iret (pc := 16) dX9_isDay_16 rfl rfl
    · refine z_iconst (pc := 11) dX9_isDay_11 ic_1 (z_goto (pc := 12) (tgt := 16) dX9_isDay_12 (by decide) (?_))
      exact z_iret (pc := 16) dX9_isDay_16 rfl rfl
theorem dX9_rule_0 : decode cX9_rule 0 = .ok (.iload_n 1, 1) := by decide +kernel
theorem dX9_rule_1 : decode cX9_rule 1 = .ok (.invokestatic 108, 3) := by decide +kernel
theorem dX9_rule_4 : decode cX9_rule 4 = .ok (.ifCond .eq 10, 3) := by decide +kernel
theorem dX9_rule_7 : decode cX9_rule 7 = .ok (.iload_n 2, 1) := by decide +kernel
theorem dX9_rule_8 : decode cX9_rule 8 = .ok (.invokestatic 167, 3) := by decide +kernel
theorem dX9_rule_11 : decode cX9_rule 11 = .ok (.ifCond .ne 5, 3) := by decide +kernel
theorem dX9_rule_14 : decode cX9_rule 14 = .ok (.iconst (-1), 1) := by decide +kernel
theorem dX9_rule_15 : decode cX9_rule 15 = .ok (.ireturn, 1) := by decide +kernel
theorem dX9_rule_16 : decode cX9_rule 16 = .ok (.aload_n 0, 1) := by decide +kernel
theorem dX9_rule_17 : decode cX9_rule 17 = .ok (.getfield 33, 3) := by decide +kernel
theorem dX9_rule_20 : decode cX9_rule 20 = .ok (.getfield 170, 3) := by decide +kernel
theorem dX9_rule_23 : decode cX9_rule 23 = .ok (.bipush 16, 2) := by decide +kernel
theorem dX9_rule_25 : decode cX9_rule 25 = .ok (.if_icmp .lt 6, 3) := by decide +kernel
theorem dX9_rule_28 : decode cX9_rule 28 = .ok (.bipush (-2), 2) := by decide +kernel
theorem dX9_rule_30 : decode cX9_rule 30 = .ok (.ireturn, 1) := by decide +kernel
theorem dX9_rule_31 : decode cX9_rule 31 = .ok (.aload_n 0, 1) := by decide +kernel
theorem dX9_rule_32 : decode cX9_rule 32 = .ok (.getfield 17, 3) := by decide +kernel
theorem dX9_rule_35 : decode cX9_rule 35 = .ok (.iload_n 1, 1) := by decide +kernel
theorem dX9_rule_36 : decode cX9_rule 36 = .ok (.aaload, 1) := by decide +kernel
theorem dX9_rule_37 : decode cX9_rule 37 = .ok (.astore_n 3, 1) := by decide +kernel
theorem dX9_rule_38 : decode cX9_rule 38 = .ok (.aload_n 3, 1) := by decide +kernel
theorem dX9_rule_39 : decode cX9_rule 39 = .ok (.ifnonnull 9, 3) := by decide +kernel
theorem dX9_rule_42 : decode cX9_rule 42 = .ok (.aload_n 0, 1) := by decide +kernel
theorem dX9_rule_43 : decode cX9_rule 43 = .ok (.iconst 1, 1) := by decide +kernel
theorem dX9_rule_44 : decode cX9_rule 44 = .ok (.invokevirtual 90, 3) := by decide +kernel
theorem dX9_rule_47 : decode cX9_rule 47 = .ok (.ireturn, 1) := by decide +kernel
theorem dX9_rule_48 : decode cX9_rule 48 = .ok (.aload_n 3, 1) := by decide +kernel
theorem dX9_rule_49 : decode cX9_rule 49 = .ok (.invokestatic 164, 3) := by decide +kernel
theorem dX9_rule_52 : decode cX9_rule 52 = .ok (.bipush (-9), 2) := by decide +kernel
theorem dX9_rule_54 : decode cX9_rule 54 = .ok (.if_icmp .eq 6, 3) := by decide +kernel
theorem dX9_rule_57 : decode cX9_rule 57 = .ok (.bipush (-4), 2) := by decide +kernel
theorem dX9_rule_59 : decode cX9_rule 59 = .ok (.ireturn, 1) := by decide +kernel
theorem dX9_rule_60 : decode cX9_rule 60 = .ok (.aload_n 0, 1) := by decide +kernel
theorem dX9_rule_61 : decode cX9_rule 61 = .ok (.getfield 33, 3) := by decide +kernel
theorem dX9_rule_64 : decode cX9_rule 64 = .ok (.aload_n 3, 1) := by decide +kernel
theorem dX9_rule_65 : decode cX9_rule 65 = .ok (.aload_n 0, 1) := by decide +kernel
theorem dX9_rule_66 : decode cX9_rule 66 = .ok (.getfield 111, 3) := by decide +kernel
theorem dX9_rule_69 : decode cX9_rule 69 = .ok (.iload_n 2, 1) := by decide +kernel
theorem dX9_rule_70 : decode cX9_rule 70 = .ok (.invokevirtual 173, 3) := by decide +kernel
theorem dX9_rule_73 : decode cX9_rule 73 = .ok (.ireturn, 1) := by decide +kernel
def c_X9_rule (F : Nat) (a0 : Nat) (x1 : Int32) (x2 : Int32) (h0 : z_Hp) : Option (Int32 × z_Hp) := (bI (c_X9_isText F x1 h0) (fun x4 h3 => (if x4 = 0 then (some ((-1), h3)) else (bI (c_X9_isDay F x2 h3) (fun x6 h5 => (if x6 = 0 then (some ((-1), h5)) else (if hT h5 a0 = 9 then (lt_ (hR h5 a0 5) (fun o7 => (nn o7 (fun a8 => (if hT h5 a8 = 3 then (if (hI h5 a8 3) < 16 then (if hT h5 a0 = 9 then (lt_ (hR h5 a0 1) (fun o9 => (nn o9 (fun a10 => (if okA h5 a10 24 x1 = true then (lt_ (hR h5 a10 (ix x1)) (fun o11 => (nl o11 (if hT h5 a0 = 9 then (bI (c_X9_found F a0 1 h5) (fun x14 h13 => (some (x14, h13)))) else none) (fun a12 => (bI (c_X3_faultIn F (some a12) h5) (fun x16 h15 => (if x16 = (-9) then (if hT h15 a0 = 9 then (lt_ (hR h15 a0 5) (fun o17 => (if hT h15 a0 = 9 then (nn o17 (fun a18 => (if hT h15 a18 = 3 then (bI (c_X3_add F a18 (some a12) (hI h15 a0 4) x2 h15) (fun x20 h19 => (some (x20, h19)))) else none))) else none))) else none) else (some ((-4), h15))))))))) else none))))) else none) else (some ((-2), h5))) else none))))) else none)))))))
set_option maxRecDepth 20000 in
set_option maxHeartbeats 4000000 in
theorem t_X9_rule (F : Nat) (a0 : Nat) (x1 : Int32) (x2 : Int32) (h0 : z_Hp) : z_Ct zi mi_X9_rule [vr (some a0), vi x1, vi x2] h0 (c_X9_rule F a0 x1 x2 h0) := by
  refine z_entry (by decide) (Nat.le_of_ble_eq_true rfl) [(0, vr (some a0)), (1, vi x1), (2, vi x2)] rfl ?_
  unfold c_X9_rule
  refine z_iload_n (pc := 0) dX9_rule_0 rfl 1 rfl (z_callS_I (pc := 1) (avs := [vi x1]) (st := []) rfl (t_X9_isText F x1 h0) ky_X9_isText ws_X9_isText wz_RX9_108 (rm_X9_rule_X9_isText) (Nat.le_of_ble_eq_true rfl) dX9_rule_1 (fun x4 h3 => (?_)))
  refine z_if_eq (pc := 4) (tgt := 14) dX9_rule_4 (by decide) ?_ ?_
  · refine z_iconst (pc := 14) dX9_rule_14 ic_m1 (?_)
    exact z_iret (pc := 15) dX9_rule_15 rfl rfl
  · refine z_iload_n (pc := 7) dX9_rule_7 rfl 2 rfl (z_callS_I (pc := 8) (avs := [vi x2]) (st := []) rfl (t_X9_isDay F x2 h3) ky_X9_isDay ws_X9_isDay wz_RX9_167 (rm_X9_rule_X9_isDay) (Nat.le_of_ble_eq_true rfl) dX9_rule_8 (fun x6 h5 => (?_)))
    refine z_if_ne (pc := 11) (tgt := 16) dX9_rule_11 (by decide) ?_ ?_
    · refine z_aload_n (pc := 16) dX9_rule_16 rfl 0 rfl (z_getRl (pc := 17) fl_RX9_33 rfl dX9_rule_17 (fun o7 => (?_)))
      refine z_nn (fun a8 ea8 => ?_)
      subst ea8
      refine z_getI (pc := 20) fl_RX9_170 rfl dX9_rule_20 (z_bipush (pc := 23) dX9_rule_23 bp_16 (?_))
      refine z_icmp_lt (pc := 25) (tgt := 31) dX9_rule_25 (by decide) ?_ ?_
      · refine z_aload_n (pc := 31) dX9_rule_31 rfl 0 rfl (z_getRl (pc := 32) fl_RX9_17 rfl dX9_rule_32 (fun o9 => (z_iload_n (pc := 35) dX9_rule_35 rfl 1 rfl (?_))))
        refine z_nn (fun a10 ea10 => ?_)
        subst ea10
        refine z_aaloadl (pc := 36) 24 (by decide) dX9_rule_36 (fun o11 => (z_astore_n (pc := 37) (L' := [(0, vr (some a0)), (1, vi x1), (2, vi x2), (3, vr o11)]) dX9_rule_37 rfl (Nat.le_of_ble_eq_true rfl) rfl (z_aload_n (pc := 38) dX9_rule_38 rfl 3 rfl (?_))))
        refine z_ifnonnull (pc := 39) (tgt := 48) dX9_rule_39 (by decide) (fun ea12 => ?_) (fun a12 ea12 => ?_)
        · subst ea12
          refine z_aload_n (pc := 42) dX9_rule_42 rfl 0 rfl (z_iconst (pc := 43) dX9_rule_43 ic_1 (z_callV_I (pc := 44) (avs := [vi 1]) (st := []) rfl (q := (RX9, TX9, 18)) rfl rfl (t_X9_found F a0 1 h5) ky_X9_found wm_X9_found we_X9_found wz_RX9_90 (rm_X9_rule_X9_found) (Nat.le_of_ble_eq_true rfl) dX9_rule_44 (fun x14 h13 => (?_))))
          exact z_iret (pc := 47) dX9_rule_47 rfl rfl
        · subst ea12
          refine z_aload_n (pc := 48) dX9_rule_48 rfl 3 rfl (z_callS_I (pc := 49) (avs := [vr (some a12)]) (st := []) rfl (t_X3_faultIn F (some a12) h5) ky_X3_faultIn ws_X3_faultIn wz_RX9_164 (rm_X9_rule_X3_faultIn) (Nat.le_of_ble_eq_true rfl) dX9_rule_49 (fun x16 h15 => (?_)))
          refine z_bipush (pc := 52) dX9_rule_52 bp_m9 (?_)
          refine z_icmp_eq (pc := 54) (tgt := 60) dX9_rule_54 (by decide) ?_ ?_
          · refine z_aload_n (pc := 60) dX9_rule_60 rfl 0 rfl (z_getRl (pc := 61) fl_RX9_33 rfl dX9_rule_61 (fun o17 => (z_aload_n (pc := 64) dX9_rule_64 rfl 3 rfl (z_aload_n (pc := 65) dX9_rule_65 rfl 0 rfl (z_getI (pc := 66) fl_RX9_111 rfl dX9_rule_66 (z_iload_n (pc := 69) dX9_rule_69 rfl 2 rfl (?_)))))))
            refine z_nn (fun a18 ea18 => ?_)
            subst ea18
            refine z_callV_I (pc := 70) (avs := [vr (some a12), vi (hI h15 a0 4), vi x2]) (st := []) rfl (q := (RX3, TX3, 4)) rfl rfl (t_X3_add F a18 (some a12) (hI h15 a0 4) x2 h15) ky_X3_add wm_X3_add we_X3_add wz_RX9_173 (rm_X9_rule_X3_add) (Nat.le_of_ble_eq_true rfl) dX9_rule_70 (fun x20 h19 => (?_))
            exact z_iret (pc := 73) dX9_rule_73 rfl rfl
          · refine z_bipush (pc := 57) dX9_rule_57 bp_m4 (?_)
            exact z_iret (pc := 59) dX9_rule_59 rfl rfl
      · refine z_bipush (pc := 28) dX9_rule_28 bp_m2 (?_)
        exact z_iret (pc := 30) dX9_rule_30 rfl rfl
    · refine z_iconst (pc := 14) dX9_rule_14 ic_m1 (?_)
      exact z_iret (pc := 15) dX9_rule_15 rfl rfl
theorem dX9_isForce_0 : decode cX9_isForce 0 = .ok (.iload_n 0, 1) := by decide +kernel
theorem dX9_isForce_1 : decode cX9_isForce 1 = .ok (.ifCond .lt 26, 3) := by decide +kernel
theorem dX9_isForce_4 : decode cX9_isForce 4 = .ok (.iload_n 0, 1) := by decide +kernel
theorem dX9_isForce_5 : decode cX9_isForce 5 = .ok (.iconst 4, 1) := by decide +kernel
theorem dX9_isForce_6 : decode cX9_isForce 6 = .ok (.if_icmp .gt 21, 3) := by decide +kernel
theorem dX9_isForce_9 : decode cX9_isForce 9 = .ok (.iload_n 1, 1) := by decide +kernel
theorem dX9_isForce_10 : decode cX9_isForce 10 = .ok (.invokestatic 167, 3) := by decide +kernel
theorem dX9_isForce_13 : decode cX9_isForce 13 = .ok (.ifCond .eq 14, 3) := by decide +kernel
theorem dX9_isForce_16 : decode cX9_isForce 16 = .ok (.iload_n 2, 1) := by decide +kernel
theorem dX9_isForce_17 : decode cX9_isForce 17 = .ok (.invokestatic 167, 3) := by decide +kernel
theorem dX9_isForce_20 : decode cX9_isForce 20 = .ok (.ifCond .eq 7, 3) := by decide +kernel
theorem dX9_isForce_23 : decode cX9_isForce 23 = .ok (.iconst 1, 1) := by decide +kernel
theorem dX9_isForce_24 : decode cX9_isForce 24 = .ok (.goto 4, 3) := by decide +kernel
theorem dX9_isForce_27 : decode cX9_isForce 27 = .ok (.iconst 0, 1) := by decide +kernel
theorem dX9_isForce_28 : decode cX9_isForce 28 = .ok (.ireturn, 1) := by decide +kernel
def c_X9_isForce (F : Nat) (x1 : Int32) (x2 : Int32) (x3 : Int32) (h0 : z_Hp) : Option (Int32 × z_Hp) := (if x1 < 0 then (some (0, h0)) else (if 4 < x1 then (some (0, h0)) else (bI (c_X9_isDay F x2 h0) (fun x5 h4 => (if x5 = 0 then (some (0, h4)) else (bI (c_X9_isDay F x3 h4) (fun x7 h6 => (if x7 = 0 then (some (0, h6)) else (some (1, h6))))))))))
set_option maxRecDepth 20000 in
set_option maxHeartbeats 4000000 in
theorem t_X9_isForce (F : Nat) (x1 : Int32) (x2 : Int32) (x3 : Int32) (h0 : z_Hp) : z_Ct zi mi_X9_isForce [vi x1, vi x2, vi x3] h0 (c_X9_isForce F x1 x2 x3 h0) := by
  refine z_entry (by decide) (Nat.le_of_ble_eq_true rfl) [(0, vi x1), (1, vi x2), (2, vi x3)] rfl ?_
  unfold c_X9_isForce
  refine z_iload_n (pc := 0) dX9_isForce_0 rfl 0 rfl (?_)
  refine z_if_lt (pc := 1) (tgt := 27) dX9_isForce_1 (by decide) ?_ ?_
  · refine z_iconst (pc := 27) dX9_isForce_27 ic_0 (?_)
    exact z_iret (pc := 28) dX9_isForce_28 rfl rfl
  · refine z_iload_n (pc := 4) dX9_isForce_4 rfl 0 rfl (z_iconst (pc := 5) dX9_isForce_5 ic_4 (?_))
    refine z_icmp_gt (pc := 6) (tgt := 27) dX9_isForce_6 (by decide) ?_ ?_
    · refine z_iconst (pc := 27) dX9_isForce_27 ic_0 (?_)
      exact z_iret (pc := 28) dX9_isForce_28 rfl rfl
    · refine z_iload_n (pc := 9) dX9_isForce_9 rfl 1 rfl (z_callS_I (pc := 10) (avs := [vi x2]) (st := []) rfl (t_X9_isDay F x2 h0) ky_X9_isDay ws_X9_isDay wz_RX9_167 (rm_X9_isForce_X9_isDay) (Nat.le_of_ble_eq_true rfl) dX9_isForce_10 (fun x5 h4 => (?_)))
      refine z_if_eq (pc := 13) (tgt := 27) dX9_isForce_13 (by decide) ?_ ?_
      · refine z_iconst (pc := 27) dX9_isForce_27 ic_0 (?_)
        exact z_iret (pc := 28) dX9_isForce_28 rfl rfl
      · refine z_iload_n (pc := 16) dX9_isForce_16 rfl 2 rfl (z_callS_I (pc := 17) (avs := [vi x3]) (st := []) rfl (t_X9_isDay F x3 h4) ky_X9_isDay ws_X9_isDay wz_RX9_167 (rm_X9_isForce_X9_isDay) (Nat.le_of_ble_eq_true rfl) dX9_isForce_17 (fun x7 h6 => (?_)))
        refine z_if_eq (pc := 20) (tgt := 27) dX9_isForce_20 (by decide) ?_ ?_
        · refine z_iconst (pc := 27) dX9_isForce_27 ic_0 (?_)
          exact z_iret (pc := 28) dX9_isForce_28 rfl rfl
        · refine z_iconst (pc := 23) dX9_isForce_23 ic_1 (z_goto (pc := 24) (tgt := 28) dX9_isForce_24 (by decide) (?_))
          exact z_iret (pc := 28) dX9_isForce_28 rfl rfl
theorem dX9_force_0 : decode cX9_force 0 = .ok (.iload_n 1, 1) := by decide +kernel
theorem dX9_force_1 : decode cX9_force 1 = .ok (.iload_n 2, 1) := by decide +kernel
theorem dX9_force_2 : decode cX9_force 2 = .ok (.iload_n 3, 1) := by decide +kernel
theorem dX9_force_3 : decode cX9_force 3 = .ok (.invokestatic 177, 3) := by decide +kernel
theorem dX9_force_6 : decode cX9_force 6 = .ok (.ifCond .ne 5, 3) := by decide +kernel
theorem dX9_force_9 : decode cX9_force 9 = .ok (.iconst (-1), 1) := by decide +kernel
theorem dX9_force_10 : decode cX9_force 10 = .ok (.ireturn, 1) := by decide +kernel
theorem dX9_force_11 : decode cX9_force 11 = .ok (.aload_n 0, 1) := by decide +kernel
theorem dX9_force_12 : decode cX9_force 12 = .ok (.getfield 33, 3) := by decide +kernel
theorem dX9_force_15 : decode cX9_force 15 = .ok (.iload_n 1, 1) := by decide +kernel
theorem dX9_force_16 : decode cX9_force 16 = .ok (.iload_n 2, 1) := by decide +kernel
theorem dX9_force_17 : decode cX9_force 17 = .ok (.iload_n 3, 1) := by decide +kernel
theorem dX9_force_18 : decode cX9_force 18 = .ok (.invokevirtual 181, 3) := by decide +kernel
theorem dX9_force_21 : decode cX9_force 21 = .ok (.ireturn, 1) := by decide +kernel
def c_X9_force (F : Nat) (a0 : Nat) (x1 : Int32) (x2 : Int32) (x3 : Int32) (h0 : z_Hp) : Option (Int32 × z_Hp) := (bI (c_X9_isForce F x1 x2 x3 h0) (fun x5 h4 => (if x5 = 0 then (some ((-1), h4)) else (if hT h4 a0 = 9 then (lt_ (hR h4 a0 5) (fun o6 => (nn o6 (fun a7 => (if hT h4 a7 = 3 then (bI (c_X3_inForce F a7 x1 x2 x3 h4) (fun x9 h8 => (some (x9, h8)))) else none))))) else none))))
set_option maxRecDepth 20000 in
set_option maxHeartbeats 4000000 in
theorem t_X9_force (F : Nat) (a0 : Nat) (x1 : Int32) (x2 : Int32) (x3 : Int32) (h0 : z_Hp) : z_Ct zi mi_X9_force [vr (some a0), vi x1, vi x2, vi x3] h0 (c_X9_force F a0 x1 x2 x3 h0) := by
  refine z_entry (by decide) (Nat.le_of_ble_eq_true rfl) [(0, vr (some a0)), (1, vi x1), (2, vi x2), (3, vi x3)] rfl ?_
  unfold c_X9_force
  refine z_iload_n (pc := 0) dX9_force_0 rfl 1 rfl (z_iload_n (pc := 1) dX9_force_1 rfl 2 rfl (z_iload_n (pc := 2) dX9_force_2 rfl 3 rfl (z_callS_I (pc := 3) (avs := [vi x1, vi x2, vi x3]) (st := []) rfl (t_X9_isForce F x1 x2 x3 h0) ky_X9_isForce ws_X9_isForce wz_RX9_177 (rm_X9_force_X9_isForce) (Nat.le_of_ble_eq_true rfl) dX9_force_3 (fun x5 h4 => (?_)))))
  refine z_if_ne (pc := 6) (tgt := 11) dX9_force_6 (by decide) ?_ ?_
  · refine z_aload_n (pc := 11) dX9_force_11 rfl 0 rfl (z_getRl (pc := 12) fl_RX9_33 rfl dX9_force_12 (fun o6 => (z_iload_n (pc := 15) dX9_force_15 rfl 1 rfl (z_iload_n (pc := 16) dX9_force_16 rfl 2 rfl (z_iload_n (pc := 17) dX9_force_17 rfl 3 rfl (?_))))))
    refine z_nn (fun a7 ea7 => ?_)
    subst ea7
    refine z_callV_I (pc := 18) (avs := [vi x1, vi x2, vi x3]) (st := []) rfl (q := (RX3, TX3, 4)) rfl rfl (t_X3_inForce F a7 x1 x2 x3 h4) ky_X3_inForce wm_X3_inForce we_X3_inForce wz_RX9_181 (rm_X9_force_X3_inForce) (Nat.le_of_ble_eq_true rfl) dX9_force_18 (fun x9 h8 => (?_))
    exact z_iret (pc := 21) dX9_force_21 rfl rfl
  · refine z_iconst (pc := 9) dX9_force_9 ic_m1 (?_)
    exact z_iret (pc := 10) dX9_force_10 rfl rfl
theorem dX9_why_0 : decode cX9_why 0 = .ok (.iload_n 1, 1) := by decide +kernel
theorem dX9_why_1 : decode cX9_why 1 = .ok (.iload_n 2, 1) := by decide +kernel
theorem dX9_why_2 : decode cX9_why 2 = .ok (.iload_n 3, 1) := by decide +kernel
theorem dX9_why_3 : decode cX9_why 3 = .ok (.invokestatic 177, 3) := by decide +kernel
theorem dX9_why_6 : decode cX9_why 6 = .ok (.ifCond .ne 5, 3) := by decide +kernel
theorem dX9_why_9 : decode cX9_why 9 = .ok (.iconst (-1), 1) := by decide +kernel
theorem dX9_why_10 : decode cX9_why 10 = .ok (.ireturn, 1) := by decide +kernel
theorem dX9_why_11 : decode cX9_why 11 = .ok (.aload_n 0, 1) := by decide +kernel
theorem dX9_why_12 : decode cX9_why 12 = .ok (.getfield 33, 3) := by decide +kernel
theorem dX9_why_15 : decode cX9_why 15 = .ok (.iload_n 1, 1) := by decide +kernel
theorem dX9_why_16 : decode cX9_why 16 = .ok (.iload_n 2, 1) := by decide +kernel
theorem dX9_why_17 : decode cX9_why 17 = .ok (.iload_n 3, 1) := by decide +kernel
theorem dX9_why_18 : decode cX9_why 18 = .ok (.invokevirtual 185, 3) := by decide +kernel
theorem dX9_why_21 : decode cX9_why 21 = .ok (.ireturn, 1) := by decide +kernel
def c_X9_why (F : Nat) (a0 : Nat) (x1 : Int32) (x2 : Int32) (x3 : Int32) (h0 : z_Hp) : Option (Int32 × z_Hp) := (bI (c_X9_isForce F x1 x2 x3 h0) (fun x5 h4 => (if x5 = 0 then (some ((-1), h4)) else (if hT h4 a0 = 9 then (lt_ (hR h4 a0 5) (fun o6 => (nn o6 (fun a7 => (if hT h4 a7 = 3 then (bI (c_X3_governing F a7 x1 x2 x3 h4) (fun x9 h8 => (some (x9, h8)))) else none))))) else none))))
set_option maxRecDepth 20000 in
set_option maxHeartbeats 4000000 in
theorem t_X9_why (F : Nat) (a0 : Nat) (x1 : Int32) (x2 : Int32) (x3 : Int32) (h0 : z_Hp) : z_Ct zi mi_X9_why [vr (some a0), vi x1, vi x2, vi x3] h0 (c_X9_why F a0 x1 x2 x3 h0) := by
  refine z_entry (by decide) (Nat.le_of_ble_eq_true rfl) [(0, vr (some a0)), (1, vi x1), (2, vi x2), (3, vi x3)] rfl ?_
  unfold c_X9_why
  refine z_iload_n (pc := 0) dX9_why_0 rfl 1 rfl (z_iload_n (pc := 1) dX9_why_1 rfl 2 rfl (z_iload_n (pc := 2) dX9_why_2 rfl 3 rfl (z_callS_I (pc := 3) (avs := [vi x1, vi x2, vi x3]) (st := []) rfl (t_X9_isForce F x1 x2 x3 h0) ky_X9_isForce ws_X9_isForce wz_RX9_177 (rm_X9_why_X9_isForce) (Nat.le_of_ble_eq_true rfl) dX9_why_3 (fun x5 h4 => (?_)))))
  refine z_if_ne (pc := 6) (tgt := 11) dX9_why_6 (by decide) ?_ ?_
  · refine z_aload_n (pc := 11) dX9_why_11 rfl 0 rfl (z_getRl (pc := 12) fl_RX9_33 rfl dX9_why_12 (fun o6 => (z_iload_n (pc := 15) dX9_why_15 rfl 1 rfl (z_iload_n (pc := 16) dX9_why_16 rfl 2 rfl (z_iload_n (pc := 17) dX9_why_17 rfl 3 rfl (?_))))))
    refine z_nn (fun a7 ea7 => ?_)
    subst ea7
    refine z_callV_I (pc := 18) (avs := [vi x1, vi x2, vi x3]) (st := []) rfl (q := (RX3, TX3, 4)) rfl rfl (t_X3_governing F a7 x1 x2 x3 h4) ky_X3_governing wm_X3_governing we_X3_governing wz_RX9_185 (rm_X9_why_X3_governing) (Nat.le_of_ble_eq_true rfl) dX9_why_18 (fun x9 h8 => (?_))
    exact z_iret (pc := 21) dX9_why_21 rfl rfl
  · refine z_iconst (pc := 9) dX9_why_9 ic_m1 (?_)
    exact z_iret (pc := 10) dX9_why_10 rfl rfl
theorem dX9_isPrinter_0 : decode cX9_isPrinter 0 = .ok (.iload_n 0, 1) := by decide +kernel
theorem dX9_isPrinter_1 : decode cX9_isPrinter 1 = .ok (.ifCond .lt 13, 3) := by decide +kernel
theorem dX9_isPrinter_4 : decode cX9_isPrinter 4 = .ok (.iload_n 0, 1) := by decide +kernel
theorem dX9_isPrinter_5 : decode cX9_isPrinter 5 = .ok (.bipush 8, 2) := by decide +kernel
theorem dX9_isPrinter_7 : decode cX9_isPrinter 7 = .ok (.if_icmp .ge 7, 3) := by decide +kernel
theorem dX9_isPrinter_10 : decode cX9_isPrinter 10 = .ok (.iconst 1, 1) := by decide +kernel
theorem dX9_isPrinter_11 : decode cX9_isPrinter 11 = .ok (.goto 4, 3) := by decide +kernel
theorem dX9_isPrinter_14 : decode cX9_isPrinter 14 = .ok (.iconst 0, 1) := by decide +kernel
theorem dX9_isPrinter_15 : decode cX9_isPrinter 15 = .ok (.ireturn, 1) := by decide +kernel
def c_X9_isPrinter (F : Nat) (x1 : Int32) (h0 : z_Hp) : Option (Int32 × z_Hp) := (if x1 < 0 then (some (0, h0)) else (if 8 ≤ x1 then (some (0, h0)) else (some (1, h0))))
set_option maxRecDepth 20000 in
set_option maxHeartbeats 4000000 in
theorem t_X9_isPrinter (F : Nat) (x1 : Int32) (h0 : z_Hp) : z_Ct zi mi_X9_isPrinter [vi x1] h0 (c_X9_isPrinter F x1 h0) := by
  refine z_entry (by decide) (Nat.le_of_ble_eq_true rfl) [(0, vi x1)] rfl ?_
  unfold c_X9_isPrinter
  refine z_iload_n (pc := 0) dX9_isPrinter_0 rfl 0 rfl (?_)
  refine z_if_lt (pc := 1) (tgt := 14) dX9_isPrinter_1 (by decide) ?_ ?_
  · refine z_iconst (pc := 14) dX9_isPrinter_14 ic_0 (?_)
    exact z_iret (pc := 15) dX9_isPrinter_15 rfl rfl
  · refine z_iload_n (pc := 4) dX9_isPrinter_4 rfl 0 rfl (z_bipush (pc := 5) dX9_isPrinter_5 bp_8 (?_))
    refine z_icmp_ge (pc := 7) (tgt := 14) dX9_isPrinter_7 (by decide) ?_ ?_
    · refine z_iconst (pc := 14) dX9_isPrinter_14 ic_0 (?_)
      exact z_iret (pc := 15) dX9_isPrinter_15 rfl rfl
    · refine z_iconst (pc := 10) dX9_isPrinter_10 ic_1 (z_goto (pc := 11) (tgt := 15) dX9_isPrinter_11 (by decide) (?_))
      exact z_iret (pc := 15) dX9_isPrinter_15 rfl rfl
theorem dX9_isToldYear_0 : decode cX9_isToldYear 0 = .ok (.iload_n 0, 1) := by decide +kernel
theorem dX9_isToldYear_1 : decode cX9_isToldYear 1 = .ok (.sipush 1500, 3) := by decide +kernel
theorem dX9_isToldYear_4 : decode cX9_isToldYear 4 = .ok (.if_icmp .lt 14, 3) := by decide +kernel
theorem dX9_isToldYear_7 : decode cX9_isToldYear 7 = .ok (.iload_n 0, 1) := by decide +kernel
theorem dX9_isToldYear_8 : decode cX9_isToldYear 8 = .ok (.sipush 1899, 3) := by decide +kernel
theorem dX9_isToldYear_11 : decode cX9_isToldYear 11 = .ok (.if_icmp .gt 7, 3) := by decide +kernel
theorem dX9_isToldYear_14 : decode cX9_isToldYear 14 = .ok (.iconst 1, 1) := by decide +kernel
theorem dX9_isToldYear_15 : decode cX9_isToldYear 15 = .ok (.goto 4, 3) := by decide +kernel
theorem dX9_isToldYear_18 : decode cX9_isToldYear 18 = .ok (.iconst 0, 1) := by decide +kernel
theorem dX9_isToldYear_19 : decode cX9_isToldYear 19 = .ok (.ireturn, 1) := by decide +kernel
def c_X9_isToldYear (F : Nat) (x1 : Int32) (h0 : z_Hp) : Option (Int32 × z_Hp) := (if x1 < 1500 then (some (0, h0)) else (if 1899 < x1 then (some (0, h0)) else (some (1, h0))))
set_option maxRecDepth 20000 in
set_option maxHeartbeats 4000000 in
theorem t_X9_isToldYear (F : Nat) (x1 : Int32) (h0 : z_Hp) : z_Ct zi mi_X9_isToldYear [vi x1] h0 (c_X9_isToldYear F x1 h0) := by
  refine z_entry (by decide) (Nat.le_of_ble_eq_true rfl) [(0, vi x1)] rfl ?_
  unfold c_X9_isToldYear
  refine z_iload_n (pc := 0) dX9_isToldYear_0 rfl 0 rfl (z_sipush (pc := 1) dX9_isToldYear_1 sp_1500 (?_))
  refine z_icmp_lt (pc := 4) (tgt := 18) dX9_isToldYear_4 (by decide) ?_ ?_
  · refine z_iconst (pc := 18) dX9_isToldYear_18 ic_0 (?_)
    exact z_iret (pc := 19) dX9_isToldYear_19 rfl rfl
  · refine z_iload_n (pc := 7) dX9_isToldYear_7 rfl 0 rfl (z_sipush (pc := 8) dX9_isToldYear_8 sp_1899 (?_))
    refine z_icmp_gt (pc := 11) (tgt := 18) dX9_isToldYear_11 (by decide) ?_ ?_
    · refine z_iconst (pc := 18) dX9_isToldYear_18 ic_0 (?_)
      exact z_iret (pc := 19) dX9_isToldYear_19 rfl rfl
    · refine z_iconst (pc := 14) dX9_isToldYear_14 ic_1 (z_goto (pc := 15) (tgt := 19) dX9_isToldYear_15 (by decide) (?_))
      exact z_iret (pc := 19) dX9_isToldYear_19 rfl rfl
theorem dX9_isSpan_0 : decode cX9_isSpan 0 = .ok (.iload_n 0, 1) := by decide +kernel
theorem dX9_isSpan_1 : decode cX9_isSpan 1 = .ok (.invokestatic 359, 3) := by decide +kernel
theorem dX9_isSpan_4 : decode cX9_isSpan 4 = .ok (.ifCond .eq 19, 3) := by decide +kernel
theorem dX9_isSpan_7 : decode cX9_isSpan 7 = .ok (.iload_n 1, 1) := by decide +kernel
theorem dX9_isSpan_8 : decode cX9_isSpan 8 = .ok (.invokestatic 359, 3) := by decide +kernel
theorem dX9_isSpan_11 : decode cX9_isSpan 11 = .ok (.ifCond .eq 12, 3) := by decide +kernel
theorem dX9_isSpan_14 : decode cX9_isSpan 14 = .ok (.iload_n 0, 1) := by decide +kernel
theorem dX9_isSpan_15 : decode cX9_isSpan 15 = .ok (.iload_n 1, 1) := by decide +kernel
theorem dX9_isSpan_16 : decode cX9_isSpan 16 = .ok (.if_icmp .gt 7, 3) := by decide +kernel
theorem dX9_isSpan_19 : decode cX9_isSpan 19 = .ok (.iconst 1, 1) := by decide +kernel
theorem dX9_isSpan_20 : decode cX9_isSpan 20 = .ok (.goto 4, 3) := by decide +kernel
theorem dX9_isSpan_23 : decode cX9_isSpan 23 = .ok (.iconst 0, 1) := by decide +kernel
theorem dX9_isSpan_24 : decode cX9_isSpan 24 = .ok (.ireturn, 1) := by decide +kernel
def c_X9_isSpan (F : Nat) (x1 : Int32) (x2 : Int32) (h0 : z_Hp) : Option (Int32 × z_Hp) := (bI (c_X9_isToldYear F x1 h0) (fun x4 h3 => (if x4 = 0 then (some (0, h3)) else (bI (c_X9_isToldYear F x2 h3) (fun x6 h5 => (if x6 = 0 then (some (0, h5)) else (if x2 < x1 then (some (0, h5)) else (some (1, h5)))))))))
set_option maxRecDepth 20000 in
set_option maxHeartbeats 4000000 in
theorem t_X9_isSpan (F : Nat) (x1 : Int32) (x2 : Int32) (h0 : z_Hp) : z_Ct zi mi_X9_isSpan [vi x1, vi x2] h0 (c_X9_isSpan F x1 x2 h0) := by
  refine z_entry (by decide) (Nat.le_of_ble_eq_true rfl) [(0, vi x1), (1, vi x2)] rfl ?_
  unfold c_X9_isSpan
  refine z_iload_n (pc := 0) dX9_isSpan_0 rfl 0 rfl (z_callS_I (pc := 1) (avs := [vi x1]) (st := []) rfl (t_X9_isToldYear F x1 h0) ky_X9_isToldYear ws_X9_isToldYear wz_RX9_359 (rm_X9_isSpan_X9_isToldYear) (Nat.le_of_ble_eq_true rfl) dX9_isSpan_1 (fun x4 h3 => (?_)))
  refine z_if_eq (pc := 4) (tgt := 23) dX9_isSpan_4 (by decide) ?_ ?_
  · refine z_iconst (pc := 23) dX9_isSpan_23 ic_0 (?_)
    exact z_iret (pc := 24) dX9_isSpan_24 rfl rfl
  · refine z_iload_n (pc := 7) dX9_isSpan_7 rfl 1 rfl (z_callS_I (pc := 8) (avs := [vi x2]) (st := []) rfl (t_X9_isToldYear F x2 h3) ky_X9_isToldYear ws_X9_isToldYear wz_RX9_359 (rm_X9_isSpan_X9_isToldYear) (Nat.le_of_ble_eq_true rfl) dX9_isSpan_8 (fun x6 h5 => (?_)))
    refine z_if_eq (pc := 11) (tgt := 23) dX9_isSpan_11 (by decide) ?_ ?_
    · refine z_iconst (pc := 23) dX9_isSpan_23 ic_0 (?_)
      exact z_iret (pc := 24) dX9_isSpan_24 rfl rfl
    · refine z_iload_n (pc := 14) dX9_isSpan_14 rfl 0 rfl (z_iload_n (pc := 15) dX9_isSpan_15 rfl 1 rfl (?_))
      refine z_icmp_gt (pc := 16) (tgt := 23) dX9_isSpan_16 (by decide) ?_ ?_
      · refine z_iconst (pc := 23) dX9_isSpan_23 ic_0 (?_)
        exact z_iret (pc := 24) dX9_isSpan_24 rfl rfl
      · refine z_iconst (pc := 19) dX9_isSpan_19 ic_1 (z_goto (pc := 20) (tgt := 24) dX9_isSpan_20 (by decide) (?_))
        exact z_iret (pc := 24) dX9_isSpan_24 rfl rfl
theorem dX9_printer_0 : decode cX9_printer 0 = .ok (.iload_n 1, 1) := by decide +kernel
theorem dX9_printer_1 : decode cX9_printer 1 = .ok (.invokestatic 188, 3) := by decide +kernel
theorem dX9_printer_4 : decode cX9_printer 4 = .ok (.ifCond .eq 11, 3) := by decide +kernel
theorem dX9_printer_7 : decode cX9_printer 7 = .ok (.iload_n 2, 1) := by decide +kernel
theorem dX9_printer_8 : decode cX9_printer 8 = .ok (.iload_n 3, 1) := by decide +kernel
theorem dX9_printer_9 : decode cX9_printer 9 = .ok (.invokestatic 191, 3) := by decide +kernel
theorem dX9_printer_12 : decode cX9_printer 12 = .ok (.ifCond .ne 5, 3) := by decide +kernel
theorem dX9_printer_15 : decode cX9_printer 15 = .ok (.iconst (-1), 1) := by decide +kernel
theorem dX9_printer_16 : decode cX9_printer 16 = .ok (.ireturn, 1) := by decide +kernel
theorem dX9_printer_17 : decode cX9_printer 17 = .ok (.aload_n 0, 1) := by decide +kernel
theorem dX9_printer_18 : decode cX9_printer 18 = .ok (.getfield 54, 3) := by decide +kernel
theorem dX9_printer_21 : decode cX9_printer 21 = .ok (.iload_n 1, 1) := by decide +kernel
theorem dX9_printer_22 : decode cX9_printer 22 = .ok (.iload_n 2, 1) := by decide +kernel
theorem dX9_printer_23 : decode cX9_printer 23 = .ok (.iload_n 3, 1) := by decide +kernel
theorem dX9_printer_24 : decode cX9_printer 24 = .ok (.invokevirtual 194, 3) := by decide +kernel
theorem dX9_printer_27 : decode cX9_printer 27 = .ok (.iconst 1, 1) := by decide +kernel
theorem dX9_printer_28 : decode cX9_printer 28 = .ok (.ireturn, 1) := by decide +kernel
def c_X9_printer (F : Nat) (a0 : Nat) (x1 : Int32) (x2 : Int32) (x3 : Int32) (h0 : z_Hp) : Option (Int32 × z_Hp) := (bI (c_X9_isPrinter F x1 h0) (fun x5 h4 => (if x5 = 0 then (some ((-1), h4)) else (bI (c_X9_isSpan F x2 x3 h4) (fun x7 h6 => (if x7 = 0 then (some ((-1), h6)) else (if hT h6 a0 = 9 then (lt_ (hR h6 a0 8) (fun o8 => (nn o8 (fun a9 => (if hT h6 a9 = 8 then (bV (c_X8_setPrinter F a9 x1 x2 x3 h6) (fun h10 => (some (1, h10)))) else none))))) else none)))))))
set_option maxRecDepth 20000 in
set_option maxHeartbeats 4000000 in
theorem t_X9_printer (F : Nat) (a0 : Nat) (x1 : Int32) (x2 : Int32) (x3 : Int32) (h0 : z_Hp) : z_Ct zi mi_X9_printer [vr (some a0), vi x1, vi x2, vi x3] h0 (c_X9_printer F a0 x1 x2 x3 h0) := by
  refine z_entry (by decide) (Nat.le_of_ble_eq_true rfl) [(0, vr (some a0)), (1, vi x1), (2, vi x2), (3, vi x3)] rfl ?_
  unfold c_X9_printer
  refine z_iload_n (pc := 0) dX9_printer_0 rfl 1 rfl (z_callS_I (pc := 1) (avs := [vi x1]) (st := []) rfl (t_X9_isPrinter F x1 h0) ky_X9_isPrinter ws_X9_isPrinter wz_RX9_188 (rm_X9_printer_X9_isPrinter) (Nat.le_of_ble_eq_true rfl) dX9_printer_1 (fun x5 h4 => (?_)))
  refine z_if_eq (pc := 4) (tgt := 15) dX9_printer_4 (by decide) ?_ ?_
  · refine z_iconst (pc := 15) dX9_printer_15 ic_m1 (?_)
    exact z_iret (pc := 16) dX9_printer_16 rfl rfl
  · refine z_iload_n (pc := 7) dX9_printer_7 rfl 2 rfl (z_iload_n (pc := 8) dX9_printer_8 rfl 3 rfl (z_callS_I (pc := 9) (avs := [vi x2, vi x3]) (st := []) rfl (t_X9_isSpan F x2 x3 h4) ky_X9_isSpan ws_X9_isSpan wz_RX9_191 (rm_X9_printer_X9_isSpan) (Nat.le_of_ble_eq_true rfl) dX9_printer_9 (fun x7 h6 => (?_))))
    refine z_if_ne (pc := 12) (tgt := 17) dX9_printer_12 (by decide) ?_ ?_
    · refine z_aload_n (pc := 17) dX9_printer_17 rfl 0 rfl (z_getRl (pc := 18) fl_RX9_54 rfl dX9_printer_18 (fun o8 => (z_iload_n (pc := 21) dX9_printer_21 rfl 1 rfl (z_iload_n (pc := 22) dX9_printer_22 rfl 2 rfl (z_iload_n (pc := 23) dX9_printer_23 rfl 3 rfl (?_))))))
      refine z_nn (fun a9 ea9 => ?_)
      subst ea9
      refine z_callV_V (pc := 24) (avs := [vi x1, vi x2, vi x3]) (st := []) rfl (q := (RX8, TX8, 7)) rfl rfl (t_X8_setPrinter F a9 x1 x2 x3 h6) ky_X8_setPrinter wm_X8_setPrinter we_X8_setPrinter wz_RX9_194 (rm_X9_printer_X8_setPrinter) (Nat.le_of_ble_eq_true rfl) dX9_printer_24 (fun h10 => (?_))
      refine z_iconst (pc := 27) dX9_printer_27 ic_1 (?_)
      exact z_iret (pc := 28) dX9_printer_28 rfl rfl
    · refine z_iconst (pc := 15) dX9_printer_15 ic_m1 (?_)
      exact z_iret (pc := 16) dX9_printer_16 rfl rfl
theorem dX9_sheet_0 : decode cX9_sheet 0 = .ok (.iload_n 1, 1) := by decide +kernel
theorem dX9_sheet_1 : decode cX9_sheet 1 = .ok (.ifCond .lt 16, 3) := by decide +kernel
theorem dX9_sheet_4 : decode cX9_sheet 4 = .ok (.iload_n 1, 1) := by decide +kernel
theorem dX9_sheet_5 : decode cX9_sheet 5 = .ok (.bipush 7, 2) := by decide +kernel
theorem dX9_sheet_7 : decode cX9_sheet 7 = .ok (.if_icmp .ge 10, 3) := by decide +kernel
theorem dX9_sheet_10 : decode cX9_sheet 10 = .ok (.iload_n 3, 1) := by decide +kernel
theorem dX9_sheet_11 : decode cX9_sheet 11 = .ok (.invokestatic 114, 3) := by decide +kernel
theorem dX9_sheet_14 : decode cX9_sheet 14 = .ok (.ifCond .ne 5, 3) := by decide +kernel
theorem dX9_sheet_17 : decode cX9_sheet 17 = .ok (.iconst (-1), 1) := by decide +kernel
theorem dX9_sheet_18 : decode cX9_sheet 18 = .ok (.ireturn, 1) := by decide +kernel
theorem dX9_sheet_19 : decode cX9_sheet 19 = .ok (.iload_n 2, 1) := by decide +kernel
theorem dX9_sheet_20 : decode cX9_sheet 20 = .ok (.bipush (-9), 2) := by decide +kernel
theorem dX9_sheet_22 : decode cX9_sheet 22 = .ok (.if_icmp .eq 12, 3) := by decide +kernel
theorem dX9_sheet_25 : decode cX9_sheet 25 = .ok (.iload_n 2, 1) := by decide +kernel
theorem dX9_sheet_26 : decode cX9_sheet 26 = .ok (.invokestatic 188, 3) := by decide +kernel
theorem dX9_sheet_29 : decode cX9_sheet 29 = .ok (.ifCond .ne 5, 3) := by decide +kernel
theorem dX9_sheet_32 : decode cX9_sheet 32 = .ok (.iconst (-1), 1) := by decide +kernel
theorem dX9_sheet_33 : decode cX9_sheet 33 = .ok (.ireturn, 1) := by decide +kernel
theorem dX9_sheet_34 : decode cX9_sheet 34 = .ok (.iload_n 1, 1) := by decide +kernel
theorem dX9_sheet_35 : decode cX9_sheet 35 = .ok (.iconst 2, 1) := by decide +kernel
theorem dX9_sheet_36 : decode cX9_sheet 36 = .ok (.if_icmp .ne 13, 3) := by decide +kernel
theorem dX9_sheet_39 : decode cX9_sheet 39 = .ok (.iload 4, 2) := by decide +kernel
theorem dX9_sheet_41 : decode cX9_sheet 41 = .ok (.invokestatic 86, 3) := by decide +kernel
theorem dX9_sheet_44 : decode cX9_sheet 44 = .ok (.ifCond .ne 5, 3) := by decide +kernel
theorem dX9_sheet_47 : decode cX9_sheet 47 = .ok (.iconst (-1), 1) := by decide +kernel
theorem dX9_sheet_48 : decode cX9_sheet 48 = .ok (.ireturn, 1) := by decide +kernel
theorem dX9_sheet_49 : decode cX9_sheet 49 = .ok (.aload_n 0, 1) := by decide +kernel
theorem dX9_sheet_50 : decode cX9_sheet 50 = .ok (.getfield 40, 3) := by decide +kernel
theorem dX9_sheet_53 : decode cX9_sheet 53 = .ok (.getfield 198, 3) := by decide +kernel
theorem dX9_sheet_56 : decode cX9_sheet 56 = .ok (.bipush 20, 2) := by decide +kernel
theorem dX9_sheet_58 : decode cX9_sheet 58 = .ok (.if_icmp .lt 6, 3) := by decide +kernel
theorem dX9_sheet_61 : decode cX9_sheet 61 = .ok (.bipush (-2), 2) := by decide +kernel
theorem dX9_sheet_63 : decode cX9_sheet 63 = .ok (.ireturn, 1) := by decide +kernel
theorem dX9_sheet_64 : decode cX9_sheet 64 = .ok (.getstatic 199, 3) := by decide +kernel
theorem dX9_sheet_67 : decode cX9_sheet 67 = .ok (.astore 5, 2) := by decide +kernel
theorem dX9_sheet_69 : decode cX9_sheet 69 = .ok (.iload_n 1, 1) := by decide +kernel
theorem dX9_sheet_70 : decode cX9_sheet 70 = .ok (.iconst 2, 1) := by decide +kernel
theorem dX9_sheet_71 : decode cX9_sheet 71 = .ok (.if_icmp .ne 33, 3) := by decide +kernel
theorem dX9_sheet_74 : decode cX9_sheet 74 = .ok (.aload_n 0, 1) := by decide +kernel
theorem dX9_sheet_75 : decode cX9_sheet 75 = .ok (.getfield 11, 3) := by decide +kernel
theorem dX9_sheet_78 : decode cX9_sheet 78 = .ok (.iload 4, 2) := by decide +kernel
theorem dX9_sheet_80 : decode cX9_sheet 80 = .ok (.aaload, 1) := by decide +kernel
theorem dX9_sheet_81 : decode cX9_sheet 81 = .ok (.astore 6, 2) := by decide +kernel
theorem dX9_sheet_83 : decode cX9_sheet 83 = .ok (.aload 6, 2) := by decide +kernel
theorem dX9_sheet_85 : decode cX9_sheet 85 = .ok (.ifnonnull 9, 3) := by decide +kernel
theorem dX9_sheet_88 : decode cX9_sheet 88 = .ok (.aload_n 0, 1) := by decide +kernel
theorem dX9_sheet_89 : decode cX9_sheet 89 = .ok (.iconst 1, 1) := by decide +kernel
theorem dX9_sheet_90 : decode cX9_sheet 90 = .ok (.invokevirtual 90, 3) := by decide +kernel
theorem dX9_sheet_93 : decode cX9_sheet 93 = .ok (.ireturn, 1) := by decide +kernel
theorem dX9_sheet_94 : decode cX9_sheet 94 = .ok (.aload 6, 2) := by decide +kernel
theorem dX9_sheet_96 : decode cX9_sheet 96 = .ok (.aload 6, 2) := by decide +kernel
theorem dX9_sheet_98 : decode cX9_sheet 98 = .ok (.arraylength, 1) := by decide +kernel
theorem dX9_sheet_99 : decode cX9_sheet 99 = .ok (.invokestatic 151, 3) := by decide +kernel
theorem dX9_sheet_102 : decode cX9_sheet 102 = .ok (.astore 5, 2) := by decide +kernel
theorem dX9_sheet_104 : decode cX9_sheet 104 = .ok (.aload_n 0, 1) := by decide +kernel
theorem dX9_sheet_105 : decode cX9_sheet 105 = .ok (.getfield 40, 3) := by decide +kernel
theorem dX9_sheet_108 : decode cX9_sheet 108 = .ok (.new 202, 3) := by decide +kernel
theorem dX9_sheet_111 : decode cX9_sheet 111 = .ok (.dup, 1) := by decide +kernel
theorem dX9_sheet_112 : decode cX9_sheet 112 = .ok (.iload_n 1, 1) := by decide +kernel
theorem dX9_sheet_113 : decode cX9_sheet 113 = .ok (.iload_n 2, 1) := by decide +kernel
theorem dX9_sheet_114 : decode cX9_sheet 114 = .ok (.iload_n 3, 1) := by decide +kernel
theorem dX9_sheet_115 : decode cX9_sheet 115 = .ok (.aload_n 0, 1) := by decide +kernel
theorem dX9_sheet_116 : decode cX9_sheet 116 = .ok (.getfield 111, 3) := by decide +kernel
theorem dX9_sheet_119 : decode cX9_sheet 119 = .ok (.aload 5, 2) := by decide +kernel
theorem dX9_sheet_121 : decode cX9_sheet 121 = .ok (.invokespecial 204, 3) := by decide +kernel
theorem dX9_sheet_124 : decode cX9_sheet 124 = .ok (.invokevirtual 207, 3) := by decide +kernel
theorem dX9_sheet_127 : decode cX9_sheet 127 = .ok (.ireturn, 1) := by decide +kernel
def c_X9_sheet (F : Nat) (a0 : Nat) (x1 : Int32) (x2 : Int32) (x3 : Int32) (x4 : Int32) (h0 : z_Hp) : Option (Int32 × z_Hp) := (if x1 < 0 then (some ((-1), h0)) else (if 7 ≤ x1 then (some ((-1), h0)) else (bI (c_X9_isSong F x3 h0) (fun x6 h5 => (if x6 = 0 then (some ((-1), h5)) else (lt_ (fun (h8 : z_Hp) => (lt_ (fun (h10 : z_Hp) => (if hT h10 a0 = 9 then (lt_ (hR h10 a0 6) (fun o11 => (nn o11 (fun a12 => (if hT h10 a12 = 6 then (if (hI h10 a12 1) < 20 then (lt_ (fun (o14 : Option Nat) (h15 : z_Hp) => (if hT h15 a0 = 9 then (lt_ (hR h15 a0 6) (fun o16 => (nwo h15 5 11 (fun a17 h18 => (if hT h18 a0 = 9 then (bV (c_X5_init F a17 x1 x2 x3 (hI h18 a0 4) o14 h18) (fun h19 => (nn o16 (fun a20 => (if hT h19 a20 = 6 then (bI (c_X6_add F a20 (some a17) h19) (fun x22 h21 => (some (x22, h21)))) else none))))) else none))))) else none)) (fun (j104_13 : Option Nat → z_Hp → Option (Int32 × z_Hp)) => (if x1 = 2 then (if hT h10 a0 = 9 then (lt_ (hR h10 a0 0) (fun o23 => (nn o23 (fun a24 => (if okA h10 a24 23 x4 = true then (lt_ (hR h10 a24 (ix x4)) (fun o25 => (nl o25 (if hT h10 a0 = 9 then (bI (c_X9_found F a0 1 h10) (fun x28 h27 => (some (x28, h27)))) else none) (fun a26 => (if okL h10 a26 = true then (bR (c_J7_copyOf_59c91 F (some a26) (nI (hN h10 a26)) h10) (fun o30 h29 => (j104_13 o30 h29))) else none))))) else none))))) else none) else (j104_13 (some 1) h10)))) else (some ((-2), h10))) else none))))) else none)) (fun (j49_9 : z_Hp → Option (Int32 × z_Hp)) => (if x1 = 2 then (bI (c_X9_isRow F x4 h8) (fun x32 h31 => (if x32 = 0 then (some ((-1), h31)) else (j49_9 h31)))) else (j49_9 h8))))) (fun (j34_7 : z_Hp → Option (Int32 × z_Hp)) => (if x2 = (-9) then (j34_7 h5) else (bI (c_X9_isPrinter F x2 h5) (fun x34 h33 => (if x34 = 0 then (some ((-1), h33)) else (j34_7 h33))))))))))))
set_option maxRecDepth 20000 in
set_option maxHeartbeats 4000000 in
theorem t_X9_sheet (F : Nat) (a0 : Nat) (x1 : Int32) (x2 : Int32) (x3 : Int32) (x4 : Int32) (h0 : z_Hp) : z_Ct zi mi_X9_sheet [vr (some a0), vi x1, vi x2, vi x3, vi x4] h0 (c_X9_sheet F a0 x1 x2 x3 x4 h0) := by
  refine z_entry (by decide) (Nat.le_of_ble_eq_true rfl) [(0, vr (some a0)), (1, vi x1), (2, vi x2), (3, vi x3), (4, vi x4)] rfl ?_
  unfold c_X9_sheet
  refine z_iload_n (pc := 0) dX9_sheet_0 rfl 1 rfl (?_)
  refine z_if_lt (pc := 1) (tgt := 17) dX9_sheet_1 (by decide) ?_ ?_
  · refine z_iconst (pc := 17) dX9_sheet_17 ic_m1 (?_)
    exact z_iret (pc := 18) dX9_sheet_18 rfl rfl
  · refine z_iload_n (pc := 4) dX9_sheet_4 rfl 1 rfl (z_bipush (pc := 5) dX9_sheet_5 bp_7 (?_))
    refine z_icmp_ge (pc := 7) (tgt := 17) dX9_sheet_7 (by decide) ?_ ?_
    · refine z_iconst (pc := 17) dX9_sheet_17 ic_m1 (?_)
      exact z_iret (pc := 18) dX9_sheet_18 rfl rfl
    · refine z_iload_n (pc := 10) dX9_sheet_10 rfl 3 rfl (z_callS_I (pc := 11) (avs := [vi x3]) (st := []) rfl (t_X9_isSong F x3 h0) ky_X9_isSong ws_X9_isSong wz_RX9_114 (rm_X9_sheet_X9_isSong) (Nat.le_of_ble_eq_true rfl) dX9_sheet_11 (fun x6 h5 => (?_)))
      refine z_if_ne (pc := 14) (tgt := 19) dX9_sheet_14 (by decide) ?_ ?_
      · refine z_iload_n (pc := 19) dX9_sheet_19 rfl 2 rfl (z_bipush (pc := 20) dX9_sheet_20 bp_m9 (?_))
        refine z_jn (P := fun (j : z_Hp → Option (Int32 × z_Hp)) => ∀ (h8 : z_Hp), z_G zi mi_X9_sheet 34 [(0, vr (some a0)), (1, vi x1), (2, vi x2), (3, vi x3), (4, vi x4)] [] h8 (j h8)) (fun h8 => ?_) (fun j34_7 qj34_7 => ?_)
        · refine z_iload_n (pc := 34) dX9_sheet_34 rfl 1 rfl (z_iconst (pc := 35) dX9_sheet_35 ic_2 (?_))
          refine z_jn (P := fun (j : z_Hp → Option (Int32 × z_Hp)) => ∀ (h10 : z_Hp), z_G zi mi_X9_sheet 49 [(0, vr (some a0)), (1, vi x1), (2, vi x2), (3, vi x3), (4, vi x4)] [] h10 (j h10)) (fun h10 => ?_) (fun j49_9 qj49_9 => ?_)
          · refine z_aload_n (pc := 49) dX9_sheet_49 rfl 0 rfl (z_getRl (pc := 50) fl_RX9_40 rfl dX9_sheet_50 (fun o11 => (?_)))
            refine z_nn (fun a12 ea12 => ?_)
            subst ea12
            refine z_getI (pc := 53) fl_RX9_198 rfl dX9_sheet_53 (z_bipush (pc := 56) dX9_sheet_56 bp_20 (?_))
            refine z_icmp_lt (pc := 58) (tgt := 64) dX9_sheet_58 (by decide) ?_ ?_
            · refine z_gets (pc := 64) (k := 1) (by decide) wf_RX9_199 dX9_sheet_64 (z_astore (pc := 67) (L' := [(0, vr (some a0)), (1, vi x1), (2, vi x2), (3, vi x3), (4, vi x4), (5, vr (some 1))]) dX9_sheet_67 (Nat.le_of_ble_eq_true rfl) rfl (z_iload_n (pc := 69) dX9_sheet_69 rfl 1 rfl (z_iconst (pc := 70) dX9_sheet_70 ic_2 (?_))))
              refine z_jn (P := fun (j : Option Nat → z_Hp → Option (Int32 × z_Hp)) => ∀ (o14 : Option Nat) (h15 : z_Hp), z_G zi mi_X9_sheet 104 [(0, vr (some a0)), (1, vi x1), (2, vi x2), (3, vi x3), (5, vr o14)] [] h15 (j o14 h15)) (fun o14 h15 => ?_) (fun j104_13 qj104_13 => ?_)
              · refine z_aload_n (pc := 104) dX9_sheet_104 rfl 0 rfl (z_getRl (pc := 105) fl_RX9_40 rfl dX9_sheet_105 (fun o16 => (z_newl (pc := 108) (q := (RX5, TX5, 11)) cn_RX9_202 dX9_sheet_108 (fun a17 h18 => (z_dup (pc := 111) dX9_sheet_111 rfl (z_iload_n (pc := 112) dX9_sheet_112 rfl 1 rfl (z_iload_n (pc := 113) dX9_sheet_113 rfl 2 rfl (z_iload_n (pc := 114) dX9_sheet_114 rfl 3 rfl (z_aload_n (pc := 115) dX9_sheet_115 rfl 0 rfl (?_))))))))))
                refine z_getI (pc := 116) fl_RX9_111 rfl dX9_sheet_116 (z_aload (pc := 119) dX9_sheet_119 4 rfl (z_callI_V (pc := 121) (avs := [vi x1, vi x2, vi x3, vi (hI h18 a0 4), vr o14]) (st := [vr (some a17), vr o16]) rfl (t_X5_init F a17 x1 x2 x3 (hI h18 a0 4) o14 h18) ky_X5_init rfl rfl wm_X5_init wz_RX9_204 (rm_X9_sheet_X5_init) (Nat.le_of_ble_eq_true rfl) dX9_sheet_121 (fun h19 => (?_))))
                refine z_nn (fun a20 ea20 => ?_)
                subst ea20
                refine z_callV_I (pc := 124) (avs := [vr (some a17)]) (st := []) rfl (q := (RX6, TX6, 2)) rfl rfl (t_X6_add F a20 (some a17) h19) ky_X6_add wm_X6_add we_X6_add wz_RX9_207 (rm_X9_sheet_X6_add) (Nat.le_of_ble_eq_true rfl) dX9_sheet_124 (fun x22 h21 => (?_))
                exact z_iret (pc := 127) dX9_sheet_127 rfl rfl
              refine z_icmp_ne (pc := 71) (tgt := 104) dX9_sheet_71 (by decide) ?_ ?_
              · exact z_sub [0, 1, 2, 3, 5] rfl (qj104_13 (some 1) h10)
              · refine z_aload_n (pc := 74) dX9_sheet_74 rfl 0 rfl (z_getRl (pc := 75) fl_RX9_11 rfl dX9_sheet_75 (fun o23 => (z_iload (pc := 78) dX9_sheet_78 4 rfl (?_))))
                refine z_nn (fun a24 ea24 => ?_)
                subst ea24
                refine z_aaloadl (pc := 80) 23 (by decide) dX9_sheet_80 (fun o25 => (z_astore (pc := 81) (L' := [(0, vr (some a0)), (1, vi x1), (2, vi x2), (3, vi x3), (4, vi x4), (5, vr (some 1)), (6, vr o25)]) dX9_sheet_81 (Nat.le_of_ble_eq_true rfl) rfl (z_aload (pc := 83) dX9_sheet_83 6 rfl (?_))))
                refine z_ifnonnull (pc := 85) (tgt := 94) dX9_sheet_85 (by decide) (fun ea26 => ?_) (fun a26 ea26 => ?_)
                · subst ea26
                  refine z_aload_n (pc := 88) dX9_sheet_88 rfl 0 rfl (z_iconst (pc := 89) dX9_sheet_89 ic_1 (z_callV_I (pc := 90) (avs := [vi 1]) (st := []) rfl (q := (RX9, TX9, 18)) rfl rfl (t_X9_found F a0 1 h10) ky_X9_found wm_X9_found we_X9_found wz_RX9_90 (rm_X9_sheet_X9_found) (Nat.le_of_ble_eq_true rfl) dX9_sheet_90 (fun x28 h27 => (?_))))
                  exact z_iret (pc := 93) dX9_sheet_93 rfl rfl
                · subst ea26
                  refine z_aload (pc := 94) dX9_sheet_94 6 rfl (z_aload (pc := 96) dX9_sheet_96 6 rfl (z_alen (pc := 98) dX9_sheet_98 (z_callS_R (pc := 99) (avs := [vr (some a26), vi (nI (hN h10 a26))]) (st := []) rfl (t_J7_copyOf_59c91 F (some a26) (nI (hN h10 a26)) h10) ky_J7_copyOf_59c91 ws_J7_copyOf_59c91 wz_RX9_151 (rm_X9_sheet_J7_copyOf_59c91) (Nat.le_of_ble_eq_true rfl) dX9_sheet_99 (fun o30 h29 => (?_)))))
                  refine z_astore (pc := 102) (L' := [(0, vr (some a0)), (1, vi x1), (2, vi x2), (3, vi x3), (4, vi x4), (5, vr o30), (6, vr (some a26))]) dX9_sheet_102 (Nat.le_of_ble_eq_true rfl) rfl (?_)
                  exact z_sub [0, 1, 2, 3, 5] rfl (qj104_13 o30 h29)
            · refine z_bipush (pc := 61) dX9_sheet_61 bp_m2 (?_)
              exact z_iret (pc := 63) dX9_sheet_63 rfl rfl
          refine z_icmp_ne (pc := 36) (tgt := 49) dX9_sheet_36 (by decide) ?_ ?_
          · exact qj49_9 h8
          · refine z_iload (pc := 39) dX9_sheet_39 4 rfl (z_callS_I (pc := 41) (avs := [vi x4]) (st := []) rfl (t_X9_isRow F x4 h8) ky_X9_isRow ws_X9_isRow wz_RX9_86 (rm_X9_sheet_X9_isRow) (Nat.le_of_ble_eq_true rfl) dX9_sheet_41 (fun x32 h31 => (?_)))
            refine z_if_ne (pc := 44) (tgt := 49) dX9_sheet_44 (by decide) ?_ ?_
            · exact qj49_9 h31
            · refine z_iconst (pc := 47) dX9_sheet_47 ic_m1 (?_)
              exact z_iret (pc := 48) dX9_sheet_48 rfl rfl
        refine z_icmp_eq (pc := 22) (tgt := 34) dX9_sheet_22 (by decide) ?_ ?_
        · exact qj34_7 h5
        · refine z_iload_n (pc := 25) dX9_sheet_25 rfl 2 rfl (z_callS_I (pc := 26) (avs := [vi x2]) (st := []) rfl (t_X9_isPrinter F x2 h5) ky_X9_isPrinter ws_X9_isPrinter wz_RX9_188 (rm_X9_sheet_X9_isPrinter) (Nat.le_of_ble_eq_true rfl) dX9_sheet_26 (fun x34 h33 => (?_)))
          refine z_if_ne (pc := 29) (tgt := 34) dX9_sheet_29 (by decide) ?_ ?_
          · exact qj34_7 h33
          · refine z_iconst (pc := 32) dX9_sheet_32 ic_m1 (?_)
            exact z_iret (pc := 33) dX9_sheet_33 rfl rfl
      · refine z_iconst (pc := 17) dX9_sheet_17 ic_m1 (?_)
        exact z_iret (pc := 18) dX9_sheet_18 rfl rfl
theorem dX9_isSheet_0 : decode cX9_isSheet 0 = .ok (.iload_n 1, 1) := by decide +kernel
theorem dX9_isSheet_1 : decode cX9_isSheet 1 = .ok (.ifCond .lt 18, 3) := by decide +kernel
theorem dX9_isSheet_4 : decode cX9_isSheet 4 = .ok (.iload_n 1, 1) := by decide +kernel
theorem dX9_isSheet_5 : decode cX9_isSheet 5 = .ok (.aload_n 0, 1) := by decide +kernel
theorem dX9_isSheet_6 : decode cX9_isSheet 6 = .ok (.getfield 40, 3) := by decide +kernel
theorem dX9_isSheet_9 : decode cX9_isSheet 9 = .ok (.getfield 198, 3) := by decide +kernel
theorem dX9_isSheet_12 : decode cX9_isSheet 12 = .ok (.if_icmp .ge 7, 3) := by decide +kernel
theorem dX9_isSheet_15 : decode cX9_isSheet 15 = .ok (.iconst 1, 1) := by decide +kernel
theorem dX9_isSheet_16 : decode cX9_isSheet 16 = .ok (.goto 4, 3) := by decide +kernel
theorem dX9_isSheet_19 : decode cX9_isSheet 19 = .ok (.iconst 0, 1) := by decide +kernel
theorem dX9_isSheet_20 : decode cX9_isSheet 20 = .ok (.ireturn, 1) := by decide +kernel
def c_X9_isSheet (F : Nat) (a0 : Nat) (x1 : Int32) (h0 : z_Hp) : Option (Int32 × z_Hp) := (if x1 < 0 then (some (0, h0)) else (if hT h0 a0 = 9 then (lt_ (hR h0 a0 6) (fun o2 => (nn o2 (fun a3 => (if hT h0 a3 = 6 then (if (hI h0 a3 1) ≤ x1 then (some (0, h0)) else (some (1, h0))) else none))))) else none))
set_option maxRecDepth 20000 in
set_option maxHeartbeats 4000000 in
theorem t_X9_isSheet (F : Nat) (a0 : Nat) (x1 : Int32) (h0 : z_Hp) : z_Ct zi mi_X9_isSheet [vr (some a0), vi x1] h0 (c_X9_isSheet F a0 x1 h0) := by
  refine z_entry (by decide) (Nat.le_of_ble_eq_true rfl) [(0, vr (some a0)), (1, vi x1)] rfl ?_
  unfold c_X9_isSheet
  refine z_iload_n (pc := 0) dX9_isSheet_0 rfl 1 rfl (?_)
  refine z_if_lt (pc := 1) (tgt := 19) dX9_isSheet_1 (by decide) ?_ ?_
  · refine z_iconst (pc := 19) dX9_isSheet_19 ic_0 (?_)
    exact z_iret (pc := 20) dX9_isSheet_20 rfl rfl
  · refine z_iload_n (pc := 4) dX9_isSheet_4 rfl 1 rfl (z_aload_n (pc := 5) dX9_isSheet_5 rfl 0 rfl (z_getRl (pc := 6) fl_RX9_40 rfl dX9_isSheet_6 (fun o2 => (?_))))
    refine z_nn (fun a3 ea3 => ?_)
    subst ea3
    refine z_getI (pc := 9) fl_RX9_198 rfl dX9_isSheet_9 (?_)
    refine z_icmp_ge (pc := 12) (tgt := 19) dX9_isSheet_12 (by decide) ?_ ?_
    · refine z_iconst (pc := 19) dX9_isSheet_19 ic_0 (?_)
      exact z_iret (pc := 20) dX9_isSheet_20 rfl rfl
    · refine z_iconst (pc := 15) dX9_isSheet_15 ic_1 (z_goto (pc := 16) (tgt := 20) dX9_isSheet_16 (by decide) (?_))
      exact z_iret (pc := 20) dX9_isSheet_20 rfl rfl
theorem dX9_isBits_0 : decode cX9_isBits 0 = .ok (.iload_n 0, 1) := by decide +kernel
theorem dX9_isBits_1 : decode cX9_isBits 1 = .ok (.ifCond .lt 14, 3) := by decide +kernel
theorem dX9_isBits_4 : decode cX9_isBits 4 = .ok (.iload_n 0, 1) := by decide +kernel
theorem dX9_isBits_5 : decode cX9_isBits 5 = .ok (.iconst 1, 1) := by decide +kernel
theorem dX9_isBits_6 : decode cX9_isBits 6 = .ok (.iload_n 1, 1) := by decide +kernel
theorem dX9_isBits_7 : decode cX9_isBits 7 = .ok (.ishl, 1) := by decide +kernel
theorem dX9_isBits_8 : decode cX9_isBits 8 = .ok (.if_icmp .ge 7, 3) := by decide +kernel
theorem dX9_isBits_11 : decode cX9_isBits 11 = .ok (.iconst 1, 1) := by decide +kernel
theorem dX9_isBits_12 : decode cX9_isBits 12 = .ok (.goto 4, 3) := by decide +kernel
theorem dX9_isBits_15 : decode cX9_isBits 15 = .ok (.iconst 0, 1) := by decide +kernel
theorem dX9_isBits_16 : decode cX9_isBits 16 = .ok (.ireturn, 1) := by decide +kernel
def c_X9_isBits (F : Nat) (x1 : Int32) (x2 : Int32) (h0 : z_Hp) : Option (Int32 × z_Hp) := (if x1 < 0 then (some (0, h0)) else (if (1 <<< (x2 &&& 31)) ≤ x1 then (some (0, h0)) else (some (1, h0))))
set_option maxRecDepth 20000 in
set_option maxHeartbeats 4000000 in
theorem t_X9_isBits (F : Nat) (x1 : Int32) (x2 : Int32) (h0 : z_Hp) : z_Ct zi mi_X9_isBits [vi x1, vi x2] h0 (c_X9_isBits F x1 x2 h0) := by
  refine z_entry (by decide) (Nat.le_of_ble_eq_true rfl) [(0, vi x1), (1, vi x2)] rfl ?_
  unfold c_X9_isBits
  refine z_iload_n (pc := 0) dX9_isBits_0 rfl 0 rfl (?_)
  refine z_if_lt (pc := 1) (tgt := 15) dX9_isBits_1 (by decide) ?_ ?_
  · refine z_iconst (pc := 15) dX9_isBits_15 ic_0 (?_)
    exact z_iret (pc := 16) dX9_isBits_16 rfl rfl
  · refine z_iload_n (pc := 4) dX9_isBits_4 rfl 0 rfl (z_iconst (pc := 5) dX9_isBits_5 ic_1 (z_iload_n (pc := 6) dX9_isBits_6 rfl 1 rfl (z_ishl (pc := 7) dX9_isBits_7 (?_))))
    refine z_icmp_ge (pc := 8) (tgt := 15) dX9_isBits_8 (by decide) ?_ ?_
    · refine z_iconst (pc := 15) dX9_isBits_15 ic_0 (?_)
      exact z_iret (pc := 16) dX9_isBits_16 rfl rfl
    · refine z_iconst (pc := 11) dX9_isBits_11 ic_1 (z_goto (pc := 12) (tgt := 16) dX9_isBits_12 (by decide) (?_))
      exact z_iret (pc := 16) dX9_isBits_16 rfl rfl
theorem dX9_isBlock_0 : decode cX9_isBlock 0 = .ok (.iload_n 0, 1) := by decide +kernel
theorem dX9_isBlock_1 : decode cX9_isBlock 1 = .ok (.ifCond .lt 13, 3) := by decide +kernel
theorem dX9_isBlock_4 : decode cX9_isBlock 4 = .ok (.iload_n 0, 1) := by decide +kernel
theorem dX9_isBlock_5 : decode cX9_isBlock 5 = .ok (.bipush 6, 2) := by decide +kernel
theorem dX9_isBlock_7 : decode cX9_isBlock 7 = .ok (.if_icmp .ge 7, 3) := by decide +kernel
theorem dX9_isBlock_10 : decode cX9_isBlock 10 = .ok (.iconst 1, 1) := by decide +kernel
theorem dX9_isBlock_11 : decode cX9_isBlock 11 = .ok (.goto 4, 3) := by decide +kernel
theorem dX9_isBlock_14 : decode cX9_isBlock 14 = .ok (.iconst 0, 1) := by decide +kernel
theorem dX9_isBlock_15 : decode cX9_isBlock 15 = .ok (.ireturn, 1) := by decide +kernel
def c_X9_isBlock (F : Nat) (x1 : Int32) (h0 : z_Hp) : Option (Int32 × z_Hp) := (if x1 < 0 then (some (0, h0)) else (if 6 ≤ x1 then (some (0, h0)) else (some (1, h0))))
set_option maxRecDepth 20000 in
set_option maxHeartbeats 4000000 in
theorem t_X9_isBlock (F : Nat) (x1 : Int32) (h0 : z_Hp) : z_Ct zi mi_X9_isBlock [vi x1] h0 (c_X9_isBlock F x1 h0) := by
  refine z_entry (by decide) (Nat.le_of_ble_eq_true rfl) [(0, vi x1)] rfl ?_
  unfold c_X9_isBlock
  refine z_iload_n (pc := 0) dX9_isBlock_0 rfl 0 rfl (?_)
  refine z_if_lt (pc := 1) (tgt := 14) dX9_isBlock_1 (by decide) ?_ ?_
  · refine z_iconst (pc := 14) dX9_isBlock_14 ic_0 (?_)
    exact z_iret (pc := 15) dX9_isBlock_15 rfl rfl
  · refine z_iload_n (pc := 4) dX9_isBlock_4 rfl 0 rfl (z_bipush (pc := 5) dX9_isBlock_5 bp_6 (?_))
    refine z_icmp_ge (pc := 7) (tgt := 14) dX9_isBlock_7 (by decide) ?_ ?_
    · refine z_iconst (pc := 14) dX9_isBlock_14 ic_0 (?_)
      exact z_iret (pc := 15) dX9_isBlock_15 rfl rfl
    · refine z_iconst (pc := 10) dX9_isBlock_10 ic_1 (z_goto (pc := 11) (tgt := 15) dX9_isBlock_11 (by decide) (?_))
      exact z_iret (pc := 15) dX9_isBlock_15 rfl rfl
theorem dX9_block_0 : decode cX9_block 0 = .ok (.aload_n 0, 1) := by decide +kernel
theorem dX9_block_1 : decode cX9_block 1 = .ok (.iload_n 1, 1) := by decide +kernel
theorem dX9_block_2 : decode cX9_block 2 = .ok (.invokevirtual 210, 3) := by decide +kernel
theorem dX9_block_5 : decode cX9_block 5 = .ok (.ifCond .eq 12, 3) := by decide +kernel
theorem dX9_block_8 : decode cX9_block 8 = .ok (.iload_n 3, 1) := by decide +kernel
theorem dX9_block_9 : decode cX9_block 9 = .ok (.bipush 12, 2) := by decide +kernel
theorem dX9_block_11 : decode cX9_block 11 = .ok (.invokestatic 213, 3) := by decide +kernel
theorem dX9_block_14 : decode cX9_block 14 = .ok (.ifCond .ne 5, 3) := by decide +kernel
theorem dX9_block_17 : decode cX9_block 17 = .ok (.iconst (-1), 1) := by decide +kernel
theorem dX9_block_18 : decode cX9_block 18 = .ok (.ireturn, 1) := by decide +kernel
theorem dX9_block_19 : decode cX9_block 19 = .ok (.iload_n 2, 1) := by decide +kernel
theorem dX9_block_20 : decode cX9_block 20 = .ok (.bipush (-9), 2) := by decide +kernel
theorem dX9_block_22 : decode cX9_block 22 = .ok (.if_icmp .eq 12, 3) := by decide +kernel
theorem dX9_block_25 : decode cX9_block 25 = .ok (.iload_n 2, 1) := by decide +kernel
theorem dX9_block_26 : decode cX9_block 26 = .ok (.invokestatic 216, 3) := by decide +kernel
theorem dX9_block_29 : decode cX9_block 29 = .ok (.ifCond .ne 5, 3) := by decide +kernel
theorem dX9_block_32 : decode cX9_block 32 = .ok (.iconst (-1), 1) := by decide +kernel
theorem dX9_block_33 : decode cX9_block 33 = .ok (.ireturn, 1) := by decide +kernel
theorem dX9_block_34 : decode cX9_block 34 = .ok (.aload_n 0, 1) := by decide +kernel
theorem dX9_block_35 : decode cX9_block 35 = .ok (.getfield 40, 3) := by decide +kernel
theorem dX9_block_38 : decode cX9_block 38 = .ok (.getfield 219, 3) := by decide +kernel
theorem dX9_block_41 : decode cX9_block 41 = .ok (.iload_n 1, 1) := by decide +kernel
theorem dX9_block_42 : decode cX9_block 42 = .ok (.aaload, 1) := by decide +kernel
theorem dX9_block_43 : decode cX9_block 43 = .ok (.astore 4, 2) := by decide +kernel
theorem dX9_block_45 : decode cX9_block 45 = .ok (.aload 4, 2) := by decide +kernel
theorem dX9_block_47 : decode cX9_block 47 = .ok (.iload_n 2, 1) := by decide +kernel
theorem dX9_block_48 : decode cX9_block 48 = .ok (.putfield 223, 3) := by decide +kernel
theorem dX9_block_51 : decode cX9_block 51 = .ok (.aload 4, 2) := by decide +kernel
theorem dX9_block_53 : decode cX9_block 53 = .ok (.iload_n 3, 1) := by decide +kernel
theorem dX9_block_54 : decode cX9_block 54 = .ok (.putfield 226, 3) := by decide +kernel
theorem dX9_block_57 : decode cX9_block 57 = .ok (.iconst 1, 1) := by decide +kernel
theorem dX9_block_58 : decode cX9_block 58 = .ok (.ireturn, 1) := by decide +kernel
def c_X9_block (F : Nat) (a0 : Nat) (x1 : Int32) (x2 : Int32) (x3 : Int32) (h0 : z_Hp) : Option (Int32 × z_Hp) := (if hT h0 a0 = 9 then (bI (c_X9_isSheet F a0 x1 h0) (fun x5 h4 => (if x5 = 0 then (some ((-1), h4)) else (bI (c_X9_isBits F x3 12 h4) (fun x7 h6 => (if x7 = 0 then (some ((-1), h6)) else (lt_ (fun (h9 : z_Hp) => (if hT h9 a0 = 9 then (lt_ (hR h9 a0 6) (fun o10 => (nn o10 (fun a11 => (if hT h9 a11 = 6 then (lt_ (hR h9 a11 0) (fun o12 => (nn o12 (fun a13 => (if okA h9 a13 26 x1 = true then (lt_ (hR h9 a13 (ix x1)) (fun o14 => (nn o14 (fun a15 => (if hT h9 a15 = 5 then (lt_ (sI h9 a15 5 x2) (fun h16 => (if hT h16 a15 = 5 then (lt_ (sI h16 a15 6 x3) (fun h17 => (some (1, h17)))) else none))) else none))))) else none))))) else none))))) else none)) (fun (j34_8 : z_Hp → Option (Int32 × z_Hp)) => (if x2 = (-9) then (j34_8 h6) else (bI (c_X9_isBlock F x2 h6) (fun x19 h18 => (if x19 = 0 then (some ((-1), h18)) else (j34_8 h18))))))))))))) else none)
set_option maxRecDepth 20000 in
set_option maxHeartbeats 4000000 in
theorem t_X9_block (F : Nat) (a0 : Nat) (x1 : Int32) (x2 : Int32) (x3 : Int32) (h0 : z_Hp) : z_Ct zi mi_X9_block [vr (some a0), vi x1, vi x2, vi x3] h0 (c_X9_block F a0 x1 x2 x3 h0) := by
  refine z_entry (by decide) (Nat.le_of_ble_eq_true rfl) [(0, vr (some a0)), (1, vi x1), (2, vi x2), (3, vi x3)] rfl ?_
  unfold c_X9_block
  refine z_aload_n (pc := 0) dX9_block_0 rfl 0 rfl (z_iload_n (pc := 1) dX9_block_1 rfl 1 rfl (z_callV_I (pc := 2) (avs := [vi x1]) (st := []) rfl (q := (RX9, TX9, 18)) rfl rfl (t_X9_isSheet F a0 x1 h0) ky_X9_isSheet wm_X9_isSheet we_X9_isSheet wz_RX9_210 (rm_X9_block_X9_isSheet) (Nat.le_of_ble_eq_true rfl) dX9_block_2 (fun x5 h4 => (?_))))
  refine z_if_eq (pc := 5) (tgt := 17) dX9_block_5 (by decide) ?_ ?_
  · refine z_iconst (pc := 17) dX9_block_17 ic_m1 (?_)
    exact z_iret (pc := 18) dX9_block_18 rfl rfl
  · refine z_iload_n (pc := 8) dX9_block_8 rfl 3 rfl (z_bipush (pc := 9) dX9_block_9 bp_12 (z_callS_I (pc := 11) (avs := [vi x3, vi 12]) (st := []) rfl (t_X9_isBits F x3 12 h4) ky_X9_isBits ws_X9_isBits wz_RX9_213 (rm_X9_block_X9_isBits) (Nat.le_of_ble_eq_true rfl) dX9_block_11 (fun x7 h6 => (?_))))
    refine z_if_ne (pc := 14) (tgt := 19) dX9_block_14 (by decide) ?_ ?_
    · refine z_iload_n (pc := 19) dX9_block_19 rfl 2 rfl (z_bipush (pc := 20) dX9_block_20 bp_m9 (?_))
      refine z_jn (P := fun (j : z_Hp → Option (Int32 × z_Hp)) => ∀ (h9 : z_Hp), z_G zi mi_X9_block 34 [(0, vr (some a0)), (1, vi x1), (2, vi x2), (3, vi x3)] [] h9 (j h9)) (fun h9 => ?_) (fun j34_8 qj34_8 => ?_)
      · refine z_aload_n (pc := 34) dX9_block_34 rfl 0 rfl (z_getRl (pc := 35) fl_RX9_40 rfl dX9_block_35 (fun o10 => (?_)))
        refine z_nn (fun a11 ea11 => ?_)
        subst ea11
        refine z_getRl (pc := 38) fl_RX9_219 rfl dX9_block_38 (fun o12 => (z_iload_n (pc := 41) dX9_block_41 rfl 1 rfl (?_)))
        refine z_nn (fun a13 ea13 => ?_)
        subst ea13
        refine z_aaloadl (pc := 42) 26 (by decide) dX9_block_42 (fun o14 => (z_astore (pc := 43) (L' := [(0, vr (some a0)), (1, vi x1), (2, vi x2), (3, vi x3), (4, vr o14)]) dX9_block_43 (Nat.le_of_ble_eq_true rfl) rfl (z_aload (pc := 45) dX9_block_45 4 rfl (z_iload_n (pc := 47) dX9_block_47 rfl 2 rfl (?_)))))
        refine z_nn (fun a15 ea15 => ?_)
        subst ea15
        refine z_putIl (pc := 48) fl_RX9_223 (fin_X_5_5 _) rfl dX9_block_48 (fun h16 => (z_aload (pc := 51) dX9_block_51 4 rfl (z_iload_n (pc := 53) dX9_block_53 rfl 3 rfl (z_putIl (pc := 54) fl_RX9_226 (fin_X_5_6 _) rfl dX9_block_54 (fun h17 => (z_iconst (pc := 57) dX9_block_57 ic_1 (?_)))))))
        exact z_iret (pc := 58) dX9_block_58 rfl rfl
      refine z_icmp_eq (pc := 22) (tgt := 34) dX9_block_22 (by decide) ?_ ?_
      · exact qj34_8 h6
      · refine z_iload_n (pc := 25) dX9_block_25 rfl 2 rfl (z_callS_I (pc := 26) (avs := [vi x2]) (st := []) rfl (t_X9_isBlock F x2 h6) ky_X9_isBlock ws_X9_isBlock wz_RX9_216 (rm_X9_block_X9_isBlock) (Nat.le_of_ble_eq_true rfl) dX9_block_26 (fun x19 h18 => (?_)))
        refine z_if_ne (pc := 29) (tgt := 34) dX9_block_29 (by decide) ?_ ?_
        · exact qj34_8 h18
        · refine z_iconst (pc := 32) dX9_block_32 ic_m1 (?_)
          exact z_iret (pc := 33) dX9_block_33 rfl rfl
    · refine z_iconst (pc := 17) dX9_block_17 ic_m1 (?_)
      exact z_iret (pc := 18) dX9_block_18 rfl rfl
theorem dX9_type_0 : decode cX9_type 0 = .ok (.aload_n 0, 1) := by decide +kernel
theorem dX9_type_1 : decode cX9_type 1 = .ok (.iload_n 1, 1) := by decide +kernel
theorem dX9_type_2 : decode cX9_type 2 = .ok (.invokevirtual 210, 3) := by decide +kernel
theorem dX9_type_5 : decode cX9_type 5 = .ok (.ifCond .eq 21, 3) := by decide +kernel
theorem dX9_type_8 : decode cX9_type 8 = .ok (.iload_n 2, 1) := by decide +kernel
theorem dX9_type_9 : decode cX9_type 9 = .ok (.bipush 16, 2) := by decide +kernel
theorem dX9_type_11 : decode cX9_type 11 = .ok (.invokestatic 213, 3) := by decide +kernel
theorem dX9_type_14 : decode cX9_type 14 = .ok (.ifCond .eq 12, 3) := by decide +kernel
theorem dX9_type_17 : decode cX9_type 17 = .ok (.iload_n 3, 1) := by decide +kernel
theorem dX9_type_18 : decode cX9_type 18 = .ok (.bipush 16, 2) := by decide +kernel
theorem dX9_type_20 : decode cX9_type 20 = .ok (.invokestatic 213, 3) := by decide +kernel
theorem dX9_type_23 : decode cX9_type 23 = .ok (.ifCond .ne 5, 3) := by decide +kernel
theorem dX9_type_26 : decode cX9_type 26 = .ok (.iconst (-1), 1) := by decide +kernel
theorem dX9_type_27 : decode cX9_type 27 = .ok (.ireturn, 1) := by decide +kernel
theorem dX9_type_28 : decode cX9_type 28 = .ok (.aload_n 0, 1) := by decide +kernel
theorem dX9_type_29 : decode cX9_type 29 = .ok (.getfield 40, 3) := by decide +kernel
theorem dX9_type_32 : decode cX9_type 32 = .ok (.getfield 219, 3) := by decide +kernel
theorem dX9_type_35 : decode cX9_type 35 = .ok (.iload_n 1, 1) := by decide +kernel
theorem dX9_type_36 : decode cX9_type 36 = .ok (.aaload, 1) := by decide +kernel
theorem dX9_type_37 : decode cX9_type 37 = .ok (.astore 4, 2) := by decide +kernel
theorem dX9_type_39 : decode cX9_type 39 = .ok (.aload 4, 2) := by decide +kernel
theorem dX9_type_41 : decode cX9_type 41 = .ok (.iload_n 2, 1) := by decide +kernel
theorem dX9_type_42 : decode cX9_type 42 = .ok (.putfield 229, 3) := by decide +kernel
theorem dX9_type_45 : decode cX9_type 45 = .ok (.aload 4, 2) := by decide +kernel
theorem dX9_type_47 : decode cX9_type 47 = .ok (.iload_n 3, 1) := by decide +kernel
theorem dX9_type_48 : decode cX9_type 48 = .ok (.putfield 232, 3) := by decide +kernel
theorem dX9_type_51 : decode cX9_type 51 = .ok (.iconst 1, 1) := by decide +kernel
theorem dX9_type_52 : decode cX9_type 52 = .ok (.ireturn, 1) := by decide +kernel
def c_X9_type (F : Nat) (a0 : Nat) (x1 : Int32) (x2 : Int32) (x3 : Int32) (h0 : z_Hp) : Option (Int32 × z_Hp) := (if hT h0 a0 = 9 then (bI (c_X9_isSheet F a0 x1 h0) (fun x5 h4 => (if x5 = 0 then (some ((-1), h4)) else (bI (c_X9_isBits F x2 16 h4) (fun x7 h6 => (if x7 = 0 then (some ((-1), h6)) else (bI (c_X9_isBits F x3 16 h6) (fun x9 h8 => (if x9 = 0 then (some ((-1), h8)) else (if hT h8 a0 = 9 then (lt_ (hR h8 a0 6) (fun o10 => (nn o10 (fun a11 => (if hT h8 a11 = 6 then (lt_ (hR h8 a11 0) (fun o12 => (nn o12 (fun a13 => (if okA h8 a13 26 x1 = true then (lt_ (hR h8 a13 (ix x1)) (fun o14 => (nn o14 (fun a15 => (if hT h8 a15 = 5 then (lt_ (sI h8 a15 7 x2) (fun h16 => (if hT h16 a15 = 5 then (lt_ (sI h16 a15 8 x3) (fun h17 => (some (1, h17)))) else none))) else none))))) else none))))) else none))))) else none)))))))))) else none)
set_option maxRecDepth 20000 in
set_option maxHeartbeats 4000000 in
theorem t_X9_type (F : Nat) (a0 : Nat) (x1 : Int32) (x2 : Int32) (x3 : Int32) (h0 : z_Hp) : z_Ct zi mi_X9_type [vr (some a0), vi x1, vi x2, vi x3] h0 (c_X9_type F a0 x1 x2 x3 h0) := by
  refine z_entry (by decide) (Nat.le_of_ble_eq_true rfl) [(0, vr (some a0)), (1, vi x1), (2, vi x2), (3, vi x3)] rfl ?_
  unfold c_X9_type
  refine z_aload_n (pc := 0) dX9_type_0 rfl 0 rfl (z_iload_n (pc := 1) dX9_type_1 rfl 1 rfl (z_callV_I (pc := 2) (avs := [vi x1]) (st := []) rfl (q := (RX9, TX9, 18)) rfl rfl (t_X9_isSheet F a0 x1 h0) ky_X9_isSheet wm_X9_isSheet we_X9_isSheet wz_RX9_210 (rm_X9_type_X9_isSheet) (Nat.le_of_ble_eq_true rfl) dX9_type_2 (fun x5 h4 => (?_))))
  refine z_if_eq (pc := 5) (tgt := 26) dX9_type_5 (by decide) ?_ ?_
  · refine z_iconst (pc := 26) dX9_type_26 ic_m1 (?_)
    exact z_iret (pc := 27) dX9_type_27 rfl rfl
  · refine z_iload_n (pc := 8) dX9_type_8 rfl 2 rfl (z_bipush (pc := 9) dX9_type_9 bp_16 (z_callS_I (pc := 11) (avs := [vi x2, vi 16]) (st := []) rfl (t_X9_isBits F x2 16 h4) ky_X9_isBits ws_X9_isBits wz_RX9_213 (rm_X9_type_X9_isBits) (Nat.le_of_ble_eq_true rfl) dX9_type_11 (fun x7 h6 => (?_))))
    refine z_if_eq (pc := 14) (tgt := 26) dX9_type_14 (by decide) ?_ ?_
    · refine z_iconst (pc := 26) dX9_type_26 ic_m1 (?_)
      exact z_iret (pc := 27) dX9_type_27 rfl rfl
    · refine z_iload_n (pc := 17) dX9_type_17 rfl 3 rfl (z_bipush (pc := 18) dX9_type_18 bp_16 (z_callS_I (pc := 20) (avs := [vi x3, vi 16]) (st := []) rfl (t_X9_isBits F x3 16 h6) ky_X9_isBits ws_X9_isBits wz_RX9_213 (rm_X9_type_X9_isBits) (Nat.le_of_ble_eq_true rfl) dX9_type_20 (fun x9 h8 => (?_))))
      refine z_if_ne (pc := 23) (tgt := 28) dX9_type_23 (by decide) ?_ ?_
      · refine z_aload_n (pc := 28) dX9_type_28 rfl 0 rfl (z_getRl (pc := 29) fl_RX9_40 rfl dX9_type_29 (fun o10 => (?_)))
        refine z_nn (fun a11 ea11 => ?_)
        subst ea11
        refine z_getRl (pc := 32) fl_RX9_219 rfl dX9_type_32 (fun o12 => (z_iload_n (pc := 35) dX9_type_35 rfl 1 rfl (?_)))
        refine z_nn (fun a13 ea13 => ?_)
        subst ea13
        refine z_aaloadl (pc := 36) 26 (by decide) dX9_type_36 (fun o14 => (z_astore (pc := 37) (L' := [(0, vr (some a0)), (1, vi x1), (2, vi x2), (3, vi x3), (4, vr o14)]) dX9_type_37 (Nat.le_of_ble_eq_true rfl) rfl (z_aload (pc := 39) dX9_type_39 4 rfl (z_iload_n (pc := 41) dX9_type_41 rfl 2 rfl (?_)))))
        refine z_nn (fun a15 ea15 => ?_)
        subst ea15
        refine z_putIl (pc := 42) fl_RX9_229 (fin_X_5_7 _) rfl dX9_type_42 (fun h16 => (z_aload (pc := 45) dX9_type_45 4 rfl (z_iload_n (pc := 47) dX9_type_47 rfl 3 rfl (z_putIl (pc := 48) fl_RX9_232 (fin_X_5_8 _) rfl dX9_type_48 (fun h17 => (z_iconst (pc := 51) dX9_type_51 ic_1 (?_)))))))
        exact z_iret (pc := 52) dX9_type_52 rfl rfl
      · refine z_iconst (pc := 26) dX9_type_26 ic_m1 (?_)
        exact z_iret (pc := 27) dX9_type_27 rfl rfl
theorem dX9_span_0 : decode cX9_span 0 = .ok (.aload_n 0, 1) := by decide +kernel
theorem dX9_span_1 : decode cX9_span 1 = .ok (.iload_n 1, 1) := by decide +kernel
theorem dX9_span_2 : decode cX9_span 2 = .ok (.invokevirtual 210, 3) := by decide +kernel
theorem dX9_span_5 : decode cX9_span 5 = .ok (.ifCond .ne 5, 3) := by decide +kernel
theorem dX9_span_8 : decode cX9_span 8 = .ok (.iconst (-1), 1) := by decide +kernel
theorem dX9_span_9 : decode cX9_span 9 = .ok (.ireturn, 1) := by decide +kernel
theorem dX9_span_10 : decode cX9_span 10 = .ok (.iload_n 2, 1) := by decide +kernel
theorem dX9_span_11 : decode cX9_span 11 = .ok (.bipush (-9), 2) := by decide +kernel
theorem dX9_span_13 : decode cX9_span 13 = .ok (.if_icmp .eq 13, 3) := by decide +kernel
theorem dX9_span_16 : decode cX9_span 16 = .ok (.iload_n 2, 1) := by decide +kernel
theorem dX9_span_17 : decode cX9_span 17 = .ok (.iload_n 3, 1) := by decide +kernel
theorem dX9_span_18 : decode cX9_span 18 = .ok (.invokestatic 191, 3) := by decide +kernel
theorem dX9_span_21 : decode cX9_span 21 = .ok (.ifCond .ne 5, 3) := by decide +kernel
theorem dX9_span_24 : decode cX9_span 24 = .ok (.iconst (-1), 1) := by decide +kernel
theorem dX9_span_25 : decode cX9_span 25 = .ok (.ireturn, 1) := by decide +kernel
theorem dX9_span_26 : decode cX9_span 26 = .ok (.aload_n 0, 1) := by decide +kernel
theorem dX9_span_27 : decode cX9_span 27 = .ok (.getfield 40, 3) := by decide +kernel
theorem dX9_span_30 : decode cX9_span 30 = .ok (.getfield 219, 3) := by decide +kernel
theorem dX9_span_33 : decode cX9_span 33 = .ok (.iload_n 1, 1) := by decide +kernel
theorem dX9_span_34 : decode cX9_span 34 = .ok (.aaload, 1) := by decide +kernel
theorem dX9_span_35 : decode cX9_span 35 = .ok (.astore 4, 2) := by decide +kernel
theorem dX9_span_37 : decode cX9_span 37 = .ok (.aload 4, 2) := by decide +kernel
theorem dX9_span_39 : decode cX9_span 39 = .ok (.iload_n 2, 1) := by decide +kernel
theorem dX9_span_40 : decode cX9_span 40 = .ok (.putfield 235, 3) := by decide +kernel
theorem dX9_span_43 : decode cX9_span 43 = .ok (.aload 4, 2) := by decide +kernel
theorem dX9_span_45 : decode cX9_span 45 = .ok (.iload_n 2, 1) := by decide +kernel
theorem dX9_span_46 : decode cX9_span 46 = .ok (.bipush (-9), 2) := by decide +kernel
theorem dX9_span_48 : decode cX9_span 48 = .ok (.if_icmp .ne 8, 3) := by decide +kernel
theorem dX9_span_51 : decode cX9_span 51 = .ok (.bipush (-9), 2) := by decide +kernel
theorem dX9_span_53 : decode cX9_span 53 = .ok (.goto 4, 3) := by decide +kernel
theorem dX9_span_56 : decode cX9_span 56 = .ok (.iload_n 3, 1) := by decide +kernel
theorem dX9_span_57 : decode cX9_span 57 = .ok (.putfield 238, 3) := by decide +kernel
theorem dX9_span_60 : decode cX9_span 60 = .ok (.iconst 1, 1) := by decide +kernel
theorem dX9_span_61 : decode cX9_span 61 = .ok (.ireturn, 1) := by decide +kernel
def c_X9_span (F : Nat) (a0 : Nat) (x1 : Int32) (x2 : Int32) (x3 : Int32) (h0 : z_Hp) : Option (Int32 × z_Hp) := (if hT h0 a0 = 9 then (bI (c_X9_isSheet F a0 x1 h0) (fun x5 h4 => (if x5 = 0 then (some ((-1), h4)) else (lt_ (fun (h7 : z_Hp) => (if hT h7 a0 = 9 then (lt_ (hR h7 a0 6) (fun o8 => (nn o8 (fun a9 => (if hT h7 a9 = 6 then (lt_ (hR h7 a9 0) (fun o10 => (nn o10 (fun a11 => (if okA h7 a11 26 x1 = true then (lt_ (hR h7 a11 (ix x1)) (fun o12 => (nn o12 (fun a13 => (if hT h7 a13 = 5 then (lt_ (sI h7 a13 9 x2) (fun h14 => (if x2 = (-9) then (if hT h14 a13 = 5 then (lt_ (sI h14 a13 10 (-9)) (fun h16 => (some (1, h16)))) else none) else (if hT h14 a13 = 5 then (lt_ (sI h14 a13 10 x3) (fun h15 => (some (1, h15)))) else none)))) else none))))) else none))))) else none))))) else none)) (fun (j26_6 : z_Hp → Option (Int32 × z_Hp)) => (if x2 = (-9) then (j26_6 h4) else (bI (c_X9_isSpan F x2 x3 h4) (fun x18 h17 => (if x18 = 0 then (some ((-1), h17)) else (j26_6 h17)))))))))) else none)
set_option maxRecDepth 20000 in
set_option maxHeartbeats 4000000 in
theorem t_X9_span (F : Nat) (a0 : Nat) (x1 : Int32) (x2 : Int32) (x3 : Int32) (h0 : z_Hp) : z_Ct zi mi_X9_span [vr (some a0), vi x1, vi x2, vi x3] h0 (c_X9_span F a0 x1 x2 x3 h0) := by
  refine z_entry (by decide) (Nat.le_of_ble_eq_true rfl) [(0, vr (some a0)), (1, vi x1), (2, vi x2), (3, vi x3)] rfl ?_
  unfold c_X9_span
  refine z_aload_n (pc := 0) dX9_span_0 rfl 0 rfl (z_iload_n (pc := 1) dX9_span_1 rfl 1 rfl (z_callV_I (pc := 2) (avs := [vi x1]) (st := []) rfl (q := (RX9, TX9, 18)) rfl rfl (t_X9_isSheet F a0 x1 h0) ky_X9_isSheet wm_X9_isSheet we_X9_isSheet wz_RX9_210 (rm_X9_span_X9_isSheet) (Nat.le_of_ble_eq_true rfl) dX9_span_2 (fun x5 h4 => (?_))))
  refine z_if_ne (pc := 5) (tgt := 10) dX9_span_5 (by decide) ?_ ?_
  · refine z_iload_n (pc := 10) dX9_span_10 rfl 2 rfl (z_bipush (pc := 11) dX9_span_11 bp_m9 (?_))
    refine z_jn (P := fun (j : z_Hp → Option (Int32 × z_Hp)) => ∀ (h7 : z_Hp), z_G zi mi_X9_span 26 [(0, vr (some a0)), (1, vi x1), (2, vi x2), (3, vi x3)] [] h7 (j h7)) (fun h7 => ?_) (fun j26_6 qj26_6 => ?_)
    · refine z_aload_n (pc := 26) dX9_span_26 rfl 0 rfl (z_getRl (pc := 27) fl_RX9_40 rfl dX9_span_27 (fun o8 => (?_)))
      refine z_nn (fun a9 ea9 => ?_)
      subst ea9
      refine z_getRl (pc := 30) fl_RX9_219 rfl dX9_span_30 (fun o10 => (z_iload_n (pc := 33) dX9_span_33 rfl 1 rfl (?_)))
      refine z_nn (fun a11 ea11 => ?_)
      subst ea11
      refine z_aaloadl (pc := 34) 26 (by decide) dX9_span_34 (fun o12 => (z_astore (pc := 35) (L' := [(0, vr (some a0)), (1, vi x1), (2, vi x2), (3, vi x3), (4, vr o12)]) dX9_span_35 (Nat.le_of_ble_eq_true rfl) rfl (z_aload (pc := 37) dX9_span_37 4 rfl (z_iload_n (pc := 39) dX9_span_39 rfl 2 rfl (?_)))))
      refine z_nn (fun a13 ea13 => ?_)
      subst ea13
      refine z_putIl (pc := 40) fl_RX9_235 (fin_X_5_9 _) rfl dX9_span_40 (fun h14 => (z_aload (pc := 43) dX9_span_43 4 rfl (z_iload_n (pc := 45) dX9_span_45 rfl 2 rfl (z_bipush (pc := 46) dX9_span_46 bp_m9 (?_)))))
      refine z_icmp_ne (pc := 48) (tgt := 56) dX9_span_48 (by decide) ?_ ?_
      · refine z_iload_n (pc := 56) dX9_span_56 rfl 3 rfl (z_putIl (pc := 57) fl_RX9_238 (fin_X_5_10 _) rfl dX9_span_57 (fun h15 => (z_iconst (pc := 60) dX9_span_60 ic_1 (?_))))
        exact z_iret (pc := 61) dX9_span_61 rfl rfl
      · refine z_bipush (pc := 51) dX9_span_51 bp_m9 (z_goto (pc := 53) (tgt := 57) dX9_span_53 (by decide) (z_putIl (pc := 57) fl_RX9_238 (fin_X_5_10 _) rfl dX9_span_57 (fun h16 => (z_iconst (pc := 60) dX9_span_60 ic_1 (?_)))))
        exact z_iret (pc := 61) dX9_span_61 rfl rfl
    refine z_icmp_eq (pc := 13) (tgt := 26) dX9_span_13 (by decide) ?_ ?_
    · exact qj26_6 h4
    · refine z_iload_n (pc := 16) dX9_span_16 rfl 2 rfl (z_iload_n (pc := 17) dX9_span_17 rfl 3 rfl (z_callS_I (pc := 18) (avs := [vi x2, vi x3]) (st := []) rfl (t_X9_isSpan F x2 x3 h4) ky_X9_isSpan ws_X9_isSpan wz_RX9_191 (rm_X9_span_X9_isSpan) (Nat.le_of_ble_eq_true rfl) dX9_span_18 (fun x18 h17 => (?_))))
      refine z_if_ne (pc := 21) (tgt := 26) dX9_span_21 (by decide) ?_ ?_
      · exact qj26_6 h17
      · refine z_iconst (pc := 24) dX9_span_24 ic_m1 (?_)
        exact z_iret (pc := 25) dX9_span_25 rfl rfl
  · refine z_iconst (pc := 8) dX9_span_8 ic_m1 (?_)
    exact z_iret (pc := 9) dX9_span_9 rfl rfl
theorem dX9_told_0 : decode cX9_told 0 = .ok (.aload_n 0, 1) := by decide +kernel
theorem dX9_told_1 : decode cX9_told 1 = .ok (.iload_n 1, 1) := by decide +kernel
theorem dX9_told_2 : decode cX9_told 2 = .ok (.invokevirtual 210, 3) := by decide +kernel
theorem dX9_told_5 : decode cX9_told 5 = .ok (.ifCond .eq 13, 3) := by decide +kernel
theorem dX9_told_8 : decode cX9_told 8 = .ok (.iload_n 2, 1) := by decide +kernel
theorem dX9_told_9 : decode cX9_told 9 = .ok (.ifCond .lt 9, 3) := by decide +kernel
theorem dX9_told_12 : decode cX9_told 12 = .ok (.iload_n 2, 1) := by decide +kernel
theorem dX9_told_13 : decode cX9_told 13 = .ok (.bipush 9, 2) := by decide +kernel
theorem dX9_told_15 : decode cX9_told 15 = .ok (.if_icmp .lt 5, 3) := by decide +kernel
theorem dX9_told_18 : decode cX9_told 18 = .ok (.iconst (-1), 1) := by decide +kernel
theorem dX9_told_19 : decode cX9_told 19 = .ok (.ireturn, 1) := by decide +kernel
theorem dX9_told_20 : decode cX9_told 20 = .ok (.aload_n 0, 1) := by decide +kernel
theorem dX9_told_21 : decode cX9_told 21 = .ok (.aload_n 0, 1) := by decide +kernel
theorem dX9_told_22 : decode cX9_told 22 = .ok (.getfield 40, 3) := by decide +kernel
theorem dX9_told_25 : decode cX9_told 25 = .ok (.getfield 219, 3) := by decide +kernel
theorem dX9_told_28 : decode cX9_told 28 = .ok (.iload_n 1, 1) := by decide +kernel
theorem dX9_told_29 : decode cX9_told 29 = .ok (.aaload, 1) := by decide +kernel
theorem dX9_told_30 : decode cX9_told 30 = .ok (.iload_n 2, 1) := by decide +kernel
theorem dX9_told_31 : decode cX9_told 31 = .ok (.invokevirtual 241, 3) := by decide +kernel
theorem dX9_told_34 : decode cX9_told 34 = .ok (.putfield 94, 3) := by decide +kernel
theorem dX9_told_37 : decode cX9_told 37 = .ok (.iconst 1, 1) := by decide +kernel
theorem dX9_told_38 : decode cX9_told 38 = .ok (.ireturn, 1) := by decide +kernel
def c_X9_told (F : Nat) (a0 : Nat) (x1 : Int32) (x2 : Int32) (h0 : z_Hp) : Option (Int32 × z_Hp) := (if hT h0 a0 = 9 then (bI (c_X9_isSheet F a0 x1 h0) (fun x4 h3 => (if x4 = 0 then (some ((-1), h3)) else (if x2 < 0 then (some ((-1), h3)) else (if x2 < 9 then (if hT h3 a0 = 9 then (lt_ (hR h3 a0 6) (fun o5 => (nn o5 (fun a6 => (if hT h3 a6 = 6 then (lt_ (hR h3 a6 0) (fun o7 => (nn o7 (fun a8 => (if okA h3 a8 26 x1 = true then (lt_ (hR h3 a8 (ix x1)) (fun o9 => (nn o9 (fun a10 => (if hT h3 a10 = 5 then (bI (c_X5_tells F a10 x2 h3) (fun x12 h11 => (if hT h11 a0 = 9 then (lt_ (sI h11 a0 15 x12) (fun h13 => (some (1, h13)))) else none))) else none))))) else none))))) else none))))) else none) else (some ((-1), h3))))))) else none)
set_option maxRecDepth 20000 in
set_option maxHeartbeats 4000000 in
theorem t_X9_told (F : Nat) (a0 : Nat) (x1 : Int32) (x2 : Int32) (h0 : z_Hp) : z_Ct zi mi_X9_told [vr (some a0), vi x1, vi x2] h0 (c_X9_told F a0 x1 x2 h0) := by
  refine z_entry (by decide) (Nat.le_of_ble_eq_true rfl) [(0, vr (some a0)), (1, vi x1), (2, vi x2)] rfl ?_
  unfold c_X9_told
  refine z_aload_n (pc := 0) dX9_told_0 rfl 0 rfl (z_iload_n (pc := 1) dX9_told_1 rfl 1 rfl (z_callV_I (pc := 2) (avs := [vi x1]) (st := []) rfl (q := (RX9, TX9, 18)) rfl rfl (t_X9_isSheet F a0 x1 h0) ky_X9_isSheet wm_X9_isSheet we_X9_isSheet wz_RX9_210 (rm_X9_told_X9_isSheet) (Nat.le_of_ble_eq_true rfl) dX9_told_2 (fun x4 h3 => (?_))))
  refine z_if_eq (pc := 5) (tgt := 18) dX9_told_5 (by decide) ?_ ?_
  · refine z_iconst (pc := 18) dX9_told_18 ic_m1 (?_)
    exact z_iret (pc := 19) dX9_told_19 rfl rfl
  · refine z_iload_n (pc := 8) dX9_told_8 rfl 2 rfl (?_)
    refine z_if_lt (pc := 9) (tgt := 18) dX9_told_9 (by decide) ?_ ?_
    · refine z_iconst (pc := 18) dX9_told_18 ic_m1 (?_)
      exact z_iret (pc := 19) dX9_told_19 rfl rfl
    · refine z_iload_n (pc := 12) dX9_told_12 rfl 2 rfl (z_bipush (pc := 13) dX9_told_13 bp_9 (?_))
      refine z_icmp_lt (pc := 15) (tgt := 20) dX9_told_15 (by decide) ?_ ?_
      · refine z_aload_n (pc := 20) dX9_told_20 rfl 0 rfl (z_aload_n (pc := 21) dX9_told_21 rfl 0 rfl (z_getRl (pc := 22) fl_RX9_40 rfl dX9_told_22 (fun o5 => (?_))))
        refine z_nn (fun a6 ea6 => ?_)
        subst ea6
        refine z_getRl (pc := 25) fl_RX9_219 rfl dX9_told_25 (fun o7 => (z_iload_n (pc := 28) dX9_told_28 rfl 1 rfl (?_)))
        refine z_nn (fun a8 ea8 => ?_)
        subst ea8
        refine z_aaloadl (pc := 29) 26 (by decide) dX9_told_29 (fun o9 => (z_iload_n (pc := 30) dX9_told_30 rfl 2 rfl (?_)))
        refine z_nn (fun a10 ea10 => ?_)
        subst ea10
        refine z_callV_I (pc := 31) (avs := [vi x2]) (st := [vr (some a0)]) rfl (q := (RX5, TX5, 11)) rfl rfl (t_X5_tells F a10 x2 h3) ky_X5_tells wm_X5_tells we_X5_tells wz_RX9_241 (rm_X9_told_X5_tells) (Nat.le_of_ble_eq_true rfl) dX9_told_31 (fun x12 h11 => (?_))
        refine z_putIl (pc := 34) fl_RX9_94 (fin_X_9_15 _) rfl dX9_told_34 (fun h13 => (z_iconst (pc := 37) dX9_told_37 ic_1 (?_)))
        exact z_iret (pc := 38) dX9_told_38 rfl rfl
      · refine z_iconst (pc := 18) dX9_told_18 ic_m1 (?_)
        exact z_iret (pc := 19) dX9_told_19 rfl rfl
theorem dX9_mark_0 : decode cX9_mark 0 = .ok (.aload_n 0, 1) := by decide +kernel
theorem dX9_mark_1 : decode cX9_mark 1 = .ok (.iload_n 1, 1) := by decide +kernel
theorem dX9_mark_2 : decode cX9_mark 2 = .ok (.invokevirtual 210, 3) := by decide +kernel
theorem dX9_mark_5 : decode cX9_mark 5 = .ok (.ifCond .eq 13, 3) := by decide +kernel
theorem dX9_mark_8 : decode cX9_mark 8 = .ok (.iload_n 2, 1) := by decide +kernel
theorem dX9_mark_9 : decode cX9_mark 9 = .ok (.ifCond .le 9, 3) := by decide +kernel
theorem dX9_mark_12 : decode cX9_mark 12 = .ok (.iload_n 2, 1) := by decide +kernel
theorem dX9_mark_13 : decode cX9_mark 13 = .ok (.bipush 7, 2) := by decide +kernel
theorem dX9_mark_15 : decode cX9_mark 15 = .ok (.if_icmp .lt 5, 3) := by decide +kernel
theorem dX9_mark_18 : decode cX9_mark 18 = .ok (.iconst (-1), 1) := by decide +kernel
theorem dX9_mark_19 : decode cX9_mark 19 = .ok (.ireturn, 1) := by decide +kernel
theorem dX9_mark_20 : decode cX9_mark 20 = .ok (.aload_n 0, 1) := by decide +kernel
theorem dX9_mark_21 : decode cX9_mark 21 = .ok (.getfield 40, 3) := by decide +kernel
theorem dX9_mark_24 : decode cX9_mark 24 = .ok (.getfield 219, 3) := by decide +kernel
theorem dX9_mark_27 : decode cX9_mark 27 = .ok (.iload_n 1, 1) := by decide +kernel
theorem dX9_mark_28 : decode cX9_mark 28 = .ok (.aaload, 1) := by decide +kernel
theorem dX9_mark_29 : decode cX9_mark 29 = .ok (.astore_n 3, 1) := by decide +kernel
theorem dX9_mark_30 : decode cX9_mark 30 = .ok (.aload_n 3, 1) := by decide +kernel
theorem dX9_mark_31 : decode cX9_mark 31 = .ok (.iload_n 2, 1) := by decide +kernel
theorem dX9_mark_32 : decode cX9_mark 32 = .ok (.invokevirtual 244, 3) := by decide +kernel
theorem dX9_mark_35 : decode cX9_mark 35 = .ok (.ifCond .ne 9, 3) := by decide +kernel
theorem dX9_mark_38 : decode cX9_mark 38 = .ok (.aload_n 0, 1) := by decide +kernel
theorem dX9_mark_39 : decode cX9_mark 39 = .ok (.iconst 3, 1) := by decide +kernel
theorem dX9_mark_40 : decode cX9_mark 40 = .ok (.invokevirtual 90, 3) := by decide +kernel
theorem dX9_mark_43 : decode cX9_mark 43 = .ok (.ireturn, 1) := by decide +kernel
theorem dX9_mark_44 : decode cX9_mark 44 = .ok (.iload_n 2, 1) := by decide +kernel
theorem dX9_mark_45 : decode cX9_mark 45 = .ok (.tableswitch 93 1 5 #[35, 44, 50, 64, 69], 35) := by decide +kernel
theorem dX9_mark_80 : decode cX9_mark 80 = .ok (.aload_n 0, 1) := by decide +kernel
theorem dX9_mark_81 : decode cX9_mark 81 = .ok (.getfield 40, 3) := by decide +kernel
theorem dX9_mark_84 : decode cX9_mark 84 = .ok (.aload_n 3, 1) := by decide +kernel
theorem dX9_mark_85 : decode cX9_mark 85 = .ok (.invokevirtual 247, 3) := by decide +kernel
theorem dX9_mark_88 : decode cX9_mark 88 = .ok (.ireturn, 1) := by decide +kernel
theorem dX9_mark_89 : decode cX9_mark 89 = .ok (.aload_n 3, 1) := by decide +kernel
theorem dX9_mark_90 : decode cX9_mark 90 = .ok (.getfield 250, 3) := by decide +kernel
theorem dX9_mark_93 : decode cX9_mark 93 = .ok (.arraylength, 1) := by decide +kernel
theorem dX9_mark_94 : decode cX9_mark 94 = .ok (.ireturn, 1) := by decide +kernel
theorem dX9_mark_95 : decode cX9_mark 95 = .ok (.aload_n 0, 1) := by decide +kernel
theorem dX9_mark_96 : decode cX9_mark 96 = .ok (.getfield 40, 3) := by decide +kernel
theorem dX9_mark_99 : decode cX9_mark 99 = .ok (.iload_n 1, 1) := by decide +kernel
theorem dX9_mark_100 : decode cX9_mark 100 = .ok (.aload_n 0, 1) := by decide +kernel
theorem dX9_mark_101 : decode cX9_mark 101 = .ok (.iconst 2, 1) := by decide +kernel
theorem dX9_mark_102 : decode cX9_mark 102 = .ok (.invokevirtual 157, 3) := by decide +kernel
theorem dX9_mark_105 : decode cX9_mark 105 = .ok (.invokevirtual 253, 3) := by decide +kernel
theorem dX9_mark_108 : decode cX9_mark 108 = .ok (.ireturn, 1) := by decide +kernel
theorem dX9_mark_109 : decode cX9_mark 109 = .ok (.aload_n 3, 1) := by decide +kernel
theorem dX9_mark_110 : decode cX9_mark 110 = .ok (.getfield 257, 3) := by decide +kernel
theorem dX9_mark_113 : decode cX9_mark 113 = .ok (.ireturn, 1) := by decide +kernel
theorem dX9_mark_114 : decode cX9_mark 114 = .ok (.aload_n 0, 1) := by decide +kernel
theorem dX9_mark_115 : decode cX9_mark 115 = .ok (.getfield 75, 3) := by decide +kernel
theorem dX9_mark_118 : decode cX9_mark 118 = .ok (.aload_n 3, 1) := by decide +kernel
theorem dX9_mark_119 : decode cX9_mark 119 = .ok (.getfield 260, 3) := by decide +kernel
theorem dX9_mark_122 : decode cX9_mark 122 = .ok (.aload_n 0, 1) := by decide +kernel
theorem dX9_mark_123 : decode cX9_mark 123 = .ok (.getfield 111, 3) := by decide +kernel
theorem dX9_mark_126 : decode cX9_mark 126 = .ok (.bipush 99, 2) := by decide +kernel
theorem dX9_mark_128 : decode cX9_mark 128 = .ok (.invokestatic 263, 3) := by decide +kernel
theorem dX9_mark_131 : decode cX9_mark 131 = .ok (.invokevirtual 268, 3) := by decide +kernel
theorem dX9_mark_134 : decode cX9_mark 134 = .ok (.invokestatic 271, 3) := by decide +kernel
theorem dX9_mark_137 : decode cX9_mark 137 = .ok (.ireturn, 1) := by decide +kernel
theorem dX9_mark_138 : decode cX9_mark 138 = .ok (.aload_n 0, 1) := by decide +kernel
theorem dX9_mark_139 : decode cX9_mark 139 = .ok (.getfield 68, 3) := by decide +kernel
theorem dX9_mark_142 : decode cX9_mark 142 = .ok (.aload_n 3, 1) := by decide +kernel
theorem dX9_mark_143 : decode cX9_mark 143 = .ok (.getfield 260, 3) := by decide +kernel
theorem dX9_mark_146 : decode cX9_mark 146 = .ok (.aload_n 3, 1) := by decide +kernel
theorem dX9_mark_147 : decode cX9_mark 147 = .ok (.getfield 276, 3) := by decide +kernel
theorem dX9_mark_150 : decode cX9_mark 150 = .ok (.invokevirtual 279, 3) := by decide +kernel
theorem dX9_mark_153 : decode cX9_mark 153 = .ok (.ireturn, 1) := by decide +kernel
def c_X9_mark (F : Nat) (a0 : Nat) (x1 : Int32) (x2 : Int32) (h0 : z_Hp) : Option (Int32 × z_Hp) := (if hT h0 a0 = 9 then (bI (c_X9_isSheet F a0 x1 h0) (fun x4 h3 => (if x4 = 0 then (some ((-1), h3)) else (if x2 ≤ 0 then (some ((-1), h3)) else (if x2 < 7 then (if hT h3 a0 = 9 then (lt_ (hR h3 a0 6) (fun o5 => (nn o5 (fun a6 => (if hT h3 a6 = 6 then (lt_ (hR h3 a6 0) (fun o7 => (nn o7 (fun a8 => (if okA h3 a8 26 x1 = true then (lt_ (hR h3 a8 (ix x1)) (fun o9 => (nn o9 (fun a10 => (if hT h3 a10 = 5 then (bI (c_X5_isOf F a10 x2 h3) (fun x12 h11 => (if x12 = 0 then (if hT h11 a0 = 9 then (bI (c_X9_found F a0 3 h11) (fun x38 h37 => (some (x38, h37)))) else none) else (if (x2 : Int32).toInt < 1 ∨ 5 < (x2 : Int32).toInt then (if hT h11 a0 = 9 then (lt_ (hR h11 a0 10) (fun o13 => (if hT h11 a10 = 5 then (if hT h11 a10 = 5 then (nn o13 (fun a14 => (if hT h11 a14 = 2 then (bI (c_X2_entriesOf F a14 (hI h11 a10 2) (hI h11 a10 1) h11) (fun x16 h15 => (some (x16, h15)))) else none))) else none) else none))) else none) else (if x2 = 1 then (if hT h11 a0 = 9 then (lt_ (hR h11 a0 6) (fun o17 => (nn o17 (fun a18 => (if hT h11 a18 = 6 then (bI (c_X6_leftOfPrint F a18 (some a10) h11) (fun x20 h19 => (some (x20, h19)))) else none))))) else none) else (if x2 = 2 then (if hT h11 a10 = 5 then (lt_ (hR h11 a10 4) (fun o21 => (nn o21 (fun a22 => (if okL h11 a22 = true then (some (nI (hN h11 a22), h11)) else none))))) else none) else (if x2 = 3 then (if hT h11 a0 = 9 then (lt_ (hR h11 a0 6) (fun o23 => (if hT h11 a0 = 9 then (bI (c_X9_inForceToday F a0 2 h11) (fun x25 h24 => (nn o23 (fun a26 => (if hT h24 a26 = 6 then (bI (c_X6_sharing F a26 x1 x25 h24) (fun x28 h27 => (some (x28, h27)))) else none))))) else none))) else none) else (if x2 = 4 then (if hT h11 a10 = 5 then (some (hI h11 a10 3, h11)) else none) else (if x2 = 5 then (if hT h11 a0 = 9 then (lt_ (hR h11 a0 11) (fun o29 => (if hT h11 a10 = 5 then (if hT h11 a0 = 9 then (bI (c_J9_min_7cf53 F (hI h11 a0 4) 99 h11) (fun x31 h30 => (nn o29 (fun a32 => (if hT h30 a32 = 4 then (bI (c_X4_havers F a32 (hI h11 a10 2) x31 h30) (fun x34 h33 => (bI (c_J6_bitCount_0f7a4 F x34 h33) (fun x36 h35 => (some (x36, h35)))))) else none))))) else none) else none))) else none) else none))))))))) else none))))) else none))))) else none))))) else none) else (some ((-1), h3))))))) else none)
set_option maxRecDepth 20000 in
set_option maxHeartbeats 4000000 in
theorem t_X9_mark (F : Nat) (a0 : Nat) (x1 : Int32) (x2 : Int32) (h0 : z_Hp) : z_Ct zi mi_X9_mark [vr (some a0), vi x1, vi x2] h0 (c_X9_mark F a0 x1 x2 h0) := by
  refine z_entry (by decide) (Nat.le_of_ble_eq_true rfl) [(0, vr (some a0)), (1, vi x1), (2, vi x2)] rfl ?_
  unfold c_X9_mark
  refine z_aload_n (pc := 0) dX9_mark_0 rfl 0 rfl (z_iload_n (pc := 1) dX9_mark_1 rfl 1 rfl (z_callV_I (pc := 2) (avs := [vi x1]) (st := []) rfl (q := (RX9, TX9, 18)) rfl rfl (t_X9_isSheet F a0 x1 h0) ky_X9_isSheet wm_X9_isSheet we_X9_isSheet wz_RX9_210 (rm_X9_mark_X9_isSheet) (Nat.le_of_ble_eq_true rfl) dX9_mark_2 (fun x4 h3 => (?_))))
  refine z_if_eq (pc := 5) (tgt := 18) dX9_mark_5 (by decide) ?_ ?_
  · refine z_iconst (pc := 18) dX9_mark_18 ic_m1 (?_)
    exact z_iret (pc := 19) dX9_mark_19 rfl rfl
  · refine z_iload_n (pc := 8) dX9_mark_8 rfl 2 rfl (?_)
    refine z_if_le (pc := 9) (tgt := 18) dX9_mark_9 (by decide) ?_ ?_
    · refine z_iconst (pc := 18) dX9_mark_18 ic_m1 (?_)
      exact z_iret (pc := 19) dX9_mark_19 rfl rfl
    · refine z_iload_n (pc := 12) dX9_mark_12 rfl 2 rfl (z_bipush (pc := 13) dX9_mark_13 bp_7 (?_))
      refine z_icmp_lt (pc := 15) (tgt := 20) dX9_mark_15 (by decide) ?_ ?_
      · refine z_aload_n (pc := 20) dX9_mark_20 rfl 0 rfl (z_getRl (pc := 21) fl_RX9_40 rfl dX9_mark_21 (fun o5 => (?_)))
        refine z_nn (fun a6 ea6 => ?_)
        subst ea6
        refine z_getRl (pc := 24) fl_RX9_219 rfl dX9_mark_24 (fun o7 => (z_iload_n (pc := 27) dX9_mark_27 rfl 1 rfl (?_)))
        refine z_nn (fun a8 ea8 => ?_)
        subst ea8
        refine z_aaloadl (pc := 28) 26 (by decide) dX9_mark_28 (fun o9 => (z_astore_n (pc := 29) (L' := [(0, vr (some a0)), (1, vi x1), (2, vi x2), (3, vr o9)]) dX9_mark_29 rfl (Nat.le_of_ble_eq_true rfl) rfl (z_aload_n (pc := 30) dX9_mark_30 rfl 3 rfl (z_iload_n (pc := 31) dX9_mark_31 rfl 2 rfl (?_)))))
        refine z_nn (fun a10 ea10 => ?_)
        subst ea10
        refine z_callV_I (pc := 32) (avs := [vi x2]) (st := []) rfl (q := (RX5, TX5, 11)) rfl rfl (t_X5_isOf F a10 x2 h3) ky_X5_isOf wm_X5_isOf we_X5_isOf wz_RX9_244 (rm_X9_mark_X5_isOf) (Nat.le_of_ble_eq_true rfl) dX9_mark_32 (fun x12 h11 => (?_))
        refine z_if_ne (pc := 35) (tgt := 44) dX9_mark_35 (by decide) ?_ ?_
        · refine z_iload_n (pc := 44) dX9_mark_44 rfl 2 rfl (?_)
          refine z_ite (fun e => z_tblOut (tgt := 138) dX9_mark_45 e (by decide) ?_) (fun e => ?_)
          · refine z_aload_n (pc := 138) dX9_mark_138 rfl 0 rfl (z_getRl (pc := 139) fl_RX9_68 rfl dX9_mark_139 (fun o13 => (z_aload_n (pc := 142) dX9_mark_142 rfl 3 rfl (z_getI (pc := 143) fl_RX9_260 rfl dX9_mark_143 (z_aload_n (pc := 146) dX9_mark_146 rfl 3 rfl (z_getI (pc := 147) fl_RX9_276 rfl dX9_mark_147 (?_)))))))
            refine z_nn (fun a14 ea14 => ?_)
            subst ea14
            refine z_callV_I (pc := 150) (avs := [vi (hI h11 a10 2), vi (hI h11 a10 1)]) (st := []) rfl (q := (RX2, TX2, 5)) rfl rfl (t_X2_entriesOf F a14 (hI h11 a10 2) (hI h11 a10 1) h11) ky_X2_entriesOf wm_X2_entriesOf we_X2_entriesOf wz_RX9_279 (rm_X9_mark_X2_entriesOf) (Nat.le_of_ble_eq_true rfl) dX9_mark_150 (fun x16 h15 => (?_))
            exact z_iret (pc := 153) dX9_mark_153 rfl rfl
          refine z_ite (fun e => z_tblC (tgt := 80) (off := 35) e dX9_mark_45 (by decide) (by decide) (by decide) (by decide) ?_) (fun _ => ?_)
          · refine z_aload_n (pc := 80) dX9_mark_80 rfl 0 rfl (z_getRl (pc := 81) fl_RX9_40 rfl dX9_mark_81 (fun o17 => (z_aload_n (pc := 84) dX9_mark_84 rfl 3 rfl (?_))))
            refine z_nn (fun a18 ea18 => ?_)
            subst ea18
            refine z_callV_I (pc := 85) (avs := [vr (some a10)]) (st := []) rfl (q := (RX6, TX6, 2)) rfl rfl (t_X6_leftOfPrint F a18 (some a10) h11) ky_X6_leftOfPrint wm_X6_leftOfPrint we_X6_leftOfPrint wz_RX9_247 (rm_X9_mark_X6_leftOfPrint) (Nat.le_of_ble_eq_true rfl) dX9_mark_85 (fun x20 h19 => (?_))
            exact z_iret (pc := 88) dX9_mark_88 rfl rfl
          refine z_ite (fun e => z_tblC (tgt := 89) (off := 44) e dX9_mark_45 (by decide) (by decide) (by decide) (by decide) ?_) (fun _ => ?_)
          · refine z_aload_n (pc := 89) dX9_mark_89 rfl 3 rfl (z_getRl (pc := 90) fl_RX9_250 rfl dX9_mark_90 (fun o21 => (?_)))
            refine z_nn (fun a22 ea22 => ?_)
            subst ea22
            refine z_alen (pc := 93) dX9_mark_93 (?_)
            exact z_iret (pc := 94) dX9_mark_94 rfl rfl
          refine z_ite (fun e => z_tblC (tgt := 95) (off := 50) e dX9_mark_45 (by decide) (by decide) (by decide) (by decide) ?_) (fun _ => ?_)
          · refine z_aload_n (pc := 95) dX9_mark_95 rfl 0 rfl (z_getRl (pc := 96) fl_RX9_40 rfl dX9_mark_96 (fun o23 => (z_iload_n (pc := 99) dX9_mark_99 rfl 1 rfl (z_aload_n (pc := 100) dX9_mark_100 rfl 0 rfl (z_iconst (pc := 101) dX9_mark_101 ic_2 (z_callV_I (pc := 102) (avs := [vi 2]) (st := [vi x1, vr o23]) rfl (q := (RX9, TX9, 18)) rfl rfl (t_X9_inForceToday F a0 2 h11) ky_X9_inForceToday wm_X9_inForceToday we_X9_inForceToday wz_RX9_157 (rm_X9_mark_X9_inForceToday) (Nat.le_of_ble_eq_true rfl) dX9_mark_102 (fun x25 h24 => (?_))))))))
            refine z_nn (fun a26 ea26 => ?_)
            subst ea26
            refine z_callV_I (pc := 105) (avs := [vi x1, vi x25]) (st := []) rfl (q := (RX6, TX6, 2)) rfl rfl (t_X6_sharing F a26 x1 x25 h24) ky_X6_sharing wm_X6_sharing we_X6_sharing wz_RX9_253 (rm_X9_mark_X6_sharing) (Nat.le_of_ble_eq_true rfl) dX9_mark_105 (fun x28 h27 => (?_))
            exact z_iret (pc := 108) dX9_mark_108 rfl rfl
          refine z_ite (fun e => z_tblC (tgt := 109) (off := 64) e dX9_mark_45 (by decide) (by decide) (by decide) (by decide) ?_) (fun _ => ?_)
          · refine z_aload_n (pc := 109) dX9_mark_109 rfl 3 rfl (z_getI (pc := 110) fl_RX9_257 rfl dX9_mark_110 (?_))
            exact z_iret (pc := 113) dX9_mark_113 rfl rfl
          refine z_ite (fun e => z_tblC (tgt := 114) (off := 69) e dX9_mark_45 (by decide) (by decide) (by decide) (by decide) ?_) (fun _ => ?_)
          · refine z_aload_n (pc := 114) dX9_mark_114 rfl 0 rfl (z_getRl (pc := 115) fl_RX9_75 rfl dX9_mark_115 (fun o29 => (z_aload_n (pc := 118) dX9_mark_118 rfl 3 rfl (z_getI (pc := 119) fl_RX9_260 rfl dX9_mark_119 (z_aload_n (pc := 122) dX9_mark_122 rfl 0 rfl (z_getI (pc := 123) fl_RX9_111 rfl dX9_mark_123 (z_bipush (pc := 126) dX9_mark_126 bp_99 (z_callS_I (pc := 128) (avs := [vi (hI h11 a0 4), vi 99]) (st := [vi (hI h11 a10 2), vr o29]) rfl (t_J9_min_7cf53 F (hI h11 a0 4) 99 h11) ky_J9_min_7cf53 ws_J9_min_7cf53 wz_RX9_263 (rm_X9_mark_J9_min_7cf53) (Nat.le_of_ble_eq_true rfl) dX9_mark_128 (fun x31 h30 => (?_))))))))))
            refine z_nn (fun a32 ea32 => ?_)
            subst ea32
            refine z_callV_I (pc := 131) (avs := [vi (hI h11 a10 2), vi x31]) (st := []) rfl (q := (RX4, TX4, 6)) rfl rfl (t_X4_havers F a32 (hI h11 a10 2) x31 h30) ky_X4_havers wm_X4_havers we_X4_havers wz_RX9_268 (rm_X9_mark_X4_havers) (Nat.le_of_ble_eq_true rfl) dX9_mark_131 (fun x34 h33 => (?_))
            refine z_callS_I (pc := 134) (avs := [vi x34]) (st := []) rfl (t_J6_bitCount_0f7a4 F x34 h33) ky_J6_bitCount_0f7a4 ws_J6_bitCount_0f7a4 wz_RX9_271 (rm_X9_mark_J6_bitCount_0f7a4) (Nat.le_of_ble_eq_true rfl) dX9_mark_134 (fun x36 h35 => (?_))
            exact z_iret (pc := 137) dX9_mark_137 rfl rfl
          exact z_none
        · refine z_aload_n (pc := 38) dX9_mark_38 rfl 0 rfl (z_iconst (pc := 39) dX9_mark_39 ic_3 (z_callV_I (pc := 40) (avs := [vi 3]) (st := []) rfl (q := (RX9, TX9, 18)) rfl rfl (t_X9_found F a0 3 h11) ky_X9_found wm_X9_found we_X9_found wz_RX9_90 (rm_X9_mark_X9_found) (Nat.le_of_ble_eq_true rfl) dX9_mark_40 (fun x38 h37 => (?_))))
          exact z_iret (pc := 43) dX9_mark_43 rfl rfl
      · refine z_iconst (pc := 18) dX9_mark_18 ic_m1 (?_)
        exact z_iret (pc := 19) dX9_mark_19 rfl rfl
theorem dX9_areTwoSheets_0 : decode cX9_areTwoSheets 0 = .ok (.aload_n 0, 1) := by decide +kernel
theorem dX9_areTwoSheets_1 : decode cX9_areTwoSheets 1 = .ok (.iload_n 1, 1) := by decide +kernel
theorem dX9_areTwoSheets_2 : decode cX9_areTwoSheets 2 = .ok (.invokevirtual 210, 3) := by decide +kernel
theorem dX9_areTwoSheets_5 : decode cX9_areTwoSheets 5 = .ok (.ifCond .eq 20, 3) := by decide +kernel
theorem dX9_areTwoSheets_8 : decode cX9_areTwoSheets 8 = .ok (.aload_n 0, 1) := by decide +kernel
theorem dX9_areTwoSheets_9 : decode cX9_areTwoSheets 9 = .ok (.iload_n 2, 1) := by decide +kernel
theorem dX9_areTwoSheets_10 : decode cX9_areTwoSheets 10 = .ok (.invokevirtual 210, 3) := by decide +kernel
theorem dX9_areTwoSheets_13 : decode cX9_areTwoSheets 13 = .ok (.ifCond .eq 12, 3) := by decide +kernel
theorem dX9_areTwoSheets_16 : decode cX9_areTwoSheets 16 = .ok (.iload_n 1, 1) := by decide +kernel
theorem dX9_areTwoSheets_17 : decode cX9_areTwoSheets 17 = .ok (.iload_n 2, 1) := by decide +kernel
theorem dX9_areTwoSheets_18 : decode cX9_areTwoSheets 18 = .ok (.if_icmp .eq 7, 3) := by decide +kernel
theorem dX9_areTwoSheets_21 : decode cX9_areTwoSheets 21 = .ok (.iconst 1, 1) := by decide +kernel
theorem dX9_areTwoSheets_22 : decode cX9_areTwoSheets 22 = .ok (.goto 4, 3) := by decide +kernel
theorem dX9_areTwoSheets_25 : decode cX9_areTwoSheets 25 = .ok (.iconst 0, 1) := by decide +kernel
theorem dX9_areTwoSheets_26 : decode cX9_areTwoSheets 26 = .ok (.ireturn, 1) := by decide +kernel
def c_X9_areTwoSheets (F : Nat) (a0 : Nat) (x1 : Int32) (x2 : Int32) (h0 : z_Hp) : Option (Int32 × z_Hp) := (if hT h0 a0 = 9 then (bI (c_X9_isSheet F a0 x1 h0) (fun x4 h3 => (if x4 = 0 then (some (0, h3)) else (if hT h3 a0 = 9 then (bI (c_X9_isSheet F a0 x2 h3) (fun x6 h5 => (if x6 = 0 then (some (0, h5)) else (if x1 = x2 then (some (0, h5)) else (some (1, h5)))))) else none)))) else none)
set_option maxRecDepth 20000 in
set_option maxHeartbeats 4000000 in
theorem t_X9_areTwoSheets (F : Nat) (a0 : Nat) (x1 : Int32) (x2 : Int32) (h0 : z_Hp) : z_Ct zi mi_X9_areTwoSheets [vr (some a0), vi x1, vi x2] h0 (c_X9_areTwoSheets F a0 x1 x2 h0) := by
  refine z_entry (by decide) (Nat.le_of_ble_eq_true rfl) [(0, vr (some a0)), (1, vi x1), (2, vi x2)] rfl ?_
  unfold c_X9_areTwoSheets
  refine z_aload_n (pc := 0) dX9_areTwoSheets_0 rfl 0 rfl (z_iload_n (pc := 1) dX9_areTwoSheets_1 rfl 1 rfl (z_callV_I (pc := 2) (avs := [vi x1]) (st := []) rfl (q := (RX9, TX9, 18)) rfl rfl (t_X9_isSheet F a0 x1 h0) ky_X9_isSheet wm_X9_isSheet we_X9_isSheet wz_RX9_210 (rm_X9_areTwoSheets_X9_isSheet) (Nat.le_of_ble_eq_true rfl) dX9_areTwoSheets_2 (fun x4 h3 => (?_))))
  refine z_if_eq (pc := 5) (tgt := 25) dX9_areTwoSheets_5 (by decide) ?_ ?_
  · refine z_iconst (pc := 25) dX9_areTwoSheets_25 ic_0 (?_)
    exact z_iret (pc := 26) dX9_areTwoSheets_26 rfl rfl
  · refine z_aload_n (pc := 8) dX9_areTwoSheets_8 rfl 0 rfl (z_iload_n (pc := 9) dX9_areTwoSheets_9 rfl 2 rfl (z_callV_I (pc := 10) (avs := [vi x2]) (st := []) rfl (q := (RX9, TX9, 18)) rfl rfl (t_X9_isSheet F a0 x2 h3) ky_X9_isSheet wm_X9_isSheet we_X9_isSheet wz_RX9_210 (rm_X9_areTwoSheets_X9_isSheet) (Nat.le_of_ble_eq_true rfl) dX9_areTwoSheets_10 (fun x6 h5 => (?_))))
    refine z_if_eq (pc := 13) (tgt := 25) dX9_areTwoSheets_13 (by decide) ?_ ?_
    · refine z_iconst (pc := 25) dX9_areTwoSheets_25 ic_0 (?_)
      exact z_iret (pc := 26) dX9_areTwoSheets_26 rfl rfl
    · refine z_iload_n (pc := 16) dX9_areTwoSheets_16 rfl 1 rfl (z_iload_n (pc := 17) dX9_areTwoSheets_17 rfl 2 rfl (?_))
      refine z_icmp_eq (pc := 18) (tgt := 25) dX9_areTwoSheets_18 (by decide) ?_ ?_
      · refine z_iconst (pc := 25) dX9_areTwoSheets_25 ic_0 (?_)
        exact z_iret (pc := 26) dX9_areTwoSheets_26 rfl rfl
      · refine z_iconst (pc := 21) dX9_areTwoSheets_21 ic_1 (z_goto (pc := 22) (tgt := 26) dX9_areTwoSheets_22 (by decide) (?_))
        exact z_iret (pc := 26) dX9_areTwoSheets_26 rfl rfl
theorem dX9_ahead_0 : decode cX9_ahead 0 = .ok (.aload_n 0, 1) := by decide +kernel
theorem dX9_ahead_1 : decode cX9_ahead 1 = .ok (.iload_n 1, 1) := by decide +kernel
theorem dX9_ahead_2 : decode cX9_ahead 2 = .ok (.iload_n 2, 1) := by decide +kernel
theorem dX9_ahead_3 : decode cX9_ahead 3 = .ok (.invokevirtual 282, 3) := by decide +kernel
theorem dX9_ahead_6 : decode cX9_ahead 6 = .ok (.ifCond .ne 6, 3) := by decide +kernel
theorem dX9_ahead_9 : decode cX9_ahead 9 = .ok (.bipush (-100), 2) := by decide +kernel
theorem dX9_ahead_11 : decode cX9_ahead 11 = .ok (.ireturn, 1) := by decide +kernel
theorem dX9_ahead_12 : decode cX9_ahead 12 = .ok (.aload_n 0, 1) := by decide +kernel
theorem dX9_ahead_13 : decode cX9_ahead 13 = .ok (.getfield 40, 3) := by decide +kernel
theorem dX9_ahead_16 : decode cX9_ahead 16 = .ok (.getfield 219, 3) := by decide +kernel
theorem dX9_ahead_19 : decode cX9_ahead 19 = .ok (.iload_n 1, 1) := by decide +kernel
theorem dX9_ahead_20 : decode cX9_ahead 20 = .ok (.aaload, 1) := by decide +kernel
theorem dX9_ahead_21 : decode cX9_ahead 21 = .ok (.aload_n 0, 1) := by decide +kernel
theorem dX9_ahead_22 : decode cX9_ahead 22 = .ok (.getfield 40, 3) := by decide +kernel
theorem dX9_ahead_25 : decode cX9_ahead 25 = .ok (.getfield 219, 3) := by decide +kernel
theorem dX9_ahead_28 : decode cX9_ahead 28 = .ok (.iload_n 2, 1) := by decide +kernel
theorem dX9_ahead_29 : decode cX9_ahead 29 = .ok (.aaload, 1) := by decide +kernel
theorem dX9_ahead_30 : decode cX9_ahead 30 = .ok (.invokevirtual 285, 3) := by decide +kernel
theorem dX9_ahead_33 : decode cX9_ahead 33 = .ok (.ireturn, 1) := by decide +kernel
def c_X9_ahead (F : Nat) (a0 : Nat) (x1 : Int32) (x2 : Int32) (h0 : z_Hp) : Option (Int32 × z_Hp) := (if hT h0 a0 = 9 then (bI (c_X9_areTwoSheets F a0 x1 x2 h0) (fun x4 h3 => (if x4 = 0 then (some ((-100), h3)) else (if hT h3 a0 = 9 then (lt_ (hR h3 a0 6) (fun o5 => (nn o5 (fun a6 => (if hT h3 a6 = 6 then (lt_ (hR h3 a6 0) (fun o7 => (nn o7 (fun a8 => (if okA h3 a8 26 x1 = true then (lt_ (hR h3 a8 (ix x1)) (fun o9 => (if hT h3 a0 = 9 then (lt_ (hR h3 a0 6) (fun o10 => (nn o10 (fun a11 => (if hT h3 a11 = 6 then (lt_ (hR h3 a11 0) (fun o12 => (nn o12 (fun a13 => (if okA h3 a13 26 x2 = true then (lt_ (hR h3 a13 (ix x2)) (fun o14 => (nn o9 (fun a15 => (if hT h3 a15 = 5 then (bI (c_X5_standing F a15 o14 h3) (fun x17 h16 => (some (x17, h16)))) else none))))) else none))))) else none))))) else none))) else none))))) else none))))) else none)))) else none)
set_option maxRecDepth 20000 in
set_option maxHeartbeats 4000000 in
theorem t_X9_ahead (F : Nat) (a0 : Nat) (x1 : Int32) (x2 : Int32) (h0 : z_Hp) : z_Ct zi mi_X9_ahead [vr (some a0), vi x1, vi x2] h0 (c_X9_ahead F a0 x1 x2 h0) := by
  refine z_entry (by decide) (Nat.le_of_ble_eq_true rfl) [(0, vr (some a0)), (1, vi x1), (2, vi x2)] rfl ?_
  unfold c_X9_ahead
  refine z_aload_n (pc := 0) dX9_ahead_0 rfl 0 rfl (z_iload_n (pc := 1) dX9_ahead_1 rfl 1 rfl (z_iload_n (pc := 2) dX9_ahead_2 rfl 2 rfl (z_callV_I (pc := 3) (avs := [vi x1, vi x2]) (st := []) rfl (q := (RX9, TX9, 18)) rfl rfl (t_X9_areTwoSheets F a0 x1 x2 h0) ky_X9_areTwoSheets wm_X9_areTwoSheets we_X9_areTwoSheets wz_RX9_282 (rm_X9_ahead_X9_areTwoSheets) (Nat.le_of_ble_eq_true rfl) dX9_ahead_3 (fun x4 h3 => (?_)))))
  refine z_if_ne (pc := 6) (tgt := 12) dX9_ahead_6 (by decide) ?_ ?_
  · refine z_aload_n (pc := 12) dX9_ahead_12 rfl 0 rfl (z_getRl (pc := 13) fl_RX9_40 rfl dX9_ahead_13 (fun o5 => (?_)))
    refine z_nn (fun a6 ea6 => ?_)
    subst ea6
    refine z_getRl (pc := 16) fl_RX9_219 rfl dX9_ahead_16 (fun o7 => (z_iload_n (pc := 19) dX9_ahead_19 rfl 1 rfl (?_)))
    refine z_nn (fun a8 ea8 => ?_)
    subst ea8
    refine z_aaloadl (pc := 20) 26 (by decide) dX9_ahead_20 (fun o9 => (z_aload_n (pc := 21) dX9_ahead_21 rfl 0 rfl (z_getRl (pc := 22) fl_RX9_40 rfl dX9_ahead_22 (fun o10 => (?_)))))
    refine z_nn (fun a11 ea11 => ?_)
    subst ea11
    refine z_getRl (pc := 25) fl_RX9_219 rfl dX9_ahead_25 (fun o12 => (z_iload_n (pc := 28) dX9_ahead_28 rfl 2 rfl (?_)))
    refine z_nn (fun a13 ea13 => ?_)
    subst ea13
    refine z_aaloadl (pc := 29) 26 (by decide) dX9_ahead_29 (fun o14 => (?_))
    refine z_nn (fun a15 ea15 => ?_)
    subst ea15
    refine z_callV_I (pc := 30) (avs := [vr o14]) (st := []) rfl (q := (RX5, TX5, 11)) rfl rfl (t_X5_standing F a15 o14 h3) ky_X5_standing wm_X5_standing we_X5_standing wz_RX9_285 (rm_X9_ahead_X5_standing) (Nat.le_of_ble_eq_true rfl) dX9_ahead_30 (fun x17 h16 => (?_))
    exact z_iret (pc := 33) dX9_ahead_33 rfl rfl
  · refine z_bipush (pc := 9) dX9_ahead_9 bp_m100 (?_)
    exact z_iret (pc := 11) dX9_ahead_11 rfl rfl
theorem dX9_quarrel_0 : decode cX9_quarrel 0 = .ok (.aload_n 0, 1) := by decide +kernel
theorem dX9_quarrel_1 : decode cX9_quarrel 1 = .ok (.getfield 40, 3) := by decide +kernel
theorem dX9_quarrel_4 : decode cX9_quarrel 4 = .ok (.invokevirtual 288, 3) := by decide +kernel
theorem dX9_quarrel_7 : decode cX9_quarrel 7 = .ok (.ireturn, 1) := by decide +kernel
def c_X9_quarrel (F : Nat) (a0 : Nat) (h0 : z_Hp) : Option (Int32 × z_Hp) := (if hT h0 a0 = 9 then (lt_ (hR h0 a0 6) (fun o1 => (nn o1 (fun a2 => (if hT h0 a2 = 6 then (bI (c_X6_firstQuarrel F a2 h0) (fun x4 h3 => (some (x4, h3)))) else none))))) else none)
set_option maxRecDepth 20000 in
set_option maxHeartbeats 4000000 in
theorem t_X9_quarrel (F : Nat) (a0 : Nat) (h0 : z_Hp) : z_Ct zi mi_X9_quarrel [vr (some a0)] h0 (c_X9_quarrel F a0 h0) := by
  refine z_entry (by decide) (Nat.le_of_ble_eq_true rfl) [(0, vr (some a0))] rfl ?_
  unfold c_X9_quarrel
  refine z_aload_n (pc := 0) dX9_quarrel_0 rfl 0 rfl (z_getRl (pc := 1) fl_RX9_40 rfl dX9_quarrel_1 (fun o1 => (?_)))
  refine z_nn (fun a2 ea2 => ?_)
  subst ea2
  refine z_callV_I (pc := 4) (avs := []) (st := []) rfl (q := (RX6, TX6, 2)) rfl rfl (t_X6_firstQuarrel F a2 h0) ky_X6_firstQuarrel wm_X6_firstQuarrel we_X6_firstQuarrel wz_RX9_288 (rm_X9_quarrel_X6_firstQuarrel) (Nat.le_of_ble_eq_true rfl) dX9_quarrel_4 (fun x4 h3 => (?_))
  exact z_iret (pc := 7) dX9_quarrel_7 rfl rfl
theorem dX9_orders_0 : decode cX9_orders 0 = .ok (.iload_n 1, 1) := by decide +kernel
theorem dX9_orders_1 : decode cX9_orders 1 = .ok (.invokestatic 216, 3) := by decide +kernel
theorem dX9_orders_4 : decode cX9_orders 4 = .ok (.ifCond .ne 5, 3) := by decide +kernel
theorem dX9_orders_7 : decode cX9_orders 7 = .ok (.iconst (-1), 1) := by decide +kernel
theorem dX9_orders_8 : decode cX9_orders 8 = .ok (.ireturn, 1) := by decide +kernel
theorem dX9_orders_9 : decode cX9_orders 9 = .ok (.aload_n 0, 1) := by decide +kernel
theorem dX9_orders_10 : decode cX9_orders 10 = .ok (.getfield 40, 3) := by decide +kernel
theorem dX9_orders_13 : decode cX9_orders 13 = .ok (.iload_n 1, 1) := by decide +kernel
theorem dX9_orders_14 : decode cX9_orders 14 = .ok (.invokevirtual 291, 3) := by decide +kernel
theorem dX9_orders_17 : decode cX9_orders 17 = .ok (.bipush 12, 2) := by decide +kernel
theorem dX9_orders_19 : decode cX9_orders 19 = .ok (.if_icmp .le 6, 3) := by decide +kernel
theorem dX9_orders_22 : decode cX9_orders 22 = .ok (.bipush (-6), 2) := by decide +kernel
theorem dX9_orders_24 : decode cX9_orders 24 = .ok (.ireturn, 1) := by decide +kernel
theorem dX9_orders_25 : decode cX9_orders 25 = .ok (.aload_n 0, 1) := by decide +kernel
theorem dX9_orders_26 : decode cX9_orders 26 = .ok (.getfield 47, 3) := by decide +kernel
theorem dX9_orders_29 : decode cX9_orders 29 = .ok (.aload_n 0, 1) := by decide +kernel
theorem dX9_orders_30 : decode cX9_orders 30 = .ok (.getfield 40, 3) := by decide +kernel
theorem dX9_orders_33 : decode cX9_orders 33 = .ok (.iload_n 1, 1) := by decide +kernel
theorem dX9_orders_34 : decode cX9_orders 34 = .ok (.invokevirtual 294, 3) := by decide +kernel
theorem dX9_orders_37 : decode cX9_orders 37 = .ok (.aload_n 0, 1) := by decide +kernel
theorem dX9_orders_38 : decode cX9_orders 38 = .ok (.aload_n 0, 1) := by decide +kernel
theorem dX9_orders_39 : decode cX9_orders 39 = .ok (.getfield 47, 3) := by decide +kernel
theorem dX9_orders_42 : decode cX9_orders 42 = .ok (.invokevirtual 298, 3) := by decide +kernel
theorem dX9_orders_45 : decode cX9_orders 45 = .ok (.i2l, 1) := by decide +kernel
theorem dX9_orders_46 : decode cX9_orders 46 = .ok (.putfield 301, 3) := by decide +kernel
theorem dX9_orders_49 : decode cX9_orders 49 = .ok (.aload_n 0, 1) := by decide +kernel
theorem dX9_orders_50 : decode cX9_orders 50 = .ok (.getfield 47, 3) := by decide +kernel
theorem dX9_orders_53 : decode cX9_orders 53 = .ok (.getfield 304, 3) := by decide +kernel
theorem dX9_orders_56 : decode cX9_orders 56 = .ok (.ireturn, 1) := by decide +kernel
def c_X9_orders (F : Nat) (a0 : Nat) (x1 : Int32) (h0 : z_Hp) : Option (Int32 × z_Hp) := (bI (c_X9_isBlock F x1 h0) (fun x3 h2 => (if x3 = 0 then (some ((-1), h2)) else (if hT h2 a0 = 9 then (lt_ (hR h2 a0 6) (fun o4 => (nn o4 (fun a5 => (if hT h2 a5 = 6 then (bI (c_X6_withBlock F a5 x1 h2) (fun x7 h6 => (if x7 ≤ 12 then (if hT h6 a0 = 9 then (lt_ (hR h6 a0 7) (fun o8 => (if hT h6 a0 = 9 then (lt_ (hR h6 a0 6) (fun o9 => (nn o8 (fun a10 => (if hT h6 a10 = 1 then (bV (c_X1_gather F a10 o9 x1 h6) (fun h11 => (if hT h11 a0 = 9 then (lt_ (hR h11 a0 7) (fun o12 => (nn o12 (fun a13 => (if hT h11 a13 = 1 then (bI (c_X1_ways F a13 h11) (fun x15 h14 => (if hT h14 a0 = 9 then (lt_ (sJ h14 a0 14 ((x15 : Int32).toInt64)) (fun h16 => (if hT h16 a0 = 9 then (lt_ (hR h16 a0 7) (fun o17 => (nn o17 (fun a18 => (if hT h16 a18 = 1 then (some (hI h16 a18 3, h16)) else none))))) else none))) else none))) else none))))) else none))) else none))))) else none))) else none) else (some ((-6), h6))))) else none))))) else none))))
set_option maxRecDepth 20000 in
set_option maxHeartbeats 4000000 in
theorem t_X9_orders (F : Nat) (a0 : Nat) (x1 : Int32) (h0 : z_Hp) : z_Ct zi mi_X9_orders [vr (some a0), vi x1] h0 (c_X9_orders F a0 x1 h0) := by
  refine z_entry (by decide) (Nat.le_of_ble_eq_true rfl) [(0, vr (some a0)), (1, vi x1)] rfl ?_
  unfold c_X9_orders
  refine z_iload_n (pc := 0) dX9_orders_0 rfl 1 rfl (z_callS_I (pc := 1) (avs := [vi x1]) (st := []) rfl (t_X9_isBlock F x1 h0) ky_X9_isBlock ws_X9_isBlock wz_RX9_216 (rm_X9_orders_X9_isBlock) (Nat.le_of_ble_eq_true rfl) dX9_orders_1 (fun x3 h2 => (?_)))
  refine z_if_ne (pc := 4) (tgt := 9) dX9_orders_4 (by decide) ?_ ?_
  · refine z_aload_n (pc := 9) dX9_orders_9 rfl 0 rfl (z_getRl (pc := 10) fl_RX9_40 rfl dX9_orders_10 (fun o4 => (z_iload_n (pc := 13) dX9_orders_13 rfl 1 rfl (?_))))
    refine z_nn (fun a5 ea5 => ?_)
    subst ea5
    refine z_callV_I (pc := 14) (avs := [vi x1]) (st := []) rfl (q := (RX6, TX6, 2)) rfl rfl (t_X6_withBlock F a5 x1 h2) ky_X6_withBlock wm_X6_withBlock we_X6_withBlock wz_RX9_291 (rm_X9_orders_X6_withBlock) (Nat.le_of_ble_eq_true rfl) dX9_orders_14 (fun x7 h6 => (?_))
    refine z_bipush (pc := 17) dX9_orders_17 bp_12 (?_)
    refine z_icmp_le (pc := 19) (tgt := 25) dX9_orders_19 (by decide) ?_ ?_
    · refine z_aload_n (pc := 25) dX9_orders_25 rfl 0 rfl (z_getRl (pc := 26) fl_RX9_47 rfl dX9_orders_26 (fun o8 => (z_aload_n (pc := 29) dX9_orders_29 rfl 0 rfl (z_getRl (pc := 30) fl_RX9_40 rfl dX9_orders_30 (fun o9 => (z_iload_n (pc := 33) dX9_orders_33 rfl 1 rfl (?_)))))))
      refine z_nn (fun a10 ea10 => ?_)
      subst ea10
      refine z_callV_V (pc := 34) (avs := [vr o9, vi x1]) (st := []) rfl (q := (RX1, TX1, 4)) rfl rfl (t_X1_gather F a10 o9 x1 h6) ky_X1_gather wm_X1_gather we_X1_gather wz_RX9_294 (rm_X9_orders_X1_gather) (Nat.le_of_ble_eq_true rfl) dX9_orders_34 (fun h11 => (?_))
      refine z_aload_n (pc := 37) dX9_orders_37 rfl 0 rfl (z_aload_n (pc := 38) dX9_orders_38 rfl 0 rfl (z_getRl (pc := 39) fl_RX9_47 rfl dX9_orders_39 (fun o12 => (?_))))
      refine z_nn (fun a13 ea13 => ?_)
      subst ea13
      refine z_callV_I (pc := 42) (avs := []) (st := [vr (some a0)]) rfl (q := (RX1, TX1, 4)) rfl rfl (t_X1_ways F a13 h11) ky_X1_ways wm_X1_ways we_X1_ways wz_RX9_298 (rm_X9_orders_X1_ways) (Nat.le_of_ble_eq_true rfl) dX9_orders_42 (fun x15 h14 => (?_))
      refine z_i2l (pc := 45) dX9_orders_45 (z_putJl (pc := 46) fl_RX9_301 (fin_X_9_14 _) rfl dX9_orders_46 (fun h16 => (z_aload_n (pc := 49) dX9_orders_49 rfl 0 rfl (z_getRl (pc := 50) fl_RX9_47 rfl dX9_orders_50 (fun o17 => (?_))))))
      refine z_nn (fun a18 ea18 => ?_)
      subst ea18
      refine z_getI (pc := 53) fl_RX9_304 rfl dX9_orders_53 (?_)
      exact z_iret (pc := 56) dX9_orders_56 rfl rfl
    · refine z_bipush (pc := 22) dX9_orders_22 bp_m6 (?_)
      exact z_iret (pc := 24) dX9_orders_24 rfl rfl
  · refine z_iconst (pc := 7) dX9_orders_7 ic_m1 (?_)
    exact z_iret (pc := 8) dX9_orders_8 rfl rfl
theorem dX9_standsAhead_0 : decode cX9_standsAhead 0 = .ok (.aload_n 0, 1) := by decide +kernel
theorem dX9_standsAhead_1 : decode cX9_standsAhead 1 = .ok (.iload_n 1, 1) := by decide +kernel
theorem dX9_standsAhead_2 : decode cX9_standsAhead 2 = .ok (.iload_n 2, 1) := by decide +kernel
theorem dX9_standsAhead_3 : decode cX9_standsAhead 3 = .ok (.invokevirtual 282, 3) := by decide +kernel
theorem dX9_standsAhead_6 : decode cX9_standsAhead 6 = .ok (.ifCond .ne 5, 3) := by decide +kernel
theorem dX9_standsAhead_9 : decode cX9_standsAhead 9 = .ok (.iconst (-1), 1) := by decide +kernel
theorem dX9_standsAhead_10 : decode cX9_standsAhead 10 = .ok (.ireturn, 1) := by decide +kernel
theorem dX9_standsAhead_11 : decode cX9_standsAhead 11 = .ok (.aload_n 0, 1) := by decide +kernel
theorem dX9_standsAhead_12 : decode cX9_standsAhead 12 = .ok (.getfield 40, 3) := by decide +kernel
theorem dX9_standsAhead_15 : decode cX9_standsAhead 15 = .ok (.getfield 219, 3) := by decide +kernel
theorem dX9_standsAhead_18 : decode cX9_standsAhead 18 = .ok (.iload_n 1, 1) := by decide +kernel
theorem dX9_standsAhead_19 : decode cX9_standsAhead 19 = .ok (.aaload, 1) := by decide +kernel
theorem dX9_standsAhead_20 : decode cX9_standsAhead 20 = .ok (.getfield 223, 3) := by decide +kernel
theorem dX9_standsAhead_23 : decode cX9_standsAhead 23 = .ok (.istore_n 3, 1) := by decide +kernel
theorem dX9_standsAhead_24 : decode cX9_standsAhead 24 = .ok (.iload_n 3, 1) := by decide +kernel
theorem dX9_standsAhead_25 : decode cX9_standsAhead 25 = .ok (.bipush (-9), 2) := by decide +kernel
theorem dX9_standsAhead_27 : decode cX9_standsAhead 27 = .ok (.if_icmp .eq 19, 3) := by decide +kernel
theorem dX9_standsAhead_30 : decode cX9_standsAhead 30 = .ok (.iload_n 3, 1) := by decide +kernel
theorem dX9_standsAhead_31 : decode cX9_standsAhead 31 = .ok (.aload_n 0, 1) := by decide +kernel
theorem dX9_standsAhead_32 : decode cX9_standsAhead 32 = .ok (.getfield 40, 3) := by decide +kernel
theorem dX9_standsAhead_35 : decode cX9_standsAhead 35 = .ok (.getfield 219, 3) := by decide +kernel
theorem dX9_standsAhead_38 : decode cX9_standsAhead 38 = .ok (.iload_n 2, 1) := by decide +kernel
theorem dX9_standsAhead_39 : decode cX9_standsAhead 39 = .ok (.aaload, 1) := by decide +kernel
theorem dX9_standsAhead_40 : decode cX9_standsAhead 40 = .ok (.getfield 223, 3) := by decide +kernel
theorem dX9_standsAhead_43 : decode cX9_standsAhead 43 = .ok (.if_icmp .eq 9, 3) := by decide +kernel
theorem dX9_standsAhead_46 : decode cX9_standsAhead 46 = .ok (.aload_n 0, 1) := by decide +kernel
theorem dX9_standsAhead_47 : decode cX9_standsAhead 47 = .ok (.iconst 3, 1) := by decide +kernel
theorem dX9_standsAhead_48 : decode cX9_standsAhead 48 = .ok (.invokevirtual 90, 3) := by decide +kernel
theorem dX9_standsAhead_51 : decode cX9_standsAhead 51 = .ok (.ireturn, 1) := by decide +kernel
theorem dX9_standsAhead_52 : decode cX9_standsAhead 52 = .ok (.aload_n 0, 1) := by decide +kernel
theorem dX9_standsAhead_53 : decode cX9_standsAhead 53 = .ok (.getfield 40, 3) := by decide +kernel
theorem dX9_standsAhead_56 : decode cX9_standsAhead 56 = .ok (.iload_n 3, 1) := by decide +kernel
theorem dX9_standsAhead_57 : decode cX9_standsAhead 57 = .ok (.invokevirtual 291, 3) := by decide +kernel
theorem dX9_standsAhead_60 : decode cX9_standsAhead 60 = .ok (.bipush 12, 2) := by decide +kernel
theorem dX9_standsAhead_62 : decode cX9_standsAhead 62 = .ok (.if_icmp .le 6, 3) := by decide +kernel
theorem dX9_standsAhead_65 : decode cX9_standsAhead 65 = .ok (.bipush (-6), 2) := by decide +kernel
theorem dX9_standsAhead_67 : decode cX9_standsAhead 67 = .ok (.ireturn, 1) := by decide +kernel
theorem dX9_standsAhead_68 : decode cX9_standsAhead 68 = .ok (.aload_n 0, 1) := by decide +kernel
theorem dX9_standsAhead_69 : decode cX9_standsAhead 69 = .ok (.getfield 47, 3) := by decide +kernel
theorem dX9_standsAhead_72 : decode cX9_standsAhead 72 = .ok (.aload_n 0, 1) := by decide +kernel
theorem dX9_standsAhead_73 : decode cX9_standsAhead 73 = .ok (.getfield 40, 3) := by decide +kernel
theorem dX9_standsAhead_76 : decode cX9_standsAhead 76 = .ok (.iload_n 3, 1) := by decide +kernel
theorem dX9_standsAhead_77 : decode cX9_standsAhead 77 = .ok (.invokevirtual 294, 3) := by decide +kernel
theorem dX9_standsAhead_80 : decode cX9_standsAhead 80 = .ok (.aload_n 0, 1) := by decide +kernel
theorem dX9_standsAhead_81 : decode cX9_standsAhead 81 = .ok (.getfield 47, 3) := by decide +kernel
theorem dX9_standsAhead_84 : decode cX9_standsAhead 84 = .ok (.iload_n 1, 1) := by decide +kernel
theorem dX9_standsAhead_85 : decode cX9_standsAhead 85 = .ok (.iload_n 2, 1) := by decide +kernel
theorem dX9_standsAhead_86 : decode cX9_standsAhead 86 = .ok (.invokevirtual 305, 3) := by decide +kernel
theorem dX9_standsAhead_89 : decode cX9_standsAhead 89 = .ok (.aload_n 0, 1) := by decide +kernel
theorem dX9_standsAhead_90 : decode cX9_standsAhead 90 = .ok (.aload_n 0, 1) := by decide +kernel
theorem dX9_standsAhead_91 : decode cX9_standsAhead 91 = .ok (.getfield 47, 3) := by decide +kernel
theorem dX9_standsAhead_94 : decode cX9_standsAhead 94 = .ok (.invokevirtual 298, 3) := by decide +kernel
theorem dX9_standsAhead_97 : decode cX9_standsAhead 97 = .ok (.i2l, 1) := by decide +kernel
theorem dX9_standsAhead_98 : decode cX9_standsAhead 98 = .ok (.putfield 301, 3) := by decide +kernel
theorem dX9_standsAhead_101 : decode cX9_standsAhead 101 = .ok (.iconst 1, 1) := by decide +kernel
theorem dX9_standsAhead_102 : decode cX9_standsAhead 102 = .ok (.ireturn, 1) := by decide +kernel
def c_X9_standsAhead (F : Nat) (a0 : Nat) (x1 : Int32) (x2 : Int32) (h0 : z_Hp) : Option (Int32 × z_Hp) := (if hT h0 a0 = 9 then (bI (c_X9_areTwoSheets F a0 x1 x2 h0) (fun x4 h3 => (if x4 = 0 then (some ((-1), h3)) else (if hT h3 a0 = 9 then (lt_ (hR h3 a0 6) (fun o5 => (nn o5 (fun a6 => (if hT h3 a6 = 6 then (lt_ (hR h3 a6 0) (fun o7 => (nn o7 (fun a8 => (if okA h3 a8 26 x1 = true then (lt_ (hR h3 a8 (ix x1)) (fun o9 => (nn o9 (fun a10 => (if hT h3 a10 = 5 then (lt_ (hI h3 a10 5) (fun x11 => (lt_ (fun (h13 : z_Hp) => (if hT h13 a0 = 9 then (bI (c_X9_found F a0 3 h13) (fun x15 h14 => (some (x15, h14)))) else none)) (fun (j46_12 : z_Hp → Option (Int32 × z_Hp)) => (if x11 = (-9) then (j46_12 h3) else (if hT h3 a0 = 9 then (lt_ (hR h3 a0 6) (fun o16 => (nn o16 (fun a17 => (if hT h3 a17 = 6 then (lt_ (hR h3 a17 0) (fun o18 => (nn o18 (fun a19 => (if okA h3 a19 26 x2 = true then (lt_ (hR h3 a19 (ix x2)) (fun o20 => (nn o20 (fun a21 => (if hT h3 a21 = 5 then (if x11 = (hI h3 a21 5) then (if hT h3 a0 = 9 then (lt_ (hR h3 a0 6) (fun o22 => (nn o22 (fun a23 => (if hT h3 a23 = 6 then (bI (c_X6_withBlock F a23 x11 h3) (fun x25 h24 => (if x25 ≤ 12 then (if hT h24 a0 = 9 then (lt_ (hR h24 a0 7) (fun o26 => (if hT h24 a0 = 9 then (lt_ (hR h24 a0 6) (fun o27 => (nn o26 (fun a28 => (if hT h24 a28 = 1 then (bV (c_X1_gather F a28 o27 x11 h24) (fun h29 => (if hT h29 a0 = 9 then (lt_ (hR h29 a0 7) (fun o30 => (nn o30 (fun a31 => (if hT h29 a31 = 1 then (bV (c_X1_demand F a31 x1 x2 h29) (fun h32 => (if hT h32 a0 = 9 then (lt_ (hR h32 a0 7) (fun o33 => (nn o33 (fun a34 => (if hT h32 a34 = 1 then (bI (c_X1_ways F a34 h32) (fun x36 h35 => (if hT h35 a0 = 9 then (lt_ (sJ h35 a0 14 ((x36 : Int32).toInt64)) (fun h37 => (some (1, h37)))) else none))) else none))))) else none))) else none))))) else none))) else none))))) else none))) else none) else (some ((-6), h24))))) else none))))) else none) else (j46_12 h3)) else none))))) else none))))) else none))))) else none)))))) else none))))) else none))))) else none))))) else none)))) else none)
set_option maxRecDepth 20000 in
set_option maxHeartbeats 4000000 in
theorem t_X9_standsAhead (F : Nat) (a0 : Nat) (x1 : Int32) (x2 : Int32) (h0 : z_Hp) : z_Ct zi mi_X9_standsAhead [vr (some a0), vi x1, vi x2] h0 (c_X9_standsAhead F a0 x1 x2 h0) := by
  refine z_entry (by decide) (Nat.le_of_ble_eq_true rfl) [(0, vr (some a0)), (1, vi x1), (2, vi x2)] rfl ?_
  unfold c_X9_standsAhead
  refine z_aload_n (pc := 0) dX9_standsAhead_0 rfl 0 rfl (z_iload_n (pc := 1) dX9_standsAhead_1 rfl 1 rfl (z_iload_n (pc := 2) dX9_standsAhead_2 rfl 2 rfl (z_callV_I (pc := 3) (avs := [vi x1, vi x2]) (st := []) rfl (q := (RX9, TX9, 18)) rfl rfl (t_X9_areTwoSheets F a0 x1 x2 h0) ky_X9_areTwoSheets wm_X9_areTwoSheets we_X9_areTwoSheets wz_RX9_282 (rm_X9_standsAhead_X9_areTwoSheets) (Nat.le_of_ble_eq_true rfl) dX9_standsAhead_3 (fun x4 h3 => (?_)))))
  refine z_if_ne (pc := 6) (tgt := 11) dX9_standsAhead_6 (by decide) ?_ ?_
  · refine z_aload_n (pc := 11) dX9_standsAhead_11 rfl 0 rfl (z_getRl (pc := 12) fl_RX9_40 rfl dX9_standsAhead_12 (fun o5 => (?_)))
    refine z_nn (fun a6 ea6 => ?_)
    subst ea6
    refine z_getRl (pc := 15) fl_RX9_219 rfl dX9_standsAhead_15 (fun o7 => (z_iload_n (pc := 18) dX9_standsAhead_18 rfl 1 rfl (?_)))
    refine z_nn (fun a8 ea8 => ?_)
    subst ea8
    refine z_aaloadl (pc := 19) 26 (by decide) dX9_standsAhead_19 (fun o9 => (?_))
    refine z_nn (fun a10 ea10 => ?_)
    subst ea10
    refine z_getI (pc := 20) fl_RX9_223 rfl dX9_standsAhead_20 (z_istorel_n (pc := 23) (L' := fun x11 => [(0, vr (some a0)), (1, vi x1), (2, vi x2), (3, vi x11)]) dX9_standsAhead_23 rfl (Nat.le_of_ble_eq_true rfl) (fun _ => rfl) (fun x11 => (z_iload_n (pc := 24) dX9_standsAhead_24 rfl 3 rfl (z_bipush (pc := 25) dX9_standsAhead_25 bp_m9 (?_)))))
    refine z_jn (P := fun (j : z_Hp → Option (Int32 × z_Hp)) => ∀ (h13 : z_Hp), z_G zi mi_X9_standsAhead 46 [(0, vr (some a0))] [] h13 (j h13)) (fun h13 => ?_) (fun j46_12 qj46_12 => ?_)
    · refine z_aload_n (pc := 46) dX9_standsAhead_46 rfl 0 rfl (z_iconst (pc := 47) dX9_standsAhead_47 ic_3 (z_callV_I (pc := 48) (avs := [vi 3]) (st := []) rfl (q := (RX9, TX9, 18)) rfl rfl (t_X9_found F a0 3 h13) ky_X9_found wm_X9_found we_X9_found wz_RX9_90 (rm_X9_standsAhead_X9_found) (Nat.le_of_ble_eq_true rfl) dX9_standsAhead_48 (fun x15 h14 => (?_))))
      exact z_iret (pc := 51) dX9_standsAhead_51 rfl rfl
    refine z_icmp_eq (pc := 27) (tgt := 46) dX9_standsAhead_27 (by decide) ?_ ?_
    · exact z_sub [0] rfl (qj46_12 h3)
    · refine z_iload_n (pc := 30) dX9_standsAhead_30 rfl 3 rfl (z_aload_n (pc := 31) dX9_standsAhead_31 rfl 0 rfl (z_getRl (pc := 32) fl_RX9_40 rfl dX9_standsAhead_32 (fun o16 => (?_))))
      refine z_nn (fun a17 ea17 => ?_)
      subst ea17
      refine z_getRl (pc := 35) fl_RX9_219 rfl dX9_standsAhead_35 (fun o18 => (z_iload_n (pc := 38) dX9_standsAhead_38 rfl 2 rfl (?_)))
      refine z_nn (fun a19 ea19 => ?_)
      subst ea19
      refine z_aaloadl (pc := 39) 26 (by decide) dX9_standsAhead_39 (fun o20 => (?_))
      refine z_nn (fun a21 ea21 => ?_)
      subst ea21
      refine z_getI (pc := 40) fl_RX9_223 rfl dX9_standsAhead_40 (?_)
      refine z_icmp_eq (pc := 43) (tgt := 52) dX9_standsAhead_43 (by decide) ?_ ?_
      · refine z_aload_n (pc := 52) dX9_standsAhead_52 rfl 0 rfl (z_getRl (pc := 53) fl_RX9_40 rfl dX9_standsAhead_53 (fun o22 => (z_iload_n (pc := 56) dX9_standsAhead_56 rfl 3 rfl (?_))))
        refine z_nn (fun a23 ea23 => ?_)
        subst ea23
        refine z_callV_I (pc := 57) (avs := [vi x11]) (st := []) rfl (q := (RX6, TX6, 2)) rfl rfl (t_X6_withBlock F a23 x11 h3) ky_X6_withBlock wm_X6_withBlock we_X6_withBlock wz_RX9_291 (rm_X9_standsAhead_X6_withBlock) (Nat.le_of_ble_eq_true rfl) dX9_standsAhead_57 (fun x25 h24 => (?_))
        refine z_bipush (pc := 60) dX9_standsAhead_60 bp_12 (?_)
        refine z_icmp_le (pc := 62) (tgt := 68) dX9_standsAhead_62 (by decide) ?_ ?_
        · refine z_aload_n (pc := 68) dX9_standsAhead_68 rfl 0 rfl (z_getRl (pc := 69) fl_RX9_47 rfl dX9_standsAhead_69 (fun o26 => (z_aload_n (pc := 72) dX9_standsAhead_72 rfl 0 rfl (z_getRl (pc := 73) fl_RX9_40 rfl dX9_standsAhead_73 (fun o27 => (z_iload_n (pc := 76) dX9_standsAhead_76 rfl 3 rfl (?_)))))))
          refine z_nn (fun a28 ea28 => ?_)
          subst ea28
          refine z_callV_V (pc := 77) (avs := [vr o27, vi x11]) (st := []) rfl (q := (RX1, TX1, 4)) rfl rfl (t_X1_gather F a28 o27 x11 h24) ky_X1_gather wm_X1_gather we_X1_gather wz_RX9_294 (rm_X9_standsAhead_X1_gather) (Nat.le_of_ble_eq_true rfl) dX9_standsAhead_77 (fun h29 => (?_))
          refine z_aload_n (pc := 80) dX9_standsAhead_80 rfl 0 rfl (z_getRl (pc := 81) fl_RX9_47 rfl dX9_standsAhead_81 (fun o30 => (z_iload_n (pc := 84) dX9_standsAhead_84 rfl 1 rfl (z_iload_n (pc := 85) dX9_standsAhead_85 rfl 2 rfl (?_)))))
          refine z_nn (fun a31 ea31 => ?_)
          subst ea31
          refine z_callV_V (pc := 86) (avs := [vi x1, vi x2]) (st := []) rfl (q := (RX1, TX1, 4)) rfl rfl (t_X1_demand F a31 x1 x2 h29) ky_X1_demand wm_X1_demand we_X1_demand wz_RX9_305 (rm_X9_standsAhead_X1_demand) (Nat.le_of_ble_eq_true rfl) dX9_standsAhead_86 (fun h32 => (?_))
          refine z_aload_n (pc := 89) dX9_standsAhead_89 rfl 0 rfl (z_aload_n (pc := 90) dX9_standsAhead_90 rfl 0 rfl (z_getRl (pc := 91) fl_RX9_47 rfl dX9_standsAhead_91 (fun o33 => (?_))))
          refine z_nn (fun a34 ea34 => ?_)
          subst ea34
          refine z_callV_I (pc := 94) (avs := []) (st := [vr (some a0)]) rfl (q := (RX1, TX1, 4)) rfl rfl (t_X1_ways F a34 h32) ky_X1_ways wm_X1_ways we_X1_ways wz_RX9_298 (rm_X9_standsAhead_X1_ways) (Nat.le_of_ble_eq_true rfl) dX9_standsAhead_94 (fun x36 h35 => (?_))
          refine z_i2l (pc := 97) dX9_standsAhead_97 (z_putJl (pc := 98) fl_RX9_301 (fin_X_9_14 _) rfl dX9_standsAhead_98 (fun h37 => (z_iconst (pc := 101) dX9_standsAhead_101 ic_1 (?_))))
          exact z_iret (pc := 102) dX9_standsAhead_102 rfl rfl
        · refine z_bipush (pc := 65) dX9_standsAhead_65 bp_m6 (?_)
          exact z_iret (pc := 67) dX9_standsAhead_67 rfl rfl
      · exact z_sub [0] rfl (qj46_12 h3)
  · refine z_iconst (pc := 9) dX9_standsAhead_9 ic_m1 (?_)
    exact z_iret (pc := 10) dX9_standsAhead_10 rfl rfl
theorem dX9_judgeOrder_0 : decode cX9_judgeOrder 0 = .ok (.iload_n 1, 1) := by decide +kernel
theorem dX9_judgeOrder_1 : decode cX9_judgeOrder 1 = .ok (.invokestatic 216, 3) := by decide +kernel
theorem dX9_judgeOrder_4 : decode cX9_judgeOrder 4 = .ok (.ifCond .eq 10, 3) := by decide +kernel
theorem dX9_judgeOrder_7 : decode cX9_judgeOrder 7 = .ok (.iload_n 2, 1) := by decide +kernel
theorem dX9_judgeOrder_8 : decode cX9_judgeOrder 8 = .ok (.invokestatic 86, 3) := by decide +kernel
theorem dX9_judgeOrder_11 : decode cX9_judgeOrder 11 = .ok (.ifCond .ne 5, 3) := by decide +kernel
theorem dX9_judgeOrder_14 : decode cX9_judgeOrder 14 = .ok (.iconst (-1), 1) := by decide +kernel
theorem dX9_judgeOrder_15 : decode cX9_judgeOrder 15 = .ok (.ireturn, 1) := by decide +kernel
theorem dX9_judgeOrder_16 : decode cX9_judgeOrder 16 = .ok (.aload_n 0, 1) := by decide +kernel
theorem dX9_judgeOrder_17 : decode cX9_judgeOrder 17 = .ok (.getfield 11, 3) := by decide +kernel
theorem dX9_judgeOrder_20 : decode cX9_judgeOrder 20 = .ok (.iload_n 2, 1) := by decide +kernel
theorem dX9_judgeOrder_21 : decode cX9_judgeOrder 21 = .ok (.aaload, 1) := by decide +kernel
theorem dX9_judgeOrder_22 : decode cX9_judgeOrder 22 = .ok (.astore_n 3, 1) := by decide +kernel
theorem dX9_judgeOrder_23 : decode cX9_judgeOrder 23 = .ok (.aload_n 3, 1) := by decide +kernel
theorem dX9_judgeOrder_24 : decode cX9_judgeOrder 24 = .ok (.ifnonnull 9, 3) := by decide +kernel
theorem dX9_judgeOrder_27 : decode cX9_judgeOrder 27 = .ok (.aload_n 0, 1) := by decide +kernel
theorem dX9_judgeOrder_28 : decode cX9_judgeOrder 28 = .ok (.iconst 1, 1) := by decide +kernel
theorem dX9_judgeOrder_29 : decode cX9_judgeOrder 29 = .ok (.invokevirtual 90, 3) := by decide +kernel
theorem dX9_judgeOrder_32 : decode cX9_judgeOrder 32 = .ok (.ireturn, 1) := by decide +kernel
theorem dX9_judgeOrder_33 : decode cX9_judgeOrder 33 = .ok (.aload_n 0, 1) := by decide +kernel
theorem dX9_judgeOrder_34 : decode cX9_judgeOrder 34 = .ok (.getfield 40, 3) := by decide +kernel
theorem dX9_judgeOrder_37 : decode cX9_judgeOrder 37 = .ok (.iload_n 1, 1) := by decide +kernel
theorem dX9_judgeOrder_38 : decode cX9_judgeOrder 38 = .ok (.aload_n 3, 1) := by decide +kernel
theorem dX9_judgeOrder_39 : decode cX9_judgeOrder 39 = .ok (.invokevirtual 309, 3) := by decide +kernel
theorem dX9_judgeOrder_42 : decode cX9_judgeOrder 42 = .ok (.ireturn, 1) := by decide +kernel
def c_X9_judgeOrder (F : Nat) (a0 : Nat) (x1 : Int32) (x2 : Int32) (h0 : z_Hp) : Option (Int32 × z_Hp) := (bI (c_X9_isBlock F x1 h0) (fun x4 h3 => (if x4 = 0 then (some ((-1), h3)) else (bI (c_X9_isRow F x2 h3) (fun x6 h5 => (if x6 = 0 then (some ((-1), h5)) else (if hT h5 a0 = 9 then (lt_ (hR h5 a0 0) (fun o7 => (nn o7 (fun a8 => (if okA h5 a8 23 x2 = true then (lt_ (hR h5 a8 (ix x2)) (fun o9 => (nl o9 (if hT h5 a0 = 9 then (bI (c_X9_found F a0 1 h5) (fun x12 h11 => (some (x12, h11)))) else none) (fun a10 => (if hT h5 a0 = 9 then (lt_ (hR h5 a0 6) (fun o13 => (nn o13 (fun a14 => (if hT h5 a14 = 6 then (bI (c_X6_firstOutOfOrder F a14 x1 (some a10) h5) (fun x16 h15 => (some (x16, h15)))) else none))))) else none))))) else none))))) else none)))))))
set_option maxRecDepth 20000 in
set_option maxHeartbeats 4000000 in
theorem t_X9_judgeOrder (F : Nat) (a0 : Nat) (x1 : Int32) (x2 : Int32) (h0 : z_Hp) : z_Ct zi mi_X9_judgeOrder [vr (some a0), vi x1, vi x2] h0 (c_X9_judgeOrder F a0 x1 x2 h0) := by
  refine z_entry (by decide) (Nat.le_of_ble_eq_true rfl) [(0, vr (some a0)), (1, vi x1), (2, vi x2)] rfl ?_
  unfold c_X9_judgeOrder
  refine z_iload_n (pc := 0) dX9_judgeOrder_0 rfl 1 rfl (z_callS_I (pc := 1) (avs := [vi x1]) (st := []) rfl (t_X9_isBlock F x1 h0) ky_X9_isBlock ws_X9_isBlock wz_RX9_216 (rm_X9_judgeOrder_X9_isBlock) (Nat.le_of_ble_eq_true rfl) dX9_judgeOrder_1 (fun x4 h3 => (?_)))
  refine z_if_eq (pc := 4) (tgt := 14) dX9_judgeOrder_4 (by decide) ?_ ?_
  · refine z_iconst (pc := 14) dX9_judgeOrder_14 ic_m1 (?_)
    exact z_iret (pc := 15) dX9_judgeOrder_15 rfl rfl
  · refine z_iload_n (pc := 7) dX9_judgeOrder_7 rfl 2 rfl (z_callS_I (pc := 8) (avs := [vi x2]) (st := []) rfl (t_X9_isRow F x2 h3) ky_X9_isRow ws_X9_isRow wz_RX9_86 (rm_X9_judgeOrder_X9_isRow) (Nat.le_of_ble_eq_true rfl) dX9_judgeOrder_8 (fun x6 h5 => (?_)))
    refine z_if_ne (pc := 11) (tgt := 16) dX9_judgeOrder_11 (by decide) ?_ ?_
    · refine z_aload_n (pc := 16) dX9_judgeOrder_16 rfl 0 rfl (z_getRl (pc := 17) fl_RX9_11 rfl dX9_judgeOrder_17 (fun o7 => (z_iload_n (pc := 20) dX9_judgeOrder_20 rfl 2 rfl (?_))))
      refine z_nn (fun a8 ea8 => ?_)
      subst ea8
      refine z_aaloadl (pc := 21) 23 (by decide) dX9_judgeOrder_21 (fun o9 => (z_astore_n (pc := 22) (L' := [(0, vr (some a0)), (1, vi x1), (2, vi x2), (3, vr o9)]) dX9_judgeOrder_22 rfl (Nat.le_of_ble_eq_true rfl) rfl (z_aload_n (pc := 23) dX9_judgeOrder_23 rfl 3 rfl (?_))))
      refine z_ifnonnull (pc := 24) (tgt := 33) dX9_judgeOrder_24 (by decide) (fun ea10 => ?_) (fun a10 ea10 => ?_)
      · subst ea10
        refine z_aload_n (pc := 27) dX9_judgeOrder_27 rfl 0 rfl (z_iconst (pc := 28) dX9_judgeOrder_28 ic_1 (z_callV_I (pc := 29) (avs := [vi 1]) (st := []) rfl (q := (RX9, TX9, 18)) rfl rfl (t_X9_found F a0 1 h5) ky_X9_found wm_X9_found we_X9_found wz_RX9_90 (rm_X9_judgeOrder_X9_found) (Nat.le_of_ble_eq_true rfl) dX9_judgeOrder_29 (fun x12 h11 => (?_))))
        exact z_iret (pc := 32) dX9_judgeOrder_32 rfl rfl
      · subst ea10
        refine z_aload_n (pc := 33) dX9_judgeOrder_33 rfl 0 rfl (z_getRl (pc := 34) fl_RX9_40 rfl dX9_judgeOrder_34 (fun o13 => (z_iload_n (pc := 37) dX9_judgeOrder_37 rfl 1 rfl (z_aload_n (pc := 38) dX9_judgeOrder_38 rfl 3 rfl (?_)))))
        refine z_nn (fun a14 ea14 => ?_)
        subst ea14
        refine z_callV_I (pc := 39) (avs := [vi x1, vr (some a10)]) (st := []) rfl (q := (RX6, TX6, 2)) rfl rfl (t_X6_firstOutOfOrder F a14 x1 (some a10) h5) ky_X6_firstOutOfOrder wm_X6_firstOutOfOrder we_X6_firstOutOfOrder wz_RX9_309 (rm_X9_judgeOrder_X6_firstOutOfOrder) (Nat.le_of_ble_eq_true rfl) dX9_judgeOrder_39 (fun x16 h15 => (?_))
        exact z_iret (pc := 42) dX9_judgeOrder_42 rfl rfl
    · refine z_iconst (pc := 14) dX9_judgeOrder_14 ic_m1 (?_)
      exact z_iret (pc := 15) dX9_judgeOrder_15 rfl rfl
theorem dX9_year_0 : decode cX9_year 0 = .ok (.aload_n 0, 1) := by decide +kernel
theorem dX9_year_1 : decode cX9_year 1 = .ok (.iload_n 1, 1) := by decide +kernel
theorem dX9_year_2 : decode cX9_year 2 = .ok (.invokevirtual 210, 3) := by decide +kernel
theorem dX9_year_5 : decode cX9_year 5 = .ok (.ifCond .ne 5, 3) := by decide +kernel
theorem dX9_year_8 : decode cX9_year 8 = .ok (.iconst (-1), 1) := by decide +kernel
theorem dX9_year_9 : decode cX9_year 9 = .ok (.ireturn, 1) := by decide +kernel
theorem dX9_year_10 : decode cX9_year 10 = .ok (.aload_n 0, 1) := by decide +kernel
theorem dX9_year_11 : decode cX9_year 11 = .ok (.getfield 54, 3) := by decide +kernel
theorem dX9_year_14 : decode cX9_year 14 = .ok (.aload_n 0, 1) := by decide +kernel
theorem dX9_year_15 : decode cX9_year 15 = .ok (.getfield 40, 3) := by decide +kernel
theorem dX9_year_18 : decode cX9_year 18 = .ok (.aload_n 0, 1) := by decide +kernel
theorem dX9_year_19 : decode cX9_year 19 = .ok (.iconst 3, 1) := by decide +kernel
theorem dX9_year_20 : decode cX9_year 20 = .ok (.invokevirtual 157, 3) := by decide +kernel
theorem dX9_year_23 : decode cX9_year 23 = .ok (.invokevirtual 313, 3) := by decide +kernel
theorem dX9_year_26 : decode cX9_year 26 = .ok (.ifCond .ne 6, 3) := by decide +kernel
theorem dX9_year_29 : decode cX9_year 29 = .ok (.bipush (-9), 2) := by decide +kernel
theorem dX9_year_31 : decode cX9_year 31 = .ok (.ireturn, 1) := by decide +kernel
theorem dX9_year_32 : decode cX9_year 32 = .ok (.iload_n 2, 1) := by decide +kernel
theorem dX9_year_33 : decode cX9_year 33 = .ok (.ifCond .eq 15, 3) := by decide +kernel
theorem dX9_year_36 : decode cX9_year 36 = .ok (.aload_n 0, 1) := by decide +kernel
theorem dX9_year_37 : decode cX9_year 37 = .ok (.getfield 54, 3) := by decide +kernel
theorem dX9_year_40 : decode cX9_year 40 = .ok (.getfield 317, 3) := by decide +kernel
theorem dX9_year_43 : decode cX9_year 43 = .ok (.iload_n 1, 1) := by decide +kernel
theorem dX9_year_44 : decode cX9_year 44 = .ok (.iaload, 1) := by decide +kernel
theorem dX9_year_45 : decode cX9_year 45 = .ok (.goto 12, 3) := by decide +kernel
theorem dX9_year_48 : decode cX9_year 48 = .ok (.aload_n 0, 1) := by decide +kernel
theorem dX9_year_49 : decode cX9_year 49 = .ok (.getfield 54, 3) := by decide +kernel
theorem dX9_year_52 : decode cX9_year 52 = .ok (.getfield 320, 3) := by decide +kernel
theorem dX9_year_55 : decode cX9_year 55 = .ok (.iload_n 1, 1) := by decide +kernel
theorem dX9_year_56 : decode cX9_year 56 = .ok (.iaload, 1) := by decide +kernel
theorem dX9_year_57 : decode cX9_year 57 = .ok (.ireturn, 1) := by decide +kernel
def c_X9_year (F : Nat) (a0 : Nat) (x1 : Int32) (x2 : Int32) (h0 : z_Hp) : Option (Int32 × z_Hp) := (if hT h0 a0 = 9 then (bI (c_X9_isSheet F a0 x1 h0) (fun x4 h3 => (if x4 = 0 then (some ((-1), h3)) else (if hT h3 a0 = 9 then (lt_ (hR h3 a0 8) (fun o5 => (if hT h3 a0 = 9 then (lt_ (hR h3 a0 6) (fun o6 => (if hT h3 a0 = 9 then (bI (c_X9_inForceToday F a0 3 h3) (fun x8 h7 => (nn o5 (fun a9 => (if hT h7 a9 = 8 then (bI (c_X8_work F a9 o6 x8 h7) (fun x11 h10 => (if x11 = 0 then (some ((-9), h10)) else (if x2 = 0 then (if hT h10 a0 = 9 then (lt_ (hR h10 a0 8) (fun o12 => (nn o12 (fun a13 => (if hT h10 a13 = 8 then (lt_ (hR h10 a13 5) (fun o14 => (nn o14 (fun a15 => (if okA h10 a15 20 x1 = true then (some (hI h10 a15 (ix x1), h10)) else none))))) else none))))) else none) else (if hT h10 a0 = 9 then (lt_ (hR h10 a0 8) (fun o16 => (nn o16 (fun a17 => (if hT h10 a17 = 8 then (lt_ (hR h10 a17 6) (fun o18 => (nn o18 (fun a19 => (if okA h10 a19 20 x1 = true then (some (hI h10 a19 (ix x1), h10)) else none))))) else none))))) else none))))) else none))))) else none))) else none))) else none)))) else none)
set_option maxRecDepth 20000 in
set_option maxHeartbeats 4000000 in
theorem t_X9_year (F : Nat) (a0 : Nat) (x1 : Int32) (x2 : Int32) (h0 : z_Hp) : z_Ct zi mi_X9_year [vr (some a0), vi x1, vi x2] h0 (c_X9_year F a0 x1 x2 h0) := by
  refine z_entry (by decide) (Nat.le_of_ble_eq_true rfl) [(0, vr (some a0)), (1, vi x1), (2, vi x2)] rfl ?_
  unfold c_X9_year
  refine z_aload_n (pc := 0) dX9_year_0 rfl 0 rfl (z_iload_n (pc := 1) dX9_year_1 rfl 1 rfl (z_callV_I (pc := 2) (avs := [vi x1]) (st := []) rfl (q := (RX9, TX9, 18)) rfl rfl (t_X9_isSheet F a0 x1 h0) ky_X9_isSheet wm_X9_isSheet we_X9_isSheet wz_RX9_210 (rm_X9_year_X9_isSheet) (Nat.le_of_ble_eq_true rfl) dX9_year_2 (fun x4 h3 => (?_))))
  refine z_if_ne (pc := 5) (tgt := 10) dX9_year_5 (by decide) ?_ ?_
  · refine z_aload_n (pc := 10) dX9_year_10 rfl 0 rfl (z_getRl (pc := 11) fl_RX9_54 rfl dX9_year_11 (fun o5 => (z_aload_n (pc := 14) dX9_year_14 rfl 0 rfl (z_getRl (pc := 15) fl_RX9_40 rfl dX9_year_15 (fun o6 => (z_aload_n (pc := 18) dX9_year_18 rfl 0 rfl (z_iconst (pc := 19) dX9_year_19 ic_3 (z_callV_I (pc := 20) (avs := [vi 3]) (st := [vr o6, vr o5]) rfl (q := (RX9, TX9, 18)) rfl rfl (t_X9_inForceToday F a0 3 h3) ky_X9_inForceToday wm_X9_inForceToday we_X9_inForceToday wz_RX9_157 (rm_X9_year_X9_inForceToday) (Nat.le_of_ble_eq_true rfl) dX9_year_20 (fun x8 h7 => (?_))))))))))
    refine z_nn (fun a9 ea9 => ?_)
    subst ea9
    refine z_callV_I (pc := 23) (avs := [vr o6, vi x8]) (st := []) rfl (q := (RX8, TX8, 7)) rfl rfl (t_X8_work F a9 o6 x8 h7) ky_X8_work wm_X8_work we_X8_work wz_RX9_313 (rm_X9_year_X8_work) (Nat.le_of_ble_eq_true rfl) dX9_year_23 (fun x11 h10 => (?_))
    refine z_if_ne (pc := 26) (tgt := 32) dX9_year_26 (by decide) ?_ ?_
    · refine z_iload_n (pc := 32) dX9_year_32 rfl 2 rfl (?_)
      refine z_if_eq (pc := 33) (tgt := 48) dX9_year_33 (by decide) ?_ ?_
      · refine z_aload_n (pc := 48) dX9_year_48 rfl 0 rfl (z_getRl (pc := 49) fl_RX9_54 rfl dX9_year_49 (fun o12 => (?_)))
        refine z_nn (fun a13 ea13 => ?_)
        subst ea13
        refine z_getRl (pc := 52) fl_RX9_320 rfl dX9_year_52 (fun o14 => (z_iload_n (pc := 55) dX9_year_55 rfl 1 rfl (?_)))
        refine z_nn (fun a15 ea15 => ?_)
        subst ea15
        refine z_iaload (pc := 56) dX9_year_56 (?_)
        exact z_iret (pc := 57) dX9_year_57 rfl rfl
      · refine z_aload_n (pc := 36) dX9_year_36 rfl 0 rfl (z_getRl (pc := 37) fl_RX9_54 rfl dX9_year_37 (fun o16 => (?_)))
        refine z_nn (fun a17 ea17 => ?_)
        subst ea17
        refine z_getRl (pc := 40) fl_RX9_317 rfl dX9_year_40 (fun o18 => (z_iload_n (pc := 43) dX9_year_43 rfl 1 rfl (?_)))
        refine z_nn (fun a19 ea19 => ?_)
        subst ea19
        refine z_iaload (pc := 44) dX9_year_44 (z_goto (pc := 45) (tgt := 57) dX9_year_45 (by decide) (?_))
        exact z_iret (pc := 57) dX9_year_57 rfl rfl
    · refine z_bipush (pc := 29) dX9_year_29 bp_m9 (?_)
      exact z_iret (pc := 31) dX9_year_31 rfl rfl
  · refine z_iconst (pc := 8) dX9_year_8 ic_m1 (?_)
    exact z_iret (pc := 9) dX9_year_9 rfl rfl
theorem dX9_doubts_0 : decode cX9_doubts 0 = .ok (.aload_n 0, 1) := by decide +kernel
theorem dX9_doubts_1 : decode cX9_doubts 1 = .ok (.iconst 3, 1) := by decide +kernel
theorem dX9_doubts_2 : decode cX9_doubts 2 = .ok (.invokevirtual 157, 3) := by decide +kernel
theorem dX9_doubts_5 : decode cX9_doubts 5 = .ok (.istore_n 1, 1) := by decide +kernel
theorem dX9_doubts_6 : decode cX9_doubts 6 = .ok (.aload_n 0, 1) := by decide +kernel
theorem dX9_doubts_7 : decode cX9_doubts 7 = .ok (.getfield 54, 3) := by decide +kernel
theorem dX9_doubts_10 : decode cX9_doubts 10 = .ok (.aload_n 0, 1) := by decide +kernel
theorem dX9_doubts_11 : decode cX9_doubts 11 = .ok (.getfield 40, 3) := by decide +kernel
theorem dX9_doubts_14 : decode cX9_doubts 14 = .ok (.iload_n 1, 1) := by decide +kernel
theorem dX9_doubts_15 : decode cX9_doubts 15 = .ok (.invokevirtual 313, 3) := by decide +kernel
theorem dX9_doubts_18 : decode cX9_doubts 18 = .ok (.ifCond .eq 5, 3) := by decide +kernel
theorem dX9_doubts_21 : decode cX9_doubts 21 = .ok (.iconst 0, 1) := by decide +kernel
theorem dX9_doubts_22 : decode cX9_doubts 22 = .ok (.ireturn, 1) := by decide +kernel
theorem dX9_doubts_23 : decode cX9_doubts 23 = .ok (.aload_n 0, 1) := by decide +kernel
theorem dX9_doubts_24 : decode cX9_doubts 24 = .ok (.getfield 40, 3) := by decide +kernel
theorem dX9_doubts_27 : decode cX9_doubts 27 = .ok (.invokevirtual 323, 3) := by decide +kernel
theorem dX9_doubts_30 : decode cX9_doubts 30 = .ok (.bipush 10, 2) := by decide +kernel
theorem dX9_doubts_32 : decode cX9_doubts 32 = .ok (.if_icmp .le 6, 3) := by decide +kernel
theorem dX9_doubts_35 : decode cX9_doubts 35 = .ok (.bipush (-6), 2) := by decide +kernel
theorem dX9_doubts_37 : decode cX9_doubts 37 = .ok (.ireturn, 1) := by decide +kernel
theorem dX9_doubts_38 : decode cX9_doubts 38 = .ok (.aload_n 0, 1) := by decide +kernel
theorem dX9_doubts_39 : decode cX9_doubts 39 = .ok (.getfield 54, 3) := by decide +kernel
theorem dX9_doubts_42 : decode cX9_doubts 42 = .ok (.aload_n 0, 1) := by decide +kernel
theorem dX9_doubts_43 : decode cX9_doubts 43 = .ok (.getfield 40, 3) := by decide +kernel
theorem dX9_doubts_46 : decode cX9_doubts 46 = .ok (.iload_n 1, 1) := by decide +kernel
theorem dX9_doubts_47 : decode cX9_doubts 47 = .ok (.invokevirtual 326, 3) := by decide +kernel
theorem dX9_doubts_50 : decode cX9_doubts 50 = .ok (.ireturn, 1) := by decide +kernel
def c_X9_doubts (F : Nat) (a0 : Nat) (h0 : z_Hp) : Option (Int32 × z_Hp) := (if hT h0 a0 = 9 then (bI (c_X9_inForceToday F a0 3 h0) (fun x2 h1 => (if hT h1 a0 = 9 then (lt_ (hR h1 a0 8) (fun o3 => (if hT h1 a0 = 9 then (lt_ (hR h1 a0 6) (fun o4 => (nn o3 (fun a5 => (if hT h1 a5 = 8 then (bI (c_X8_work F a5 o4 x2 h1) (fun x7 h6 => (if x7 = 0 then (if hT h6 a0 = 9 then (lt_ (hR h6 a0 6) (fun o8 => (nn o8 (fun a9 => (if hT h6 a9 = 6 then (bI (c_X6_withSpan F a9 h6) (fun x11 h10 => (if x11 ≤ 10 then (if hT h10 a0 = 9 then (lt_ (hR h10 a0 8) (fun o12 => (if hT h10 a0 = 9 then (lt_ (hR h10 a0 6) (fun o13 => (nn o12 (fun a14 => (if hT h10 a14 = 8 then (bI (c_X8_fewestDoubts F a14 o13 x2 h10) (fun x16 h15 => (some (x16, h15)))) else none))))) else none))) else none) else (some ((-6), h10))))) else none))))) else none) else (some (0, h6))))) else none))))) else none))) else none))) else none)
set_option maxRecDepth 20000 in
set_option maxHeartbeats 4000000 in
theorem t_X9_doubts (F : Nat) (a0 : Nat) (h0 : z_Hp) : z_Ct zi mi_X9_doubts [vr (some a0)] h0 (c_X9_doubts F a0 h0) := by
  refine z_entry (by decide) (Nat.le_of_ble_eq_true rfl) [(0, vr (some a0))] rfl ?_
  unfold c_X9_doubts
  refine z_aload_n (pc := 0) dX9_doubts_0 rfl 0 rfl (z_iconst (pc := 1) dX9_doubts_1 ic_3 (z_callV_I (pc := 2) (avs := [vi 3]) (st := []) rfl (q := (RX9, TX9, 18)) rfl rfl (t_X9_inForceToday F a0 3 h0) ky_X9_inForceToday wm_X9_inForceToday we_X9_inForceToday wz_RX9_157 (rm_X9_doubts_X9_inForceToday) (Nat.le_of_ble_eq_true rfl) dX9_doubts_2 (fun x2 h1 => (?_))))
  refine z_istore_n (pc := 5) (L' := [(0, vr (some a0)), (1, vi x2)]) dX9_doubts_5 rfl (Nat.le_of_ble_eq_true rfl) rfl (z_aload_n (pc := 6) dX9_doubts_6 rfl 0 rfl (z_getRl (pc := 7) fl_RX9_54 rfl dX9_doubts_7 (fun o3 => (z_aload_n (pc := 10) dX9_doubts_10 rfl 0 rfl (z_getRl (pc := 11) fl_RX9_40 rfl dX9_doubts_11 (fun o4 => (z_iload_n (pc := 14) dX9_doubts_14 rfl 1 rfl (?_))))))))
  refine z_nn (fun a5 ea5 => ?_)
  subst ea5
  refine z_callV_I (pc := 15) (avs := [vr o4, vi x2]) (st := []) rfl (q := (RX8, TX8, 7)) rfl rfl (t_X8_work F a5 o4 x2 h1) ky_X8_work wm_X8_work we_X8_work wz_RX9_313 (rm_X9_doubts_X8_work) (Nat.le_of_ble_eq_true rfl) dX9_doubts_15 (fun x7 h6 => (?_))
  refine z_if_eq (pc := 18) (tgt := 23) dX9_doubts_18 (by decide) ?_ ?_
  · refine z_aload_n (pc := 23) dX9_doubts_23 rfl 0 rfl (z_getRl (pc := 24) fl_RX9_40 rfl dX9_doubts_24 (fun o8 => (?_)))
    refine z_nn (fun a9 ea9 => ?_)
    subst ea9
    refine z_callV_I (pc := 27) (avs := []) (st := []) rfl (q := (RX6, TX6, 2)) rfl rfl (t_X6_withSpan F a9 h6) ky_X6_withSpan wm_X6_withSpan we_X6_withSpan wz_RX9_323 (rm_X9_doubts_X6_withSpan) (Nat.le_of_ble_eq_true rfl) dX9_doubts_27 (fun x11 h10 => (?_))
    refine z_bipush (pc := 30) dX9_doubts_30 bp_10 (?_)
    refine z_icmp_le (pc := 32) (tgt := 38) dX9_doubts_32 (by decide) ?_ ?_
    · refine z_aload_n (pc := 38) dX9_doubts_38 rfl 0 rfl (z_getRl (pc := 39) fl_RX9_54 rfl dX9_doubts_39 (fun o12 => (z_aload_n (pc := 42) dX9_doubts_42 rfl 0 rfl (z_getRl (pc := 43) fl_RX9_40 rfl dX9_doubts_43 (fun o13 => (z_iload_n (pc := 46) dX9_doubts_46 rfl 1 rfl (?_)))))))
      refine z_nn (fun a14 ea14 => ?_)
      subst ea14
      refine z_callV_I (pc := 47) (avs := [vr o13, vi x2]) (st := []) rfl (q := (RX8, TX8, 7)) rfl rfl (t_X8_fewestDoubts F a14 o13 x2 h10) ky_X8_fewestDoubts wm_X8_fewestDoubts we_X8_fewestDoubts wz_RX9_326 (rm_X9_doubts_X8_fewestDoubts) (Nat.le_of_ble_eq_true rfl) dX9_doubts_47 (fun x16 h15 => (?_))
      exact z_iret (pc := 50) dX9_doubts_50 rfl rfl
    · refine z_bipush (pc := 35) dX9_doubts_35 bp_m6 (?_)
      exact z_iret (pc := 37) dX9_doubts_37 rfl rfl
  · refine z_iconst (pc := 21) dX9_doubts_21 ic_0 (?_)
    exact z_iret (pc := 22) dX9_doubts_22 rfl rfl
theorem dX9_changes_0 : decode cX9_changes 0 = .ok (.iload_n 1, 1) := by decide +kernel
theorem dX9_changes_1 : decode cX9_changes 1 = .ok (.invokestatic 114, 3) := by decide +kernel
theorem dX9_changes_4 : decode cX9_changes 4 = .ok (.ifCond .eq 10, 3) := by decide +kernel
theorem dX9_changes_7 : decode cX9_changes 7 = .ok (.iload_n 2, 1) := by decide +kernel
theorem dX9_changes_8 : decode cX9_changes 8 = .ok (.invokestatic 114, 3) := by decide +kernel
theorem dX9_changes_11 : decode cX9_changes 11 = .ok (.ifCond .ne 5, 3) := by decide +kernel
theorem dX9_changes_14 : decode cX9_changes 14 = .ok (.iconst (-1), 1) := by decide +kernel
theorem dX9_changes_15 : decode cX9_changes 15 = .ok (.ireturn, 1) := by decide +kernel
theorem dX9_changes_16 : decode cX9_changes 16 = .ok (.aload_n 0, 1) := by decide +kernel
theorem dX9_changes_17 : decode cX9_changes 17 = .ok (.getfield 23, 3) := by decide +kernel
theorem dX9_changes_20 : decode cX9_changes 20 = .ok (.iload_n 1, 1) := by decide +kernel
theorem dX9_changes_21 : decode cX9_changes 21 = .ok (.aaload, 1) := by decide +kernel
theorem dX9_changes_22 : decode cX9_changes 22 = .ok (.astore_n 3, 1) := by decide +kernel
theorem dX9_changes_23 : decode cX9_changes 23 = .ok (.aload_n 0, 1) := by decide +kernel
theorem dX9_changes_24 : decode cX9_changes 24 = .ok (.getfield 23, 3) := by decide +kernel
theorem dX9_changes_27 : decode cX9_changes 27 = .ok (.iload_n 2, 1) := by decide +kernel
theorem dX9_changes_28 : decode cX9_changes 28 = .ok (.aaload, 1) := by decide +kernel
theorem dX9_changes_29 : decode cX9_changes 29 = .ok (.astore 4, 2) := by decide +kernel
theorem dX9_changes_31 : decode cX9_changes 31 = .ok (.aload_n 3, 1) := by decide +kernel
theorem dX9_changes_32 : decode cX9_changes 32 = .ok (.ifnull 8, 3) := by decide +kernel
theorem dX9_changes_35 : decode cX9_changes 35 = .ok (.aload 4, 2) := by decide +kernel
theorem dX9_changes_37 : decode cX9_changes 37 = .ok (.ifnonnull 9, 3) := by decide +kernel
theorem dX9_changes_40 : decode cX9_changes 40 = .ok (.aload_n 0, 1) := by decide +kernel
theorem dX9_changes_41 : decode cX9_changes 41 = .ok (.iconst 1, 1) := by decide +kernel
theorem dX9_changes_42 : decode cX9_changes 42 = .ok (.invokevirtual 90, 3) := by decide +kernel
theorem dX9_changes_45 : decode cX9_changes 45 = .ok (.ireturn, 1) := by decide +kernel
theorem dX9_changes_46 : decode cX9_changes 46 = .ok (.aload_n 0, 1) := by decide +kernel
theorem dX9_changes_47 : decode cX9_changes 47 = .ok (.getfield 61, 3) := by decide +kernel
theorem dX9_changes_50 : decode cX9_changes 50 = .ok (.aload_n 3, 1) := by decide +kernel
theorem dX9_changes_51 : decode cX9_changes 51 = .ok (.aload 4, 2) := by decide +kernel
theorem dX9_changes_53 : decode cX9_changes 53 = .ok (.invokevirtual 330, 3) := by decide +kernel
theorem dX9_changes_56 : decode cX9_changes 56 = .ok (.ireturn, 1) := by decide +kernel
def c_X9_changes (F : Nat) (a0 : Nat) (x1 : Int32) (x2 : Int32) (h0 : z_Hp) : Option (Int32 × z_Hp) := (bI (c_X9_isSong F x1 h0) (fun x4 h3 => (if x4 = 0 then (some ((-1), h3)) else (bI (c_X9_isSong F x2 h3) (fun x6 h5 => (if x6 = 0 then (some ((-1), h5)) else (if hT h5 a0 = 9 then (lt_ (hR h5 a0 2) (fun o7 => (nn o7 (fun a8 => (if okA h5 a8 25 x1 = true then (lt_ (hR h5 a8 (ix x1)) (fun o9 => (if hT h5 a0 = 9 then (lt_ (hR h5 a0 2) (fun o10 => (nn o10 (fun a11 => (if okA h5 a11 25 x2 = true then (lt_ (hR h5 a11 (ix x2)) (fun o12 => (lt_ (fun (h14 : z_Hp) => (if hT h14 a0 = 9 then (bI (c_X9_found F a0 1 h14) (fun x16 h15 => (some (x16, h15)))) else none)) (fun (j40_13 : z_Hp → Option (Int32 × z_Hp)) => (nl o9 (j40_13 h5) (fun a17 => (nl o12 (j40_13 h5) (fun a18 => (if hT h5 a0 = 9 then (lt_ (hR h5 a0 9) (fun o19 => (nn o19 (fun a20 => (if hT h5 a20 = 0 then (bI (c_X0_changesBetween F a20 (some a17) (some a18) h5) (fun x22 h21 => (some (x22, h21)))) else none))))) else none))))))))) else none))))) else none))) else none))))) else none)))))))
set_option maxRecDepth 20000 in
set_option maxHeartbeats 4000000 in
theorem t_X9_changes (F : Nat) (a0 : Nat) (x1 : Int32) (x2 : Int32) (h0 : z_Hp) : z_Ct zi mi_X9_changes [vr (some a0), vi x1, vi x2] h0 (c_X9_changes F a0 x1 x2 h0) := by
  refine z_entry (by decide) (Nat.le_of_ble_eq_true rfl) [(0, vr (some a0)), (1, vi x1), (2, vi x2)] rfl ?_
  unfold c_X9_changes
  refine z_iload_n (pc := 0) dX9_changes_0 rfl 1 rfl (z_callS_I (pc := 1) (avs := [vi x1]) (st := []) rfl (t_X9_isSong F x1 h0) ky_X9_isSong ws_X9_isSong wz_RX9_114 (rm_X9_changes_X9_isSong) (Nat.le_of_ble_eq_true rfl) dX9_changes_1 (fun x4 h3 => (?_)))
  refine z_if_eq (pc := 4) (tgt := 14) dX9_changes_4 (by decide) ?_ ?_
  · refine z_iconst (pc := 14) dX9_changes_14 ic_m1 (?_)
    exact z_iret (pc := 15) dX9_changes_15 rfl rfl
  · refine z_iload_n (pc := 7) dX9_changes_7 rfl 2 rfl (z_callS_I (pc := 8) (avs := [vi x2]) (st := []) rfl (t_X9_isSong F x2 h3) ky_X9_isSong ws_X9_isSong wz_RX9_114 (rm_X9_changes_X9_isSong) (Nat.le_of_ble_eq_true rfl) dX9_changes_8 (fun x6 h5 => (?_)))
    refine z_if_ne (pc := 11) (tgt := 16) dX9_changes_11 (by decide) ?_ ?_
    · refine z_aload_n (pc := 16) dX9_changes_16 rfl 0 rfl (z_getRl (pc := 17) fl_RX9_23 rfl dX9_changes_17 (fun o7 => (z_iload_n (pc := 20) dX9_changes_20 rfl 1 rfl (?_))))
      refine z_nn (fun a8 ea8 => ?_)
      subst ea8
      refine z_aaloadl (pc := 21) 25 (by decide) dX9_changes_21 (fun o9 => (z_astore_n (pc := 22) (L' := [(0, vr (some a0)), (1, vi x1), (2, vi x2), (3, vr o9)]) dX9_changes_22 rfl (Nat.le_of_ble_eq_true rfl) rfl (z_aload_n (pc := 23) dX9_changes_23 rfl 0 rfl (z_getRl (pc := 24) fl_RX9_23 rfl dX9_changes_24 (fun o10 => (z_iload_n (pc := 27) dX9_changes_27 rfl 2 rfl (?_)))))))
      refine z_nn (fun a11 ea11 => ?_)
      subst ea11
      refine z_aaloadl (pc := 28) 25 (by decide) dX9_changes_28 (fun o12 => (z_astore (pc := 29) (L' := [(0, vr (some a0)), (1, vi x1), (2, vi x2), (3, vr o9), (4, vr o12)]) dX9_changes_29 (Nat.le_of_ble_eq_true rfl) rfl (z_aload_n (pc := 31) dX9_changes_31 rfl 3 rfl (?_))))
      refine z_jn (P := fun (j : z_Hp → Option (Int32 × z_Hp)) => ∀ (h14 : z_Hp), z_G zi mi_X9_changes 40 [(0, vr (some a0))] [] h14 (j h14)) (fun h14 => ?_) (fun j40_13 qj40_13 => ?_)
      · refine z_aload_n (pc := 40) dX9_changes_40 rfl 0 rfl (z_iconst (pc := 41) dX9_changes_41 ic_1 (z_callV_I (pc := 42) (avs := [vi 1]) (st := []) rfl (q := (RX9, TX9, 18)) rfl rfl (t_X9_found F a0 1 h14) ky_X9_found wm_X9_found we_X9_found wz_RX9_90 (rm_X9_changes_X9_found) (Nat.le_of_ble_eq_true rfl) dX9_changes_42 (fun x16 h15 => (?_))))
        exact z_iret (pc := 45) dX9_changes_45 rfl rfl
      refine z_ifnull (pc := 32) (tgt := 40) dX9_changes_32 (by decide) (fun ea17 => ?_) (fun a17 ea17 => ?_)
      · subst ea17
        exact z_sub [0] rfl (qj40_13 h5)
      · subst ea17
        refine z_aload (pc := 35) dX9_changes_35 4 rfl (?_)
        refine z_ifnonnull (pc := 37) (tgt := 46) dX9_changes_37 (by decide) (fun ea18 => ?_) (fun a18 ea18 => ?_)
        · subst ea18
          exact z_sub [0] rfl (qj40_13 h5)
        · subst ea18
          refine z_aload_n (pc := 46) dX9_changes_46 rfl 0 rfl (z_getRl (pc := 47) fl_RX9_61 rfl dX9_changes_47 (fun o19 => (z_aload_n (pc := 50) dX9_changes_50 rfl 3 rfl (z_aload (pc := 51) dX9_changes_51 4 rfl (?_)))))
          refine z_nn (fun a20 ea20 => ?_)
          subst ea20
          refine z_callV_I (pc := 53) (avs := [vr (some a17), vr (some a18)]) (st := []) rfl (q := (RX0, TX0, 7)) rfl rfl (t_X0_changesBetween F a20 (some a17) (some a18) h5) ky_X0_changesBetween wm_X0_changesBetween we_X0_changesBetween wz_RX9_330 (rm_X9_changes_X0_changesBetween) (Nat.le_of_ble_eq_true rfl) dX9_changes_53 (fun x22 h21 => (?_))
          exact z_iret (pc := 56) dX9_changes_56 rfl rfl
    · refine z_iconst (pc := 14) dX9_changes_14 ic_m1 (?_)
      exact z_iret (pc := 15) dX9_changes_15 rfl rfl
theorem dX9_isSetOfSheets_0 : decode cX9_isSetOfSheets 0 = .ok (.iload_n 1, 1) := by decide +kernel
theorem dX9_isSetOfSheets_1 : decode cX9_isSetOfSheets 1 = .ok (.ifCond .eq 21, 3) := by decide +kernel
theorem dX9_isSetOfSheets_4 : decode cX9_isSetOfSheets 4 = .ok (.iload_n 1, 1) := by decide +kernel
theorem dX9_isSetOfSheets_5 : decode cX9_isSetOfSheets 5 = .ok (.aload_n 0, 1) := by decide +kernel
theorem dX9_isSetOfSheets_6 : decode cX9_isSetOfSheets 6 = .ok (.getfield 40, 3) := by decide +kernel
theorem dX9_isSetOfSheets_9 : decode cX9_isSetOfSheets 9 = .ok (.getfield 198, 3) := by decide +kernel
theorem dX9_isSetOfSheets_12 : decode cX9_isSetOfSheets 12 = .ok (.invokestatic 213, 3) := by decide +kernel
theorem dX9_isSetOfSheets_15 : decode cX9_isSetOfSheets 15 = .ok (.ifCond .eq 7, 3) := by decide +kernel
theorem dX9_isSetOfSheets_18 : decode cX9_isSetOfSheets 18 = .ok (.iconst 1, 1) := by decide +kernel
theorem dX9_isSetOfSheets_19 : decode cX9_isSetOfSheets 19 = .ok (.goto 4, 3) := by decide +kernel
theorem dX9_isSetOfSheets_22 : decode cX9_isSetOfSheets 22 = .ok (.iconst 0, 1) := by decide +kernel
theorem dX9_isSetOfSheets_23 : decode cX9_isSetOfSheets 23 = .ok (.ireturn, 1) := by decide +kernel
def c_X9_isSetOfSheets (F : Nat) (a0 : Nat) (x1 : Int32) (h0 : z_Hp) : Option (Int32 × z_Hp) := (if x1 = 0 then (some (0, h0)) else (if hT h0 a0 = 9 then (lt_ (hR h0 a0 6) (fun o2 => (nn o2 (fun a3 => (if hT h0 a3 = 6 then (bI (c_X9_isBits F x1 (hI h0 a3 1) h0) (fun x5 h4 => (if x5 = 0 then (some (0, h4)) else (some (1, h4))))) else none))))) else none))
set_option maxRecDepth 20000 in
set_option maxHeartbeats 4000000 in
theorem t_X9_isSetOfSheets (F : Nat) (a0 : Nat) (x1 : Int32) (h0 : z_Hp) : z_Ct zi mi_X9_isSetOfSheets [vr (some a0), vi x1] h0 (c_X9_isSetOfSheets F a0 x1 h0) := by
  refine z_entry (by decide) (Nat.le_of_ble_eq_true rfl) [(0, vr (some a0)), (1, vi x1)] rfl ?_
  unfold c_X9_isSetOfSheets
  refine z_iload_n (pc := 0) dX9_isSetOfSheets_0 rfl 1 rfl (?_)
  refine z_if_eq (pc := 1) (tgt := 22) dX9_isSetOfSheets_1 (by decide) ?_ ?_
  · refine z_iconst (pc := 22) dX9_isSetOfSheets_22 ic_0 (?_)
    exact z_iret (pc := 23) dX9_isSetOfSheets_23 rfl rfl
  · refine z_iload_n (pc := 4) dX9_isSetOfSheets_4 rfl 1 rfl (z_aload_n (pc := 5) dX9_isSetOfSheets_5 rfl 0 rfl (z_getRl (pc := 6) fl_RX9_40 rfl dX9_isSetOfSheets_6 (fun o2 => (?_))))
    refine z_nn (fun a3 ea3 => ?_)
    subst ea3
    refine z_getI (pc := 9) fl_RX9_198 rfl dX9_isSetOfSheets_9 (z_callS_I (pc := 12) (avs := [vi x1, vi (hI h0 a3 1)]) (st := []) rfl (t_X9_isBits F x1 (hI h0 a3 1) h0) ky_X9_isBits ws_X9_isBits wz_RX9_213 (rm_X9_isSetOfSheets_X9_isBits) (Nat.le_of_ble_eq_true rfl) dX9_isSetOfSheets_12 (fun x5 h4 => (?_)))
    refine z_if_eq (pc := 15) (tgt := 22) dX9_isSetOfSheets_15 (by decide) ?_ ?_
    · refine z_iconst (pc := 22) dX9_isSetOfSheets_22 ic_0 (?_)
      exact z_iret (pc := 23) dX9_isSetOfSheets_23 rfl rfl
    · refine z_iconst (pc := 18) dX9_isSetOfSheets_18 ic_1 (z_goto (pc := 19) (tgt := 23) dX9_isSetOfSheets_19 (by decide) (?_))
      exact z_iret (pc := 23) dX9_isSetOfSheets_23 rfl rfl
theorem dX9_haveSongs_0 : decode cX9_haveSongs 0 = .ok (.iconst 0, 1) := by decide +kernel
theorem dX9_haveSongs_1 : decode cX9_haveSongs 1 = .ok (.istore_n 2, 1) := by decide +kernel
theorem dX9_haveSongs_2 : decode cX9_haveSongs 2 = .ok (.iload_n 2, 1) := by decide +kernel
theorem dX9_haveSongs_3 : decode cX9_haveSongs 3 = .ok (.aload_n 0, 1) := by decide +kernel
theorem dX9_haveSongs_4 : decode cX9_haveSongs 4 = .ok (.getfield 40, 3) := by decide +kernel
theorem dX9_haveSongs_7 : decode cX9_haveSongs 7 = .ok (.getfield 198, 3) := by decide +kernel
theorem dX9_haveSongs_10 : decode cX9_haveSongs 10 = .ok (.if_icmp .ge 39, 3) := by decide +kernel
theorem dX9_haveSongs_13 : decode cX9_haveSongs 13 = .ok (.iload_n 1, 1) := by decide +kernel
theorem dX9_haveSongs_14 : decode cX9_haveSongs 14 = .ok (.iload_n 2, 1) := by decide +kernel
theorem dX9_haveSongs_15 : decode cX9_haveSongs 15 = .ok (.invokestatic 444, 3) := by decide +kernel
theorem dX9_haveSongs_18 : decode cX9_haveSongs 18 = .ok (.ifCond .eq 25, 3) := by decide +kernel
theorem dX9_haveSongs_21 : decode cX9_haveSongs 21 = .ok (.aload_n 0, 1) := by decide +kernel
theorem dX9_haveSongs_22 : decode cX9_haveSongs 22 = .ok (.getfield 23, 3) := by decide +kernel
theorem dX9_haveSongs_25 : decode cX9_haveSongs 25 = .ok (.aload_n 0, 1) := by decide +kernel
theorem dX9_haveSongs_26 : decode cX9_haveSongs 26 = .ok (.getfield 40, 3) := by decide +kernel
theorem dX9_haveSongs_29 : decode cX9_haveSongs 29 = .ok (.getfield 219, 3) := by decide +kernel
theorem dX9_haveSongs_32 : decode cX9_haveSongs 32 = .ok (.iload_n 2, 1) := by decide +kernel
theorem dX9_haveSongs_33 : decode cX9_haveSongs 33 = .ok (.aaload, 1) := by decide +kernel
theorem dX9_haveSongs_34 : decode cX9_haveSongs 34 = .ok (.getfield 260, 3) := by decide +kernel
theorem dX9_haveSongs_37 : decode cX9_haveSongs 37 = .ok (.aaload, 1) := by decide +kernel
theorem dX9_haveSongs_38 : decode cX9_haveSongs 38 = .ok (.ifnonnull 5, 3) := by decide +kernel
theorem dX9_haveSongs_41 : decode cX9_haveSongs 41 = .ok (.iconst 0, 1) := by decide +kernel
theorem dX9_haveSongs_42 : decode cX9_haveSongs 42 = .ok (.ireturn, 1) := by decide +kernel
theorem dX9_haveSongs_43 : decode cX9_haveSongs 43 = .ok (.iinc 2 1, 3) := by decide +kernel
theorem dX9_haveSongs_46 : decode cX9_haveSongs 46 = .ok (.goto (-44), 3) := by decide +kernel
theorem dX9_haveSongs_49 : decode cX9_haveSongs 49 = .ok (.iconst 1, 1) := by decide +kernel
theorem dX9_haveSongs_50 : decode cX9_haveSongs 50 = .ok (.ireturn, 1) := by decide +kernel
def c_X9_haveSongs_L2 (F : Nat) (a2 : Nat) (x3 : Int32) : Nat → Int32 → z_Hp → Option (Int32 × z_Hp)
  | 0, _, _ => none
  | n + 1, x4, h5 => (if hT h5 a2 = 9 then (lt_ (hR h5 a2 6) (fun o6 => (nn o6 (fun a7 => (if hT h5 a7 = 6 then (if (hI h5 a7 1) ≤ x4 then (some (1, h5)) else (bI (c_X9_has F x3 x4 h5) (fun x9 h8 => (lt_ (fun (h11 : z_Hp) => (lt_ (x4 + 1) (fun x12 => (c_X9_haveSongs_L2 F a2 x3 n x12 h11)))) (fun (j43_10 : z_Hp → Option (Int32 × z_Hp)) => (if x9 = 0 then (j43_10 h8) else (if hT h8 a2 = 9 then (lt_ (hR h8 a2 2) (fun o13 => (if hT h8 a2 = 9 then (lt_ (hR h8 a2 6) (fun o14 => (nn o14 (fun a15 => (if hT h8 a15 = 6 then (lt_ (hR h8 a15 0) (fun o16 => (nn o16 (fun a17 => (if okA h8 a17 26 x4 = true then (lt_ (hR h8 a17 (ix x4)) (fun o18 => (nn o18 (fun a19 => (if hT h8 a19 = 5 then (nn o13 (fun a20 => (if okA h8 a20 25 (hI h8 a19 2) = true then (lt_ (hR h8 a20 (ix (hI h8 a19 2))) (fun o21 => (nl o21 (some (0, h8)) (fun a22 => (j43_10 h8))))) else none))) else none))))) else none))))) else none))))) else none))) else none))))))) else none))))) else none)
def c_X9_haveSongs (F : Nat) (a0 : Nat) (x1 : Int32) (h0 : z_Hp) : Option (Int32 × z_Hp) := (c_X9_haveSongs_L2 F a0 x1 F 0 h0)
set_option maxRecDepth 20000 in
set_option maxHeartbeats 4000000 in
theorem g_X9_haveSongs_L2 (F : Nat) (a2 : Nat) (x3 : Int32) : ∀ (n : Nat) (x4 : Int32) (h5 : z_Hp), z_G zi mi_X9_haveSongs 2 [(0, vr (some a2)), (1, vi x3), (2, vi x4)] [] h5 (c_X9_haveSongs_L2 F a2 x3 n x4 h5) := by
  intro n
  induction n with
  | zero => intro x4 h5; rw [c_X9_haveSongs_L2]; exact z_none
  | succ n ih =>
    intro x4 h5
    rw [c_X9_haveSongs_L2]
    refine z_iload_n (pc := 2) dX9_haveSongs_2 rfl 2 rfl (z_aload_n (pc := 3) dX9_haveSongs_3 rfl 0 rfl (z_getRl (pc := 4) fl_RX9_40 rfl dX9_haveSongs_4 (fun o6 => (?_))))
    refine z_nn (fun a7 ea7 => ?_)
    subst ea7
    refine z_getI (pc := 7) fl_RX9_198 rfl dX9_haveSongs_7 (?_)
    refine z_icmp_ge (pc := 10) (tgt := 49) dX9_haveSongs_10 (by decide) ?_ ?_
    · refine z_iconst (pc := 49) dX9_haveSongs_49 ic_1 (?_)
      exact z_iret (pc := 50) dX9_haveSongs_50 rfl rfl
    · refine z_iload_n (pc := 13) dX9_haveSongs_13 rfl 1 rfl (z_iload_n (pc := 14) dX9_haveSongs_14 rfl 2 rfl (z_callS_I (pc := 15) (avs := [vi x3, vi x4]) (st := []) rfl (t_X9_has F x3 x4 h5) ky_X9_has ws_X9_has wz_RX9_444 (rm_X9_haveSongs_X9_has) (Nat.le_of_ble_eq_true rfl) dX9_haveSongs_15 (fun x9 h8 => (?_))))
      refine z_jn (P := fun (j : z_Hp → Option (Int32 × z_Hp)) => ∀ (h11 : z_Hp), z_G zi mi_X9_haveSongs 43 [(0, vr (some a2)), (1, vi x3), (2, vi x4)] [] h11 (j h11)) (fun h11 => ?_) (fun j43_10 qj43_10 => ?_)
      · refine z_iincl (pc := 43) (L' := fun x12 => [(0, vr (some a2)), (1, vi x3), (2, vi x12)]) dX9_haveSongs_43 2 rfl ic_1 (Nat.le_of_ble_eq_true rfl) (fun _ => rfl) (fun x12 => (z_goto (pc := 46) (tgt := 2) dX9_haveSongs_46 (by decide) (?_)))
        exact ih x12 h11
      refine z_if_eq (pc := 18) (tgt := 43) dX9_haveSongs_18 (by decide) ?_ ?_
      · exact qj43_10 h8
      · refine z_aload_n (pc := 21) dX9_haveSongs_21 rfl 0 rfl (z_getRl (pc := 22) fl_RX9_23 rfl dX9_haveSongs_22 (fun o13 => (z_aload_n (pc := 25) dX9_haveSongs_25 rfl 0 rfl (z_getRl (pc := 26) fl_RX9_40 rfl dX9_haveSongs_26 (fun o14 => (?_))))))
        refine z_nn (fun a15 ea15 => ?_)
        subst ea15
        refine z_getRl (pc := 29) fl_RX9_219 rfl dX9_haveSongs_29 (fun o16 => (z_iload_n (pc := 32) dX9_haveSongs_32 rfl 2 rfl (?_)))
        refine z_nn (fun a17 ea17 => ?_)
        subst ea17
        refine z_aaloadl (pc := 33) 26 (by decide) dX9_haveSongs_33 (fun o18 => (?_))
        refine z_nn (fun a19 ea19 => ?_)
        subst ea19
        refine z_getI (pc := 34) fl_RX9_260 rfl dX9_haveSongs_34 (?_)
        refine z_nn (fun a20 ea20 => ?_)
        subst ea20
        refine z_aaloadl (pc := 37) 25 (by decide) dX9_haveSongs_37 (fun o21 => (?_))
        refine z_ifnonnull (pc := 38) (tgt := 43) dX9_haveSongs_38 (by decide) (fun ea22 => ?_) (fun a22 ea22 => ?_)
        · subst ea22
          refine z_iconst (pc := 41) dX9_haveSongs_41 ic_0 (?_)
          exact z_iret (pc := 42) dX9_haveSongs_42 rfl rfl
        · subst ea22
          exact qj43_10 h8
set_option maxRecDepth 20000 in
set_option maxHeartbeats 4000000 in
theorem t_X9_haveSongs (F : Nat) (a0 : Nat) (x1 : Int32) (h0 : z_Hp) : z_Ct zi mi_X9_haveSongs [vr (some a0), vi x1] h0 (c_X9_haveSongs F a0 x1 h0) := by
  refine z_entry (by decide) (Nat.le_of_ble_eq_true rfl) [(0, vr (some a0)), (1, vi x1)] rfl ?_
  unfold c_X9_haveSongs
  refine z_iconst (pc := 0) dX9_haveSongs_0 ic_0 (z_istore_n (pc := 1) (L' := [(0, vr (some a0)), (1, vi x1), (2, vi 0)]) dX9_haveSongs_1 rfl (Nat.le_of_ble_eq_true rfl) rfl (?_))
  refine g_X9_haveSongs_L2 F a0 x1 F 0 h0
