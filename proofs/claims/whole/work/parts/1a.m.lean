theorem dX0_init_0 : decode cX0_init 0 = .ok (.aload_n 0, 1) := by decide +kernel
theorem dX0_init_1 : decode cX0_init 1 = .ok (.invokespecial 3, 3) := by decide +kernel
theorem dX0_init_4 : decode cX0_init 4 = .ok (.aload_n 0, 1) := by decide +kernel
theorem dX0_init_5 : decode cX0_init 5 = .ok (.bipush 61, 2) := by decide +kernel
theorem dX0_init_7 : decode cX0_init 7 = .ok (.newarray .int, 2) := by decide +kernel
theorem dX0_init_9 : decode cX0_init 9 = .ok (.putfield 9, 3) := by decide +kernel
theorem dX0_init_12 : decode cX0_init 12 = .ok (.aload_n 0, 1) := by decide +kernel
theorem dX0_init_13 : decode cX0_init 13 = .ok (.bipush 10, 2) := by decide +kernel
theorem dX0_init_15 : decode cX0_init 15 = .ok (.newarray .int, 2) := by decide +kernel
theorem dX0_init_17 : decode cX0_init 17 = .ok (.putfield 15, 3) := by decide +kernel
theorem dX0_init_20 : decode cX0_init 20 = .ok (.aload_n 0, 1) := by decide +kernel
theorem dX0_init_21 : decode cX0_init 21 = .ok (.bipush 10, 2) := by decide +kernel
theorem dX0_init_23 : decode cX0_init 23 = .ok (.newarray .int, 2) := by decide +kernel
theorem dX0_init_25 : decode cX0_init 25 = .ok (.putfield 18, 3) := by decide +kernel
theorem dX0_init_28 : decode cX0_init 28 = .ok (.aload_n 0, 1) := by decide +kernel
theorem dX0_init_29 : decode cX0_init 29 = .ok (.bipush 20, 2) := by decide +kernel
theorem dX0_init_31 : decode cX0_init 31 = .ok (.newarray .int, 2) := by decide +kernel
theorem dX0_init_33 : decode cX0_init 33 = .ok (.putfield 21, 3) := by decide +kernel
theorem dX0_init_36 : decode cX0_init 36 = .ok (.aload_n 0, 1) := by decide +kernel
theorem dX0_init_37 : decode cX0_init 37 = .ok (.bipush 20, 2) := by decide +kernel
theorem dX0_init_39 : decode cX0_init 39 = .ok (.anewarray 24, 3) := by decide +kernel
theorem dX0_init_42 : decode cX0_init 42 = .ok (.putfield 26, 3) := by decide +kernel
theorem dX0_init_45 : decode cX0_init 45 = .ok (.return_, 1) := by decide +kernel
def c_X0_init (F : Nat) (a0 : Nat) (h0 : z_Hp) : Option (z_Hp) := (if inb 61 100000 = true then (nwo h0 20 (ix 61) (fun a1 h2 => (if hT h2 a0 = 0 then (lt_ (sR h2 a0 0 (some a1)) (fun h3 => (if inb 10 100000 = true then (nwo h3 20 (ix 10) (fun a4 h5 => (if hT h5 a0 = 0 then (lt_ (sR h5 a0 1 (some a4)) (fun h6 => (if inb 10 100000 = true then (nwo h6 20 (ix 10) (fun a7 h8 => (if hT h8 a0 = 0 then (lt_ (sR h8 a0 2 (some a7)) (fun h9 => (if inb 20 100000 = true then (nwo h9 20 (ix 20) (fun a10 h11 => (if hT h11 a0 = 0 then (lt_ (sR h11 a0 3 (some a10)) (fun h12 => (if inb 20 100000 = true then (nwo h12 25 (ix 20) (fun a13 h14 => (if hT h14 a0 = 0 then (lt_ (sR h14 a0 4 (some a13)) (fun h15 => (some h15))) else none))) else none))) else none))) else none))) else none))) else none))) else none))) else none))) else none))) else none)
set_option maxRecDepth 20000 in
set_option maxHeartbeats 4000000 in
theorem t_X0_init (F : Nat) (a0 : Nat) (h0 : z_Hp) : z_Ct zv mi_X0_init [vr (some a0)] h0 (c_X0_init F a0 h0) := by
  refine z_entry (by decide) (Nat.le_of_ble_eq_true rfl) [(0, vr (some a0))] rfl ?_
  unfold c_X0_init
  refine z_aload_n (pc := 0) dX0_init_0 rfl 0 rfl (z_objinit (pc := 1) wo_RX0_3 wo_im wo_cd (Nat.le_of_ble_eq_true rfl) (Nat.le_of_ble_eq_true rfl) (Nat.le_of_ble_eq_true rfl) dX0_init_1 (z_aload_n (pc := 4) dX0_init_4 rfl 0 rfl (z_bipush (pc := 5) dX0_init_5 bp_61 (z_newarrl (pc := 7) 20 (by decide) rfl wa_20 dX0_init_7 (fun a1 h2 => (z_putRl (pc := 9) fl_RX0_9 fin_X0_init_0_0 rfl dX0_init_9 (fun h3 => (z_aload_n (pc := 12) dX0_init_12 rfl 0 rfl (z_bipush (pc := 13) dX0_init_13 bp_10 (?_))))))))))
  refine z_newarrl (pc := 15) 20 (by decide) rfl wa_20 dX0_init_15 (fun a4 h5 => (z_putRl (pc := 17) fl_RX0_15 fin_X0_init_0_1 rfl dX0_init_17 (fun h6 => (z_aload_n (pc := 20) dX0_init_20 rfl 0 rfl (z_bipush (pc := 21) dX0_init_21 bp_10 (z_newarrl (pc := 23) 20 (by decide) rfl wa_20 dX0_init_23 (fun a7 h8 => (z_putRl (pc := 25) fl_RX0_18 fin_X0_init_0_2 rfl dX0_init_25 (fun h9 => (z_aload_n (pc := 28) dX0_init_28 rfl 0 rfl (z_bipush (pc := 29) dX0_init_29 bp_20 (?_))))))))))))
  refine z_newarrl (pc := 31) 20 (by decide) rfl wa_20 dX0_init_31 (fun a10 h11 => (z_putRl (pc := 33) fl_RX0_21 fin_X0_init_0_3 rfl dX0_init_33 (fun h12 => (z_aload_n (pc := 36) dX0_init_36 rfl 0 rfl (z_bipush (pc := 37) dX0_init_37 bp_20 (z_anewarrl (pc := 39) 25 (by decide) wl_RX0_24 dX0_init_39 (fun a13 h14 => (z_putRl (pc := 42) fl_RX0_26 fin_X0_init_0_4 rfl dX0_init_42 (fun h15 => (?_))))))))))
  exact z_vret (pc := 45) dX0_init_45 rfl
theorem dX7_size_0 : decode cX7_size 0 = .ok (.aload_n 0, 1) := by decide +kernel
theorem dX7_size_1 : decode cX7_size 1 = .ok (.getfield 29, 3) := by decide +kernel
theorem dX7_size_4 : decode cX7_size 4 = .ok (.iload_n 1, 1) := by decide +kernel
theorem dX7_size_5 : decode cX7_size 5 = .ok (.iaload, 1) := by decide +kernel
theorem dX7_size_6 : decode cX7_size 6 = .ok (.aload_n 0, 1) := by decide +kernel
theorem dX7_size_7 : decode cX7_size 7 = .ok (.getfield 25, 3) := by decide +kernel
theorem dX7_size_10 : decode cX7_size 10 = .ok (.iload_n 1, 1) := by decide +kernel
theorem dX7_size_11 : decode cX7_size 11 = .ok (.iaload, 1) := by decide +kernel
theorem dX7_size_12 : decode cX7_size 12 = .ok (.isub, 1) := by decide +kernel
theorem dX7_size_13 : decode cX7_size 13 = .ok (.ireturn, 1) := by decide +kernel
def c_X7_size (F : Nat) (a0 : Nat) (x1 : Int32) (h0 : z_Hp) : Option (Int32 × z_Hp) := (if hT h0 a0 = 7 then (lt_ (hR h0 a0 3) (fun o2 => (nn o2 (fun a3 => (if okA h0 a3 20 x1 = true then (if hT h0 a0 = 7 then (lt_ (hR h0 a0 2) (fun o4 => (nn o4 (fun a5 => (if okA h0 a5 20 x1 = true then (some ((hI h0 a3 (ix x1)) - (hI h0 a5 (ix x1)), h0)) else none))))) else none) else none))))) else none)
set_option maxRecDepth 20000 in
set_option maxHeartbeats 4000000 in
theorem t_X7_size (F : Nat) (a0 : Nat) (x1 : Int32) (h0 : z_Hp) : z_Ct zi mi_X7_size [vr (some a0), vi x1] h0 (c_X7_size F a0 x1 h0) := by
  refine z_entry (by decide) (Nat.le_of_ble_eq_true rfl) [(0, vr (some a0)), (1, vi x1)] rfl ?_
  unfold c_X7_size
  refine z_aload_n (pc := 0) dX7_size_0 rfl 0 rfl (z_getRl (pc := 1) fl_RX7_29 rfl dX7_size_1 (fun o2 => (z_iload_n (pc := 4) dX7_size_4 rfl 1 rfl (?_))))
  refine z_nn (fun a3 ea3 => ?_)
  subst ea3
  refine z_iaload (pc := 5) dX7_size_5 (z_aload_n (pc := 6) dX7_size_6 rfl 0 rfl (z_getRl (pc := 7) fl_RX7_25 rfl dX7_size_7 (fun o4 => (z_iload_n (pc := 10) dX7_size_10 rfl 1 rfl (?_)))))
  refine z_nn (fun a5 ea5 => ?_)
  subst ea5
  refine z_iaload (pc := 11) dX7_size_11 (z_isub (pc := 12) dX7_size_12 (?_))
  exact z_iret (pc := 13) dX7_size_13 rfl rfl
theorem dX7_hasSameToken_0 : decode cX7_hasSameToken 0 = .ok (.aload_n 0, 1) := by decide +kernel
theorem dX7_hasSameToken_1 : decode cX7_hasSameToken 1 = .ok (.iload_n 1, 1) := by decide +kernel
theorem dX7_hasSameToken_2 : decode cX7_hasSameToken 2 = .ok (.invokevirtual 49, 3) := by decide +kernel
theorem dX7_hasSameToken_5 : decode cX7_hasSameToken 5 = .ok (.istore 4, 2) := by decide +kernel
theorem dX7_hasSameToken_7 : decode cX7_hasSameToken 7 = .ok (.iload 4, 2) := by decide +kernel
theorem dX7_hasSameToken_9 : decode cX7_hasSameToken 9 = .ok (.aload_n 2, 1) := by decide +kernel
theorem dX7_hasSameToken_10 : decode cX7_hasSameToken 10 = .ok (.iload_n 3, 1) := by decide +kernel
theorem dX7_hasSameToken_11 : decode cX7_hasSameToken 11 = .ok (.invokevirtual 49, 3) := by decide +kernel
theorem dX7_hasSameToken_14 : decode cX7_hasSameToken 14 = .ok (.if_icmp .eq 5, 3) := by decide +kernel
theorem dX7_hasSameToken_17 : decode cX7_hasSameToken 17 = .ok (.iconst 0, 1) := by decide +kernel
theorem dX7_hasSameToken_18 : decode cX7_hasSameToken 18 = .ok (.ireturn, 1) := by decide +kernel
theorem dX7_hasSameToken_19 : decode cX7_hasSameToken 19 = .ok (.aload_n 0, 1) := by decide +kernel
theorem dX7_hasSameToken_20 : decode cX7_hasSameToken 20 = .ok (.getfield 25, 3) := by decide +kernel
theorem dX7_hasSameToken_23 : decode cX7_hasSameToken 23 = .ok (.iload_n 1, 1) := by decide +kernel
theorem dX7_hasSameToken_24 : decode cX7_hasSameToken 24 = .ok (.iaload, 1) := by decide +kernel
theorem dX7_hasSameToken_25 : decode cX7_hasSameToken 25 = .ok (.istore 5, 2) := by decide +kernel
theorem dX7_hasSameToken_27 : decode cX7_hasSameToken 27 = .ok (.aload_n 2, 1) := by decide +kernel
theorem dX7_hasSameToken_28 : decode cX7_hasSameToken 28 = .ok (.getfield 25, 3) := by decide +kernel
theorem dX7_hasSameToken_31 : decode cX7_hasSameToken 31 = .ok (.iload_n 3, 1) := by decide +kernel
theorem dX7_hasSameToken_32 : decode cX7_hasSameToken 32 = .ok (.iaload, 1) := by decide +kernel
theorem dX7_hasSameToken_33 : decode cX7_hasSameToken 33 = .ok (.istore 6, 2) := by decide +kernel
theorem dX7_hasSameToken_35 : decode cX7_hasSameToken 35 = .ok (.iconst 0, 1) := by decide +kernel
theorem dX7_hasSameToken_36 : decode cX7_hasSameToken 36 = .ok (.istore 7, 2) := by decide +kernel
theorem dX7_hasSameToken_38 : decode cX7_hasSameToken 38 = .ok (.iload 7, 2) := by decide +kernel
theorem dX7_hasSameToken_40 : decode cX7_hasSameToken 40 = .ok (.iload 4, 2) := by decide +kernel
theorem dX7_hasSameToken_42 : decode cX7_hasSameToken 42 = .ok (.if_icmp .ge 34, 3) := by decide +kernel
theorem dX7_hasSameToken_45 : decode cX7_hasSameToken 45 = .ok (.aload_n 0, 1) := by decide +kernel
theorem dX7_hasSameToken_46 : decode cX7_hasSameToken 46 = .ok (.getfield 15, 3) := by decide +kernel
theorem dX7_hasSameToken_49 : decode cX7_hasSameToken 49 = .ok (.iload 5, 2) := by decide +kernel
theorem dX7_hasSameToken_51 : decode cX7_hasSameToken 51 = .ok (.iload 7, 2) := by decide +kernel
theorem dX7_hasSameToken_53 : decode cX7_hasSameToken 53 = .ok (.iadd, 1) := by decide +kernel
theorem dX7_hasSameToken_54 : decode cX7_hasSameToken 54 = .ok (.baload, 1) := by decide +kernel
theorem dX7_hasSameToken_55 : decode cX7_hasSameToken 55 = .ok (.aload_n 2, 1) := by decide +kernel
theorem dX7_hasSameToken_56 : decode cX7_hasSameToken 56 = .ok (.getfield 15, 3) := by decide +kernel
theorem dX7_hasSameToken_59 : decode cX7_hasSameToken 59 = .ok (.iload 6, 2) := by decide +kernel
theorem dX7_hasSameToken_61 : decode cX7_hasSameToken 61 = .ok (.iload 7, 2) := by decide +kernel
theorem dX7_hasSameToken_63 : decode cX7_hasSameToken 63 = .ok (.iadd, 1) := by decide +kernel
theorem dX7_hasSameToken_64 : decode cX7_hasSameToken 64 = .ok (.baload, 1) := by decide +kernel
theorem dX7_hasSameToken_65 : decode cX7_hasSameToken 65 = .ok (.if_icmp .eq 5, 3) := by decide +kernel
theorem dX7_hasSameToken_68 : decode cX7_hasSameToken 68 = .ok (.iconst 0, 1) := by decide +kernel
theorem dX7_hasSameToken_69 : decode cX7_hasSameToken 69 = .ok (.ireturn, 1) := by decide +kernel
theorem dX7_hasSameToken_70 : decode cX7_hasSameToken 70 = .ok (.iinc 7 1, 3) := by decide +kernel
theorem dX7_hasSameToken_73 : decode cX7_hasSameToken 73 = .ok (.goto (-35), 3) := by decide +kernel
theorem dX7_hasSameToken_76 : decode cX7_hasSameToken 76 = .ok (.iconst 1, 1) := by decide +kernel
theorem dX7_hasSameToken_77 : decode cX7_hasSameToken 77 = .ok (.ireturn, 1) := by decide +kernel
def c_X7_hasSameToken_L38 (F : Nat) (a15 : Nat) (a16 : Nat) (x17 : Int32) (x18 : Int32) (x19 : Int32) : Nat → Int32 → z_Hp → Option (Int32 × z_Hp)
  | 0, _, _ => none
  | n + 1, x20, h21 => (if x17 ≤ x20 then (some (1, h21)) else (if hT h21 a15 = 7 then (lt_ (hR h21 a15 0) (fun o22 => (nn o22 (fun a23 => (if okA h21 a23 21 (x18 + x20) = true then (if hT h21 a16 = 7 then (lt_ (hR h21 a16 0) (fun o24 => (nn o24 (fun a25 => (if okA h21 a25 21 (x19 + x20) = true then (if (hI h21 a23 (ix (x18 + x20))) = (hI h21 a25 (ix (x19 + x20))) then (lt_ (x20 + 1) (fun x26 => (c_X7_hasSameToken_L38 F a15 a16 x17 x18 x19 n x26 h21))) else (some (0, h21))) else none))))) else none) else none))))) else none))
def c_X7_hasSameToken (F : Nat) (a0 : Nat) (x1 : Int32) (o2 : Option Nat) (x3 : Int32) (h0 : z_Hp) : Option (Int32 × z_Hp) := (if hT h0 a0 = 7 then (bI (c_X7_size F a0 x1 h0) (fun x5 h4 => (nn o2 (fun a6 => (if hT h4 a6 = 7 then (bI (c_X7_size F a6 x3 h4) (fun x8 h7 => (if x5 = x8 then (if hT h7 a0 = 7 then (lt_ (hR h7 a0 2) (fun o9 => (nn o9 (fun a10 => (if okA h7 a10 20 x1 = true then (lt_ (hI h7 a10 (ix x1)) (fun x11 => (if hT h7 a6 = 7 then (lt_ (hR h7 a6 2) (fun o12 => (nn o12 (fun a13 => (if okA h7 a13 20 x3 = true then (lt_ (hI h7 a13 (ix x3)) (fun x14 => (c_X7_hasSameToken_L38 F a0 a6 x5 x11 x14 F 0 h7))) else none))))) else none))) else none))))) else none) else (some (0, h7))))) else none))))) else none)
set_option maxRecDepth 20000 in
set_option maxHeartbeats 4000000 in
theorem g_X7_hasSameToken_L38 (F : Nat) (a15 : Nat) (a16 : Nat) (x17 : Int32) (x18 : Int32) (x19 : Int32) : ∀ (n : Nat) (x20 : Int32) (h21 : z_Hp), z_G zi mi_X7_hasSameToken 38 [(0, vr (some a15)), (2, vr (some a16)), (4, vi x17), (5, vi x18), (6, vi x19), (7, vi x20)] [] h21 (c_X7_hasSameToken_L38 F a15 a16 x17 x18 x19 n x20 h21) := by
  intro n
  induction n with
  | zero => intro x20 h21; rw [c_X7_hasSameToken_L38]; exact z_none
  | succ n ih =>
    intro x20 h21
    rw [c_X7_hasSameToken_L38]
    refine z_iload (pc := 38) dX7_hasSameToken_38 5 rfl (z_iload (pc := 40) dX7_hasSameToken_40 2 rfl (?_))
    refine z_icmp_ge (pc := 42) (tgt := 76) dX7_hasSameToken_42 (by decide) ?_ ?_
    · refine z_iconst (pc := 76) dX7_hasSameToken_76 ic_1 (?_)
      exact z_iret (pc := 77) dX7_hasSameToken_77 rfl rfl
    · refine z_aload_n (pc := 45) dX7_hasSameToken_45 rfl 0 rfl (z_getRl (pc := 46) fl_RX7_15 rfl dX7_hasSameToken_46 (fun o22 => (z_iload (pc := 49) dX7_hasSameToken_49 3 rfl (z_iload (pc := 51) dX7_hasSameToken_51 5 rfl (z_iadd (pc := 53) dX7_hasSameToken_53 (?_))))))
      refine z_nn (fun a23 ea23 => ?_)
      subst ea23
      refine z_baload (pc := 54) dX7_hasSameToken_54 (z_aload_n (pc := 55) dX7_hasSameToken_55 rfl 1 rfl (z_getRl (pc := 56) fl_RX7_15 rfl dX7_hasSameToken_56 (fun o24 => (z_iload (pc := 59) dX7_hasSameToken_59 4 rfl (z_iload (pc := 61) dX7_hasSameToken_61 5 rfl (z_iadd (pc := 63) dX7_hasSameToken_63 (?_)))))))
      refine z_nn (fun a25 ea25 => ?_)
      subst ea25
      refine z_baload (pc := 64) dX7_hasSameToken_64 (?_)
      refine z_icmp_eq (pc := 65) (tgt := 70) dX7_hasSameToken_65 (by decide) ?_ ?_
      · refine z_iincl (pc := 70) (L' := fun x26 => [(0, vr (some a15)), (2, vr (some a16)), (4, vi x17), (5, vi x18), (6, vi x19), (7, vi x26)]) dX7_hasSameToken_70 5 rfl ic_1 (Nat.le_of_ble_eq_true rfl) (fun _ => rfl) (fun x26 => (z_goto (pc := 73) (tgt := 38) dX7_hasSameToken_73 (by decide) (?_)))
        exact ih x26 h21
      · refine z_iconst (pc := 68) dX7_hasSameToken_68 ic_0 (?_)
        exact z_iret (pc := 69) dX7_hasSameToken_69 rfl rfl
set_option maxRecDepth 20000 in
set_option maxHeartbeats 4000000 in
theorem t_X7_hasSameToken (F : Nat) (a0 : Nat) (x1 : Int32) (o2 : Option Nat) (x3 : Int32) (h0 : z_Hp) : z_Ct zi mi_X7_hasSameToken [vr (some a0), vi x1, vr o2, vi x3] h0 (c_X7_hasSameToken F a0 x1 o2 x3 h0) := by
  refine z_entry (by decide) (Nat.le_of_ble_eq_true rfl) [(0, vr (some a0)), (1, vi x1), (2, vr o2), (3, vi x3)] rfl ?_
  unfold c_X7_hasSameToken
  refine z_aload_n (pc := 0) dX7_hasSameToken_0 rfl 0 rfl (z_iload_n (pc := 1) dX7_hasSameToken_1 rfl 1 rfl (z_callV_I (pc := 2) (avs := [vi x1]) (st := []) rfl (q := (RX7, TX7, 5)) rfl rfl (t_X7_size F a0 x1 h0) ky_X7_size wm_X7_size we_X7_size wz_RX7_49 (rm_X7_hasSameToken_X7_size) (Nat.le_of_ble_eq_true rfl) dX7_hasSameToken_2 (fun x5 h4 => (?_))))
  refine z_istore (pc := 5) (L' := [(0, vr (some a0)), (1, vi x1), (2, vr o2), (3, vi x3), (4, vi x5)]) dX7_hasSameToken_5 (Nat.le_of_ble_eq_true rfl) rfl (z_iload (pc := 7) dX7_hasSameToken_7 4 rfl (z_aload_n (pc := 9) dX7_hasSameToken_9 rfl 2 rfl (z_iload_n (pc := 10) dX7_hasSameToken_10 rfl 3 rfl (?_))))
  refine z_nn (fun a6 ea6 => ?_)
  subst ea6
  refine z_callV_I (pc := 11) (avs := [vi x3]) (st := [vi x5]) rfl (q := (RX7, TX7, 5)) rfl rfl (t_X7_size F a6 x3 h4) ky_X7_size wm_X7_size we_X7_size wz_RX7_49 (rm_X7_hasSameToken_X7_size) (Nat.le_of_ble_eq_true rfl) dX7_hasSameToken_11 (fun x8 h7 => (?_))
  refine z_icmp_eq (pc := 14) (tgt := 19) dX7_hasSameToken_14 (by decide) ?_ ?_
  · refine z_aload_n (pc := 19) dX7_hasSameToken_19 rfl 0 rfl (z_getRl (pc := 20) fl_RX7_25 rfl dX7_hasSameToken_20 (fun o9 => (z_iload_n (pc := 23) dX7_hasSameToken_23 rfl 1 rfl (?_))))
    refine z_nn (fun a10 ea10 => ?_)
    subst ea10
    refine z_iaload (pc := 24) dX7_hasSameToken_24 (z_istorel (pc := 25) (L' := fun x11 => [(0, vr (some a0)), (1, vi x1), (2, vr (some a6)), (3, vi x3), (4, vi x5), (5, vi x11)]) dX7_hasSameToken_25 (Nat.le_of_ble_eq_true rfl) (fun _ => rfl) (fun x11 => (z_aload_n (pc := 27) dX7_hasSameToken_27 rfl 2 rfl (z_getRl (pc := 28) fl_RX7_25 rfl dX7_hasSameToken_28 (fun o12 => (z_iload_n (pc := 31) dX7_hasSameToken_31 rfl 3 rfl (?_)))))))
    refine z_nn (fun a13 ea13 => ?_)
    subst ea13
    refine z_iaload (pc := 32) dX7_hasSameToken_32 (z_istorel (pc := 33) (L' := fun x14 => [(0, vr (some a0)), (1, vi x1), (2, vr (some a6)), (3, vi x3), (4, vi x5), (5, vi x11), (6, vi x14)]) dX7_hasSameToken_33 (Nat.le_of_ble_eq_true rfl) (fun _ => rfl) (fun x14 => (z_iconst (pc := 35) dX7_hasSameToken_35 ic_0 (z_istore (pc := 36) (L' := [(0, vr (some a0)), (1, vi x1), (2, vr (some a6)), (3, vi x3), (4, vi x5), (5, vi x11), (6, vi x14), (7, vi 0)]) dX7_hasSameToken_36 (Nat.le_of_ble_eq_true rfl) rfl (?_)))))
    refine z_sub [0, 2, 4, 5, 6, 7] rfl (g_X7_hasSameToken_L38 F a0 a6 x5 x11 x14 F 0 h7)
  · refine z_iconst (pc := 17) dX7_hasSameToken_17 ic_0 (?_)
    exact z_iret (pc := 18) dX7_hasSameToken_18 rfl rfl
theorem dJ9_min_7cf53_0 : decode cJ9_min_7cf53 0 = .ok (.iload_n 0, 1) := by decide +kernel
theorem dJ9_min_7cf53_1 : decode cJ9_min_7cf53 1 = .ok (.iload_n 1, 1) := by decide +kernel
theorem dJ9_min_7cf53_2 : decode cJ9_min_7cf53 2 = .ok (.if_icmp .gt 7, 3) := by decide +kernel
theorem dJ9_min_7cf53_5 : decode cJ9_min_7cf53 5 = .ok (.iload_n 0, 1) := by decide +kernel
theorem dJ9_min_7cf53_6 : decode cJ9_min_7cf53 6 = .ok (.goto 4, 3) := by decide +kernel
theorem dJ9_min_7cf53_9 : decode cJ9_min_7cf53 9 = .ok (.iload_n 1, 1) := by decide +kernel
theorem dJ9_min_7cf53_10 : decode cJ9_min_7cf53 10 = .ok (.ireturn, 1) := by decide +kernel
def c_J9_min_7cf53 (F : Nat) (x1 : Int32) (x2 : Int32) (h0 : z_Hp) : Option (Int32 × z_Hp) := (if x2 < x1 then (some (x2, h0)) else (some (x1, h0)))
set_option maxRecDepth 20000 in
set_option maxHeartbeats 4000000 in
theorem t_J9_min_7cf53 (F : Nat) (x1 : Int32) (x2 : Int32) (h0 : z_Hp) : z_Ct zi mi_J9_min_7cf53 [vi x1, vi x2] h0 (c_J9_min_7cf53 F x1 x2 h0) := by
  refine z_entryF pf_min (Nat.le_of_ble_eq_true rfl) [(0, vi x1), (1, vi x2)] rfl ?_
  unfold c_J9_min_7cf53
  refine z_iload_n (pc := 0) dJ9_min_7cf53_0 rfl 0 rfl (z_iload_n (pc := 1) dJ9_min_7cf53_1 rfl 1 rfl (?_))
  refine z_icmp_gt (pc := 2) (tgt := 9) dJ9_min_7cf53_2 (by decide) ?_ ?_
  · refine z_iload_n (pc := 9) dJ9_min_7cf53_9 rfl 1 rfl (?_)
    exact z_iret (pc := 10) dJ9_min_7cf53_10 rfl rfl
  · refine z_iload_n (pc := 5) dJ9_min_7cf53_5 rfl 0 rfl (z_goto (pc := 6) (tgt := 10) dJ9_min_7cf53_6 (by decide) (?_))
    exact z_iret (pc := 10) dJ9_min_7cf53_10 rfl rfl
theorem dX0_changesBetween_0 : decode cX0_changesBetween 0 = .ok (.iconst 0, 1) := by decide +kernel
theorem dX0_changesBetween_1 : decode cX0_changesBetween 1 = .ok (.istore_n 3, 1) := by decide +kernel
theorem dX0_changesBetween_2 : decode cX0_changesBetween 2 = .ok (.iload_n 3, 1) := by decide +kernel
theorem dX0_changesBetween_3 : decode cX0_changesBetween 3 = .ok (.aload_n 2, 1) := by decide +kernel
theorem dX0_changesBetween_4 : decode cX0_changesBetween 4 = .ok (.getfield 30, 3) := by decide +kernel
theorem dX0_changesBetween_7 : decode cX0_changesBetween 7 = .ok (.if_icmp .gt 16, 3) := by decide +kernel
theorem dX0_changesBetween_10 : decode cX0_changesBetween 10 = .ok (.aload_n 0, 1) := by decide +kernel
theorem dX0_changesBetween_11 : decode cX0_changesBetween 11 = .ok (.getfield 9, 3) := by decide +kernel
theorem dX0_changesBetween_14 : decode cX0_changesBetween 14 = .ok (.iload_n 3, 1) := by decide +kernel
theorem dX0_changesBetween_15 : decode cX0_changesBetween 15 = .ok (.iload_n 3, 1) := by decide +kernel
theorem dX0_changesBetween_16 : decode cX0_changesBetween 16 = .ok (.iastore, 1) := by decide +kernel
theorem dX0_changesBetween_17 : decode cX0_changesBetween 17 = .ok (.iinc 3 1, 3) := by decide +kernel
theorem dX0_changesBetween_20 : decode cX0_changesBetween 20 = .ok (.goto (-18), 3) := by decide +kernel
theorem dX0_changesBetween_23 : decode cX0_changesBetween 23 = .ok (.iconst 0, 1) := by decide +kernel
theorem dX0_changesBetween_24 : decode cX0_changesBetween 24 = .ok (.istore_n 3, 1) := by decide +kernel
theorem dX0_changesBetween_25 : decode cX0_changesBetween 25 = .ok (.iload_n 3, 1) := by decide +kernel
theorem dX0_changesBetween_26 : decode cX0_changesBetween 26 = .ok (.aload_n 1, 1) := by decide +kernel
theorem dX0_changesBetween_27 : decode cX0_changesBetween 27 = .ok (.getfield 30, 3) := by decide +kernel
theorem dX0_changesBetween_30 : decode cX0_changesBetween 30 = .ok (.if_icmp .ge 107, 3) := by decide +kernel
theorem dX0_changesBetween_33 : decode cX0_changesBetween 33 = .ok (.aload_n 0, 1) := by decide +kernel
theorem dX0_changesBetween_34 : decode cX0_changesBetween 34 = .ok (.getfield 9, 3) := by decide +kernel
theorem dX0_changesBetween_37 : decode cX0_changesBetween 37 = .ok (.iconst 0, 1) := by decide +kernel
theorem dX0_changesBetween_38 : decode cX0_changesBetween 38 = .ok (.iaload, 1) := by decide +kernel
theorem dX0_changesBetween_39 : decode cX0_changesBetween 39 = .ok (.istore 4, 2) := by decide +kernel
theorem dX0_changesBetween_41 : decode cX0_changesBetween 41 = .ok (.aload_n 0, 1) := by decide +kernel
theorem dX0_changesBetween_42 : decode cX0_changesBetween 42 = .ok (.getfield 9, 3) := by decide +kernel
theorem dX0_changesBetween_45 : decode cX0_changesBetween 45 = .ok (.iconst 0, 1) := by decide +kernel
theorem dX0_changesBetween_46 : decode cX0_changesBetween 46 = .ok (.iload_n 3, 1) := by decide +kernel
theorem dX0_changesBetween_47 : decode cX0_changesBetween 47 = .ok (.iconst 1, 1) := by decide +kernel
theorem dX0_changesBetween_48 : decode cX0_changesBetween 48 = .ok (.iadd, 1) := by decide +kernel
theorem dX0_changesBetween_49 : decode cX0_changesBetween 49 = .ok (.iastore, 1) := by decide +kernel
theorem dX0_changesBetween_50 : decode cX0_changesBetween 50 = .ok (.iconst 0, 1) := by decide +kernel
theorem dX0_changesBetween_51 : decode cX0_changesBetween 51 = .ok (.istore 5, 2) := by decide +kernel
theorem dX0_changesBetween_53 : decode cX0_changesBetween 53 = .ok (.iload 5, 2) := by decide +kernel
theorem dX0_changesBetween_55 : decode cX0_changesBetween 55 = .ok (.aload_n 2, 1) := by decide +kernel
theorem dX0_changesBetween_56 : decode cX0_changesBetween 56 = .ok (.getfield 30, 3) := by decide +kernel
theorem dX0_changesBetween_59 : decode cX0_changesBetween 59 = .ok (.if_icmp .ge 72, 3) := by decide +kernel
theorem dX0_changesBetween_62 : decode cX0_changesBetween 62 = .ok (.aload_n 0, 1) := by decide +kernel
theorem dX0_changesBetween_63 : decode cX0_changesBetween 63 = .ok (.getfield 9, 3) := by decide +kernel
theorem dX0_changesBetween_66 : decode cX0_changesBetween 66 = .ok (.iload 5, 2) := by decide +kernel
theorem dX0_changesBetween_68 : decode cX0_changesBetween 68 = .ok (.iconst 1, 1) := by decide +kernel
theorem dX0_changesBetween_69 : decode cX0_changesBetween 69 = .ok (.iadd, 1) := by decide +kernel
theorem dX0_changesBetween_70 : decode cX0_changesBetween 70 = .ok (.iaload, 1) := by decide +kernel
theorem dX0_changesBetween_71 : decode cX0_changesBetween 71 = .ok (.istore 6, 2) := by decide +kernel
theorem dX0_changesBetween_73 : decode cX0_changesBetween 73 = .ok (.aload_n 1, 1) := by decide +kernel
theorem dX0_changesBetween_74 : decode cX0_changesBetween 74 = .ok (.iload_n 3, 1) := by decide +kernel
theorem dX0_changesBetween_75 : decode cX0_changesBetween 75 = .ok (.aload_n 2, 1) := by decide +kernel
theorem dX0_changesBetween_76 : decode cX0_changesBetween 76 = .ok (.iload 5, 2) := by decide +kernel
theorem dX0_changesBetween_78 : decode cX0_changesBetween 78 = .ok (.invokevirtual 34, 3) := by decide +kernel
theorem dX0_changesBetween_81 : decode cX0_changesBetween 81 = .ok (.istore 7, 2) := by decide +kernel
theorem dX0_changesBetween_83 : decode cX0_changesBetween 83 = .ok (.aload_n 0, 1) := by decide +kernel
theorem dX0_changesBetween_84 : decode cX0_changesBetween 84 = .ok (.getfield 9, 3) := by decide +kernel
theorem dX0_changesBetween_87 : decode cX0_changesBetween 87 = .ok (.iload 5, 2) := by decide +kernel
theorem dX0_changesBetween_89 : decode cX0_changesBetween 89 = .ok (.iconst 1, 1) := by decide +kernel
theorem dX0_changesBetween_90 : decode cX0_changesBetween 90 = .ok (.iadd, 1) := by decide +kernel
theorem dX0_changesBetween_91 : decode cX0_changesBetween 91 = .ok (.iload 7, 2) := by decide +kernel
theorem dX0_changesBetween_93 : decode cX0_changesBetween 93 = .ok (.ifCond .eq 8, 3) := by decide +kernel
theorem dX0_changesBetween_96 : decode cX0_changesBetween 96 = .ok (.iload 4, 2) := by decide +kernel
theorem dX0_changesBetween_98 : decode cX0_changesBetween 98 = .ok (.goto 22, 3) := by decide +kernel
theorem dX0_changesBetween_101 : decode cX0_changesBetween 101 = .ok (.iconst 1, 1) := by decide +kernel
theorem dX0_changesBetween_102 : decode cX0_changesBetween 102 = .ok (.iload 4, 2) := by decide +kernel
theorem dX0_changesBetween_104 : decode cX0_changesBetween 104 = .ok (.iload 6, 2) := by decide +kernel
theorem dX0_changesBetween_106 : decode cX0_changesBetween 106 = .ok (.aload_n 0, 1) := by decide +kernel
theorem dX0_changesBetween_107 : decode cX0_changesBetween 107 = .ok (.getfield 9, 3) := by decide +kernel
theorem dX0_changesBetween_110 : decode cX0_changesBetween 110 = .ok (.iload 5, 2) := by decide +kernel
theorem dX0_changesBetween_112 : decode cX0_changesBetween 112 = .ok (.iaload, 1) := by decide +kernel
theorem dX0_changesBetween_113 : decode cX0_changesBetween 113 = .ok (.invokestatic 38, 3) := by decide +kernel
theorem dX0_changesBetween_116 : decode cX0_changesBetween 116 = .ok (.invokestatic 38, 3) := by decide +kernel
theorem dX0_changesBetween_119 : decode cX0_changesBetween 119 = .ok (.iadd, 1) := by decide +kernel
theorem dX0_changesBetween_120 : decode cX0_changesBetween 120 = .ok (.iastore, 1) := by decide +kernel
theorem dX0_changesBetween_121 : decode cX0_changesBetween 121 = .ok (.iload 6, 2) := by decide +kernel
theorem dX0_changesBetween_123 : decode cX0_changesBetween 123 = .ok (.istore 4, 2) := by decide +kernel
theorem dX0_changesBetween_125 : decode cX0_changesBetween 125 = .ok (.iinc 5 1, 3) := by decide +kernel
theorem dX0_changesBetween_128 : decode cX0_changesBetween 128 = .ok (.goto (-75), 3) := by decide +kernel
theorem dX0_changesBetween_131 : decode cX0_changesBetween 131 = .ok (.iinc 3 1, 3) := by decide +kernel
theorem dX0_changesBetween_134 : decode cX0_changesBetween 134 = .ok (.goto (-109), 3) := by decide +kernel
theorem dX0_changesBetween_137 : decode cX0_changesBetween 137 = .ok (.aload_n 0, 1) := by decide +kernel
theorem dX0_changesBetween_138 : decode cX0_changesBetween 138 = .ok (.getfield 9, 3) := by decide +kernel
theorem dX0_changesBetween_141 : decode cX0_changesBetween 141 = .ok (.aload_n 2, 1) := by decide +kernel
theorem dX0_changesBetween_142 : decode cX0_changesBetween 142 = .ok (.getfield 30, 3) := by decide +kernel
theorem dX0_changesBetween_145 : decode cX0_changesBetween 145 = .ok (.iaload, 1) := by decide +kernel
theorem dX0_changesBetween_146 : decode cX0_changesBetween 146 = .ok (.ireturn, 1) := by decide +kernel
def c_X0_changesBetween_L2 (F : Nat) (a3 : Nat) (o4 : Option Nat) (o5 : Option Nat) (k23 : z_Hp → Option (Int32 × z_Hp)) : Nat → Int32 → z_Hp → Option (Int32 × z_Hp)
  | 0, _, _ => none
  | n + 1, x6, h7 => (nn o5 (fun a9 => (if hT h7 a9 = 7 then (if (hI h7 a9 4) < x6 then (k23 h7) else (if hT h7 a3 = 0 then (lt_ (hR h7 a3 0) (fun o10 => (nn o10 (fun a11 => (if okA h7 a11 20 x6 = true then (lt_ (sI h7 a11 (ix x6) x6) (fun h12 => (lt_ (x6 + 1) (fun x13 => (c_X0_changesBetween_L2 F a3 o4 o5 k23 n x13 h12))))) else none))))) else none)) else none)))
def c_X0_changesBetween_L53 (F : Nat) (a30 : Nat) (a31 : Nat) (o32 : Option Nat) (x33 : Int32) (k131 : z_Hp → Option (Int32 × z_Hp)) : Nat → Int32 → Int32 → z_Hp → Option (Int32 × z_Hp)
  | 0, _, _, _ => none
  | n + 1, x34, x35, h36 => (nn o32 (fun a38 => (if hT h36 a38 = 7 then (if (hI h36 a38 4) ≤ x35 then (k131 h36) else (if hT h36 a30 = 0 then (lt_ (hR h36 a30 0) (fun o39 => (nn o39 (fun a40 => (if okA h36 a40 20 (x35 + 1) = true then (lt_ (hI h36 a40 (ix (x35 + 1))) (fun x41 => (if hT h36 a31 = 7 then (bI (c_X7_hasSameToken F a31 x33 (some a38) x35 h36) (fun x43 h42 => (if hT h42 a30 = 0 then (lt_ (hR h42 a30 0) (fun o44 => (lt_ (fun (x46 : Int32) (h47 : z_Hp) => (nn o44 (fun a48 => (if okA h47 a48 20 (x35 + 1) = true then (lt_ (sI h47 a48 (ix (x35 + 1)) x46) (fun h49 => (lt_ (x35 + 1) (fun x50 => (c_X0_changesBetween_L53 F a30 a31 o32 x33 k131 n x41 x50 h49))))) else none)))) (fun (j120_45 : Int32 → z_Hp → Option (Int32 × z_Hp)) => (if x43 = 0 then (if hT h42 a30 = 0 then (lt_ (hR h42 a30 0) (fun o51 => (nn o51 (fun a52 => (if okA h42 a52 20 x35 = true then (bI (c_J9_min_7cf53 F x41 (hI h42 a52 (ix x35)) h42) (fun x54 h53 => (bI (c_J9_min_7cf53 F x34 x54 h53) (fun x56 h55 => (j120_45 (1 + x56) h55))))) else none))))) else none) else (j120_45 x34 h42)))))) else none))) else none))) else none))))) else none)) else none)))
def c_X0_changesBetween_L25 (F : Nat) (a15 : Nat) (o16 : Option Nat) (o17 : Option Nat) : Nat → Int32 → z_Hp → Option (Int32 × z_Hp)
  | 0, _, _ => none
  | n + 1, x18, h19 => (nn o16 (fun a20 => (if hT h19 a20 = 7 then (if (hI h19 a20 4) ≤ x18 then (if hT h19 a15 = 0 then (lt_ (hR h19 a15 0) (fun o21 => (nn o17 (fun a22 => (if hT h19 a22 = 7 then (nn o21 (fun a23 => (if okA h19 a23 20 (hI h19 a22 4) = true then (some (hI h19 a23 (ix (hI h19 a22 4)), h19)) else none))) else none))))) else none) else (if hT h19 a15 = 0 then (lt_ (hR h19 a15 0) (fun o24 => (nn o24 (fun a25 => (if okA h19 a25 20 0 = true then (lt_ (hI h19 a25 (ix 0)) (fun x26 => (if hT h19 a15 = 0 then (lt_ (hR h19 a15 0) (fun o27 => (nn o27 (fun a28 => (if okA h19 a28 20 0 = true then (lt_ (sI h19 a28 (ix 0) (x18 + 1)) (fun h29 => (c_X0_changesBetween_L53 F a15 a20 o17 x18 (fun h57 => (lt_ (x18 + 1) (fun x58 => (c_X0_changesBetween_L25 F a15 o16 o17 n x58 h57)))) F x26 0 h29))) else none))))) else none))) else none))))) else none)) else none)))
def c_X0_changesBetween (F : Nat) (a0 : Nat) (o1 : Option Nat) (o2 : Option Nat) (h0 : z_Hp) : Option (Int32 × z_Hp) := (c_X0_changesBetween_L2 F a0 o1 o2 (fun h14 => (c_X0_changesBetween_L25 F a0 o1 o2 F 0 h14)) F 0 h0)
set_option maxRecDepth 20000 in
set_option maxHeartbeats 4000000 in
theorem g_X0_changesBetween_L2 (F : Nat) (a3 : Nat) (o4 : Option Nat) (o5 : Option Nat) (k23 : z_Hp → Option (Int32 × z_Hp)) (qk23 : ∀ (h8 : z_Hp), z_G zi mi_X0_changesBetween 23 [(0, vr (some a3)), (1, vr o4), (2, vr o5)] [] h8 (k23 h8)) : ∀ (n : Nat) (x6 : Int32) (h7 : z_Hp), z_G zi mi_X0_changesBetween 2 [(0, vr (some a3)), (1, vr o4), (2, vr o5), (3, vi x6)] [] h7 (c_X0_changesBetween_L2 F a3 o4 o5 k23 n x6 h7) := by
  intro n
  induction n with
  | zero => intro x6 h7; rw [c_X0_changesBetween_L2]; exact z_none
  | succ n ih =>
    intro x6 h7
    rw [c_X0_changesBetween_L2]
    refine z_iload_n (pc := 2) dX0_changesBetween_2 rfl 3 rfl (z_aload_n (pc := 3) dX0_changesBetween_3 rfl 2 rfl (?_))
    refine z_nn (fun a9 ea9 => ?_)
    subst ea9
    refine z_getI (pc := 4) fl_RX0_30 rfl dX0_changesBetween_4 (?_)
    refine z_icmp_gt (pc := 7) (tgt := 23) dX0_changesBetween_7 (by decide) ?_ ?_
    · exact z_sub [0, 1, 2] rfl (qk23 h7)
    · refine z_aload_n (pc := 10) dX0_changesBetween_10 rfl 0 rfl (z_getRl (pc := 11) fl_RX0_9 rfl dX0_changesBetween_11 (fun o10 => (z_iload_n (pc := 14) dX0_changesBetween_14 rfl 3 rfl (z_iload_n (pc := 15) dX0_changesBetween_15 rfl 3 rfl (?_)))))
      refine z_nn (fun a11 ea11 => ?_)
      subst ea11
      refine z_iastorel (pc := 16) dX0_changesBetween_16 (fun h12 => (z_iincl (pc := 17) (L' := fun x13 => [(0, vr (some a3)), (1, vr o4), (2, vr (some a9)), (3, vi x13)]) dX0_changesBetween_17 3 rfl ic_1 (Nat.le_of_ble_eq_true rfl) (fun _ => rfl) (fun x13 => (z_goto (pc := 20) (tgt := 2) dX0_changesBetween_20 (by decide) (?_)))))
      exact ih x13 h12
set_option maxRecDepth 20000 in
set_option maxHeartbeats 4000000 in
theorem g_X0_changesBetween_L53 (F : Nat) (a30 : Nat) (a31 : Nat) (o32 : Option Nat) (x33 : Int32) (k131 : z_Hp → Option (Int32 × z_Hp)) (qk131 : ∀ (h37 : z_Hp), z_G zi mi_X0_changesBetween 131 [(0, vr (some a30)), (1, vr (some a31)), (2, vr o32), (3, vi x33)] [] h37 (k131 h37)) : ∀ (n : Nat) (x34 : Int32) (x35 : Int32) (h36 : z_Hp), z_G zi mi_X0_changesBetween 53 [(0, vr (some a30)), (1, vr (some a31)), (2, vr o32), (3, vi x33), (4, vi x34), (5, vi x35)] [] h36 (c_X0_changesBetween_L53 F a30 a31 o32 x33 k131 n x34 x35 h36) := by
  intro n
  induction n with
  | zero => intro x34 x35 h36; rw [c_X0_changesBetween_L53]; exact z_none
  | succ n ih =>
    intro x34 x35 h36
    rw [c_X0_changesBetween_L53]
    refine z_iload (pc := 53) dX0_changesBetween_53 5 rfl (z_aload_n (pc := 55) dX0_changesBetween_55 rfl 2 rfl (?_))
    refine z_nn (fun a38 ea38 => ?_)
    subst ea38
    refine z_getI (pc := 56) fl_RX0_30 rfl dX0_changesBetween_56 (?_)
    refine z_icmp_ge (pc := 59) (tgt := 131) dX0_changesBetween_59 (by decide) ?_ ?_
    · exact z_sub [0, 1, 2, 3] rfl (qk131 h36)
    · refine z_aload_n (pc := 62) dX0_changesBetween_62 rfl 0 rfl (z_getRl (pc := 63) fl_RX0_9 rfl dX0_changesBetween_63 (fun o39 => (z_iload (pc := 66) dX0_changesBetween_66 5 rfl (z_iconst (pc := 68) dX0_changesBetween_68 ic_1 (z_iadd (pc := 69) dX0_changesBetween_69 (?_))))))
      refine z_nn (fun a40 ea40 => ?_)
      subst ea40
      refine z_iaload (pc := 70) dX0_changesBetween_70 (z_istorel (pc := 71) (L' := fun x41 => [(0, vr (some a30)), (1, vr (some a31)), (2, vr (some a38)), (3, vi x33), (4, vi x34), (5, vi x35), (6, vi x41)]) dX0_changesBetween_71 (Nat.le_of_ble_eq_true rfl) (fun _ => rfl) (fun x41 => (z_aload_n (pc := 73) dX0_changesBetween_73 rfl 1 rfl (z_iload_n (pc := 74) dX0_changesBetween_74 rfl 3 rfl (z_aload_n (pc := 75) dX0_changesBetween_75 rfl 2 rfl (z_iload (pc := 76) dX0_changesBetween_76 5 rfl (z_callV_I (pc := 78) (avs := [vi x33, vr (some a38), vi x35]) (st := []) rfl (q := (RX7, TX7, 5)) rfl rfl (t_X7_hasSameToken F a31 x33 (some a38) x35 h36) ky_X7_hasSameToken wm_X7_hasSameToken we_X7_hasSameToken wz_RX0_34 (rm_X0_changesBetween_X7_hasSameToken) (Nat.le_of_ble_eq_true rfl) dX0_changesBetween_78 (fun x43 h42 => (?_)))))))))
      refine z_istore (pc := 81) (L' := [(0, vr (some a30)), (1, vr (some a31)), (2, vr (some a38)), (3, vi x33), (4, vi x34), (5, vi x35), (6, vi x41), (7, vi x43)]) dX0_changesBetween_81 (Nat.le_of_ble_eq_true rfl) rfl (z_aload_n (pc := 83) dX0_changesBetween_83 rfl 0 rfl (z_getRl (pc := 84) fl_RX0_9 rfl dX0_changesBetween_84 (fun o44 => (z_iload (pc := 87) dX0_changesBetween_87 5 rfl (z_iconst (pc := 89) dX0_changesBetween_89 ic_1 (z_iadd (pc := 90) dX0_changesBetween_90 (z_iload (pc := 91) dX0_changesBetween_91 7 rfl (?_))))))))
      refine z_jn (P := fun (j : Int32 → z_Hp → Option (Int32 × z_Hp)) => ∀ (x46 : Int32) (h47 : z_Hp), z_G zi mi_X0_changesBetween 120 [(0, vr (some a30)), (1, vr (some a31)), (2, vr (some a38)), (3, vi x33), (5, vi x35), (6, vi x41)] [vi x46, vi (x35 + 1), vr o44] h47 (j x46 h47)) (fun x46 h47 => ?_) (fun j120_45 qj120_45 => ?_)
      · refine z_nn (fun a48 ea48 => ?_)
        subst ea48
        refine z_iastorel (pc := 120) dX0_changesBetween_120 (fun h49 => (z_iload (pc := 121) dX0_changesBetween_121 5 rfl (z_istore (pc := 123) (L' := [(0, vr (some a30)), (1, vr (some a31)), (2, vr (some a38)), (3, vi x33), (4, vi x41), (5, vi x35), (6, vi x41)]) dX0_changesBetween_123 (Nat.le_of_ble_eq_true rfl) rfl (z_iincl (pc := 125) (L' := fun x50 => [(0, vr (some a30)), (1, vr (some a31)), (2, vr (some a38)), (3, vi x33), (4, vi x41), (5, vi x50), (6, vi x41)]) dX0_changesBetween_125 5 rfl ic_1 (Nat.le_of_ble_eq_true rfl) (fun _ => rfl) (fun x50 => (z_goto (pc := 128) (tgt := 53) dX0_changesBetween_128 (by decide) (?_)))))))
        exact z_sub [0, 1, 2, 3, 4, 5] rfl (ih x41 x50 h49)
      refine z_if_eq (pc := 93) (tgt := 101) dX0_changesBetween_93 (by decide) ?_ ?_
      · refine z_iconst (pc := 101) dX0_changesBetween_101 ic_1 (z_iload (pc := 102) dX0_changesBetween_102 4 rfl (z_iload (pc := 104) dX0_changesBetween_104 6 rfl (z_aload_n (pc := 106) dX0_changesBetween_106 rfl 0 rfl (z_getRl (pc := 107) fl_RX0_9 rfl dX0_changesBetween_107 (fun o51 => (z_iload (pc := 110) dX0_changesBetween_110 5 rfl (?_)))))))
        refine z_nn (fun a52 ea52 => ?_)
        subst ea52
        refine z_iaload (pc := 112) dX0_changesBetween_112 (z_callS_I (pc := 113) (avs := [vi x41, vi (hI h42 a52 (ix x35))]) (st := [vi x34, vi 1, vi (x35 + 1), vr o44]) rfl (t_J9_min_7cf53 F x41 (hI h42 a52 (ix x35)) h42) ky_J9_min_7cf53 ws_J9_min_7cf53 wz_RX0_38 (rm_X0_changesBetween_J9_min_7cf53) (Nat.le_of_ble_eq_true rfl) dX0_changesBetween_113 (fun x54 h53 => (?_)))
        refine z_callS_I (pc := 116) (avs := [vi x34, vi x54]) (st := [vi 1, vi (x35 + 1), vr o44]) rfl (t_J9_min_7cf53 F x34 x54 h53) ky_J9_min_7cf53 ws_J9_min_7cf53 wz_RX0_38 (rm_X0_changesBetween_J9_min_7cf53) (Nat.le_of_ble_eq_true rfl) dX0_changesBetween_116 (fun x56 h55 => (?_))
        refine z_iadd (pc := 119) dX0_changesBetween_119 (?_)
        exact z_sub [0, 1, 2, 3, 5, 6] rfl (qj120_45 (1 + x56) h55)
      · refine z_iload (pc := 96) dX0_changesBetween_96 4 rfl (z_goto (pc := 98) (tgt := 120) dX0_changesBetween_98 (by decide) (?_))
        exact z_sub [0, 1, 2, 3, 5, 6] rfl (qj120_45 x34 h42)
set_option maxRecDepth 20000 in
set_option maxHeartbeats 4000000 in
theorem g_X0_changesBetween_L25 (F : Nat) (a15 : Nat) (o16 : Option Nat) (o17 : Option Nat) : ∀ (n : Nat) (x18 : Int32) (h19 : z_Hp), z_G zi mi_X0_changesBetween 25 [(0, vr (some a15)), (1, vr o16), (2, vr o17), (3, vi x18)] [] h19 (c_X0_changesBetween_L25 F a15 o16 o17 n x18 h19) := by
  intro n
  induction n with
  | zero => intro x18 h19; rw [c_X0_changesBetween_L25]; exact z_none
  | succ n ih =>
    intro x18 h19
    rw [c_X0_changesBetween_L25]
    refine z_iload_n (pc := 25) dX0_changesBetween_25 rfl 3 rfl (z_aload_n (pc := 26) dX0_changesBetween_26 rfl 1 rfl (?_))
    refine z_nn (fun a20 ea20 => ?_)
    subst ea20
    refine z_getI (pc := 27) fl_RX0_30 rfl dX0_changesBetween_27 (?_)
    refine z_icmp_ge (pc := 30) (tgt := 137) dX0_changesBetween_30 (by decide) ?_ ?_
    · refine z_aload_n (pc := 137) dX0_changesBetween_137 rfl 0 rfl (z_getRl (pc := 138) fl_RX0_9 rfl dX0_changesBetween_138 (fun o21 => (z_aload_n (pc := 141) dX0_changesBetween_141 rfl 2 rfl (?_))))
      refine z_nn (fun a22 ea22 => ?_)
      subst ea22
      refine z_getI (pc := 142) fl_RX0_30 rfl dX0_changesBetween_142 (?_)
      refine z_nn (fun a23 ea23 => ?_)
      subst ea23
      refine z_iaload (pc := 145) dX0_changesBetween_145 (?_)
      exact z_iret (pc := 146) dX0_changesBetween_146 rfl rfl
    · refine z_aload_n (pc := 33) dX0_changesBetween_33 rfl 0 rfl (z_getRl (pc := 34) fl_RX0_9 rfl dX0_changesBetween_34 (fun o24 => (z_iconst (pc := 37) dX0_changesBetween_37 ic_0 (?_))))
      refine z_nn (fun a25 ea25 => ?_)
      subst ea25
      refine z_iaload (pc := 38) dX0_changesBetween_38 (z_istorel (pc := 39) (L' := fun x26 => [(0, vr (some a15)), (1, vr (some a20)), (2, vr o17), (3, vi x18), (4, vi x26)]) dX0_changesBetween_39 (Nat.le_of_ble_eq_true rfl) (fun _ => rfl) (fun x26 => (z_aload_n (pc := 41) dX0_changesBetween_41 rfl 0 rfl (z_getRl (pc := 42) fl_RX0_9 rfl dX0_changesBetween_42 (fun o27 => (z_iconst (pc := 45) dX0_changesBetween_45 ic_0 (z_iload_n (pc := 46) dX0_changesBetween_46 rfl 3 rfl (z_iconst (pc := 47) dX0_changesBetween_47 ic_1 (z_iadd (pc := 48) dX0_changesBetween_48 (?_))))))))))
      refine z_nn (fun a28 ea28 => ?_)
      subst ea28
      refine z_iastorel (pc := 49) dX0_changesBetween_49 (fun h29 => (z_iconst (pc := 50) dX0_changesBetween_50 ic_0 (z_istore (pc := 51) (L' := [(0, vr (some a15)), (1, vr (some a20)), (2, vr o17), (3, vi x18), (4, vi x26), (5, vi 0)]) dX0_changesBetween_51 (Nat.le_of_ble_eq_true rfl) rfl (?_))))
      refine g_X0_changesBetween_L53 F a15 a20 o17 x18 _ (fun h57 => ?_) F x26 0 h29
      refine z_iincl (pc := 131) (L' := fun x58 => [(0, vr (some a15)), (1, vr (some a20)), (2, vr o17), (3, vi x58)]) dX0_changesBetween_131 3 rfl ic_1 (Nat.le_of_ble_eq_true rfl) (fun _ => rfl) (fun x58 => (z_goto (pc := 134) (tgt := 25) dX0_changesBetween_134 (by decide) (?_)))
      exact ih x58 h57
set_option maxRecDepth 20000 in
set_option maxHeartbeats 4000000 in
theorem t_X0_changesBetween (F : Nat) (a0 : Nat) (o1 : Option Nat) (o2 : Option Nat) (h0 : z_Hp) : z_Ct zi mi_X0_changesBetween [vr (some a0), vr o1, vr o2] h0 (c_X0_changesBetween F a0 o1 o2 h0) := by
  refine z_entry (by decide) (Nat.le_of_ble_eq_true rfl) [(0, vr (some a0)), (1, vr o1), (2, vr o2)] rfl ?_
  unfold c_X0_changesBetween
  refine z_iconst (pc := 0) dX0_changesBetween_0 ic_0 (z_istore_n (pc := 1) (L' := [(0, vr (some a0)), (1, vr o1), (2, vr o2), (3, vi 0)]) dX0_changesBetween_1 rfl (Nat.le_of_ble_eq_true rfl) rfl (?_))
  refine g_X0_changesBetween_L2 F a0 o1 o2 _ (fun h14 => ?_) F 0 h0
  refine z_iconst (pc := 23) dX0_changesBetween_23 ic_0 (z_istore_n (pc := 24) (L' := [(0, vr (some a0)), (1, vr o1), (2, vr o2), (3, vi 0)]) dX0_changesBetween_24 rfl (Nat.le_of_ble_eq_true rfl) rfl (?_))
  refine g_X0_changesBetween_L25 F a0 o1 o2 F 0 h14
theorem dX9_has_0 : decode cX9_has 0 = .ok (.iload_n 0, 1) := by decide +kernel
theorem dX9_has_1 : decode cX9_has 1 = .ok (.iload_n 1, 1) := by decide +kernel
theorem dX9_has_2 : decode cX9_has 2 = .ok (.ishr, 1) := by decide +kernel
theorem dX9_has_3 : decode cX9_has 3 = .ok (.iconst 1, 1) := by decide +kernel
theorem dX9_has_4 : decode cX9_has 4 = .ok (.iand, 1) := by decide +kernel
theorem dX9_has_5 : decode cX9_has 5 = .ok (.ifCond .eq 7, 3) := by decide +kernel
theorem dX9_has_8 : decode cX9_has 8 = .ok (.iconst 1, 1) := by decide +kernel
theorem dX9_has_9 : decode cX9_has 9 = .ok (.goto 4, 3) := by decide +kernel
theorem dX9_has_12 : decode cX9_has 12 = .ok (.iconst 0, 1) := by decide +kernel
theorem dX9_has_13 : decode cX9_has 13 = .ok (.ireturn, 1) := by decide +kernel
def c_X9_has (F : Nat) (x1 : Int32) (x2 : Int32) (h0 : z_Hp) : Option (Int32 × z_Hp) := (if ((x1 >>> (x2 &&& 31)) &&& 1) = 0 then (some (0, h0)) else (some (1, h0)))
set_option maxRecDepth 20000 in
set_option maxHeartbeats 4000000 in
theorem t_X9_has (F : Nat) (x1 : Int32) (x2 : Int32) (h0 : z_Hp) : z_Ct zi mi_X9_has [vi x1, vi x2] h0 (c_X9_has F x1 x2 h0) := by
  refine z_entry (by decide) (Nat.le_of_ble_eq_true rfl) [(0, vi x1), (1, vi x2)] rfl ?_
  unfold c_X9_has
  refine z_iload_n (pc := 0) dX9_has_0 rfl 0 rfl (z_iload_n (pc := 1) dX9_has_1 rfl 1 rfl (z_ishr (pc := 2) dX9_has_2 (z_iconst (pc := 3) dX9_has_3 ic_1 (z_iand (pc := 4) dX9_has_4 (?_)))))
  refine z_if_eq (pc := 5) (tgt := 12) dX9_has_5 (by decide) ?_ ?_
  · refine z_iconst (pc := 12) dX9_has_12 ic_0 (?_)
    exact z_iret (pc := 13) dX9_has_13 rfl rfl
  · refine z_iconst (pc := 8) dX9_has_8 ic_1 (z_goto (pc := 9) (tgt := 13) dX9_has_9 (by decide) (?_))
    exact z_iret (pc := 13) dX9_has_13 rfl rfl
theorem dX0_gather_0 : decode cX0_gather 0 = .ok (.aload_n 0, 1) := by decide +kernel
theorem dX0_gather_1 : decode cX0_gather 1 = .ok (.iconst 0, 1) := by decide +kernel
theorem dX0_gather_2 : decode cX0_gather 2 = .ok (.putfield 44, 3) := by decide +kernel
theorem dX0_gather_5 : decode cX0_gather 5 = .ok (.iconst 0, 1) := by decide +kernel
theorem dX0_gather_6 : decode cX0_gather 6 = .ok (.istore 5, 2) := by decide +kernel
theorem dX0_gather_8 : decode cX0_gather 8 = .ok (.iload 5, 2) := by decide +kernel
theorem dX0_gather_10 : decode cX0_gather 10 = .ok (.bipush 20, 2) := by decide +kernel
theorem dX0_gather_12 : decode cX0_gather 12 = .ok (.if_icmp .ge 18, 3) := by decide +kernel
theorem dX0_gather_15 : decode cX0_gather 15 = .ok (.aload_n 0, 1) := by decide +kernel
theorem dX0_gather_16 : decode cX0_gather 16 = .ok (.getfield 21, 3) := by decide +kernel
theorem dX0_gather_19 : decode cX0_gather 19 = .ok (.iload 5, 2) := by decide +kernel
theorem dX0_gather_21 : decode cX0_gather 21 = .ok (.bipush (-9), 2) := by decide +kernel
theorem dX0_gather_23 : decode cX0_gather 23 = .ok (.iastore, 1) := by decide +kernel
theorem dX0_gather_24 : decode cX0_gather 24 = .ok (.iinc 5 1, 3) := by decide +kernel
theorem dX0_gather_27 : decode cX0_gather 27 = .ok (.goto (-19), 3) := by decide +kernel
theorem dX0_gather_30 : decode cX0_gather 30 = .ok (.iconst 0, 1) := by decide +kernel
theorem dX0_gather_31 : decode cX0_gather 31 = .ok (.istore 5, 2) := by decide +kernel
theorem dX0_gather_33 : decode cX0_gather 33 = .ok (.iload 5, 2) := by decide +kernel
theorem dX0_gather_35 : decode cX0_gather 35 = .ok (.aload_n 2, 1) := by decide +kernel
theorem dX0_gather_36 : decode cX0_gather 36 = .ok (.getfield 47, 3) := by decide +kernel
theorem dX0_gather_39 : decode cX0_gather 39 = .ok (.if_icmp .ge 129, 3) := by decide +kernel
theorem dX0_gather_42 : decode cX0_gather 42 = .ok (.iload_n 1, 1) := by decide +kernel
theorem dX0_gather_43 : decode cX0_gather 43 = .ok (.iload 5, 2) := by decide +kernel
theorem dX0_gather_45 : decode cX0_gather 45 = .ok (.invokestatic 52, 3) := by decide +kernel
theorem dX0_gather_48 : decode cX0_gather 48 = .ok (.ifCond .eq 114, 3) := by decide +kernel
theorem dX0_gather_51 : decode cX0_gather 51 = .ok (.aload_n 0, 1) := by decide +kernel
theorem dX0_gather_52 : decode cX0_gather 52 = .ok (.getfield 44, 3) := by decide +kernel
theorem dX0_gather_55 : decode cX0_gather 55 = .ok (.bipush 10, 2) := by decide +kernel
theorem dX0_gather_57 : decode cX0_gather 57 = .ok (.if_icmp .lt 6, 3) := by decide +kernel
theorem dX0_gather_60 : decode cX0_gather 60 = .ok (.goto 102, 3) := by decide +kernel
theorem dX0_gather_63 : decode cX0_gather 63 = .ok (.aload_n 0, 1) := by decide +kernel
theorem dX0_gather_64 : decode cX0_gather 64 = .ok (.getfield 26, 3) := by decide +kernel
theorem dX0_gather_67 : decode cX0_gather 67 = .ok (.iload 5, 2) := by decide +kernel
theorem dX0_gather_69 : decode cX0_gather 69 = .ok (.aload_n 3, 1) := by decide +kernel
theorem dX0_gather_70 : decode cX0_gather 70 = .ok (.aload_n 2, 1) := by decide +kernel
theorem dX0_gather_71 : decode cX0_gather 71 = .ok (.getfield 56, 3) := by decide +kernel
theorem dX0_gather_74 : decode cX0_gather 74 = .ok (.iload 5, 2) := by decide +kernel
theorem dX0_gather_76 : decode cX0_gather 76 = .ok (.aaload, 1) := by decide +kernel
theorem dX0_gather_77 : decode cX0_gather 77 = .ok (.getfield 60, 3) := by decide +kernel
theorem dX0_gather_80 : decode cX0_gather 80 = .ok (.aaload, 1) := by decide +kernel
theorem dX0_gather_81 : decode cX0_gather 81 = .ok (.aastore, 1) := by decide +kernel
theorem dX0_gather_82 : decode cX0_gather 82 = .ok (.aload_n 0, 1) := by decide +kernel
theorem dX0_gather_83 : decode cX0_gather 83 = .ok (.getfield 15, 3) := by decide +kernel
theorem dX0_gather_86 : decode cX0_gather 86 = .ok (.aload_n 0, 1) := by decide +kernel
theorem dX0_gather_87 : decode cX0_gather 87 = .ok (.getfield 44, 3) := by decide +kernel
theorem dX0_gather_90 : decode cX0_gather 90 = .ok (.iload 5, 2) := by decide +kernel
theorem dX0_gather_92 : decode cX0_gather 92 = .ok (.iastore, 1) := by decide +kernel
theorem dX0_gather_93 : decode cX0_gather 93 = .ok (.aload_n 0, 1) := by decide +kernel
theorem dX0_gather_94 : decode cX0_gather 94 = .ok (.dup, 1) := by decide +kernel
theorem dX0_gather_95 : decode cX0_gather 95 = .ok (.getfield 44, 3) := by decide +kernel
theorem dX0_gather_98 : decode cX0_gather 98 = .ok (.dup_x1, 1) := by decide +kernel
theorem dX0_gather_99 : decode cX0_gather 99 = .ok (.iconst 1, 1) := by decide +kernel
theorem dX0_gather_100 : decode cX0_gather 100 = .ok (.iadd, 1) := by decide +kernel
theorem dX0_gather_101 : decode cX0_gather 101 = .ok (.putfield 44, 3) := by decide +kernel
theorem dX0_gather_104 : decode cX0_gather 104 = .ok (.istore 6, 2) := by decide +kernel
theorem dX0_gather_106 : decode cX0_gather 106 = .ok (.iload 6, 2) := by decide +kernel
theorem dX0_gather_108 : decode cX0_gather 108 = .ok (.ifCond .le 45, 3) := by decide +kernel
theorem dX0_gather_111 : decode cX0_gather 111 = .ok (.aload 4, 2) := by decide +kernel
theorem dX0_gather_113 : decode cX0_gather 113 = .ok (.aload_n 0, 1) := by decide +kernel
theorem dX0_gather_114 : decode cX0_gather 114 = .ok (.getfield 18, 3) := by decide +kernel
theorem dX0_gather_117 : decode cX0_gather 117 = .ok (.iload 6, 2) := by decide +kernel
theorem dX0_gather_119 : decode cX0_gather 119 = .ok (.iconst 1, 1) := by decide +kernel
theorem dX0_gather_120 : decode cX0_gather 120 = .ok (.isub, 1) := by decide +kernel
theorem dX0_gather_121 : decode cX0_gather 121 = .ok (.iaload, 1) := by decide +kernel
theorem dX0_gather_122 : decode cX0_gather 122 = .ok (.iaload, 1) := by decide +kernel
theorem dX0_gather_123 : decode cX0_gather 123 = .ok (.aload 4, 2) := by decide +kernel
theorem dX0_gather_125 : decode cX0_gather 125 = .ok (.iload 5, 2) := by decide +kernel
theorem dX0_gather_127 : decode cX0_gather 127 = .ok (.iaload, 1) := by decide +kernel
theorem dX0_gather_128 : decode cX0_gather 128 = .ok (.if_icmp .le 25, 3) := by decide +kernel
theorem dX0_gather_131 : decode cX0_gather 131 = .ok (.aload_n 0, 1) := by decide +kernel
theorem dX0_gather_132 : decode cX0_gather 132 = .ok (.getfield 18, 3) := by decide +kernel
theorem dX0_gather_135 : decode cX0_gather 135 = .ok (.iload 6, 2) := by decide +kernel
theorem dX0_gather_137 : decode cX0_gather 137 = .ok (.aload_n 0, 1) := by decide +kernel
theorem dX0_gather_138 : decode cX0_gather 138 = .ok (.getfield 18, 3) := by decide +kernel
theorem dX0_gather_141 : decode cX0_gather 141 = .ok (.iload 6, 2) := by decide +kernel
theorem dX0_gather_143 : decode cX0_gather 143 = .ok (.iconst 1, 1) := by decide +kernel
theorem dX0_gather_144 : decode cX0_gather 144 = .ok (.isub, 1) := by decide +kernel
theorem dX0_gather_145 : decode cX0_gather 145 = .ok (.iaload, 1) := by decide +kernel
theorem dX0_gather_146 : decode cX0_gather 146 = .ok (.iastore, 1) := by decide +kernel
theorem dX0_gather_147 : decode cX0_gather 147 = .ok (.iinc 6 (-1), 3) := by decide +kernel
theorem dX0_gather_150 : decode cX0_gather 150 = .ok (.goto (-44), 3) := by decide +kernel
theorem dX0_gather_153 : decode cX0_gather 153 = .ok (.aload_n 0, 1) := by decide +kernel
theorem dX0_gather_154 : decode cX0_gather 154 = .ok (.getfield 18, 3) := by decide +kernel
theorem dX0_gather_157 : decode cX0_gather 157 = .ok (.iload 6, 2) := by decide +kernel
theorem dX0_gather_159 : decode cX0_gather 159 = .ok (.iload 5, 2) := by decide +kernel
theorem dX0_gather_161 : decode cX0_gather 161 = .ok (.iastore, 1) := by decide +kernel
theorem dX0_gather_162 : decode cX0_gather 162 = .ok (.iinc 5 1, 3) := by decide +kernel
theorem dX0_gather_165 : decode cX0_gather 165 = .ok (.goto (-132), 3) := by decide +kernel
theorem dX0_gather_168 : decode cX0_gather 168 = .ok (.iconst 0, 1) := by decide +kernel
theorem dX0_gather_169 : decode cX0_gather 169 = .ok (.istore 5, 2) := by decide +kernel
theorem dX0_gather_171 : decode cX0_gather 171 = .ok (.iload 5, 2) := by decide +kernel
theorem dX0_gather_173 : decode cX0_gather 173 = .ok (.aload_n 0, 1) := by decide +kernel
theorem dX0_gather_174 : decode cX0_gather 174 = .ok (.getfield 44, 3) := by decide +kernel
theorem dX0_gather_177 : decode cX0_gather 177 = .ok (.if_icmp .ge 23, 3) := by decide +kernel
theorem dX0_gather_180 : decode cX0_gather 180 = .ok (.aload_n 0, 1) := by decide +kernel
theorem dX0_gather_181 : decode cX0_gather 181 = .ok (.getfield 21, 3) := by decide +kernel
theorem dX0_gather_184 : decode cX0_gather 184 = .ok (.aload_n 0, 1) := by decide +kernel
theorem dX0_gather_185 : decode cX0_gather 185 = .ok (.getfield 18, 3) := by decide +kernel
theorem dX0_gather_188 : decode cX0_gather 188 = .ok (.iload 5, 2) := by decide +kernel
theorem dX0_gather_190 : decode cX0_gather 190 = .ok (.iaload, 1) := by decide +kernel
theorem dX0_gather_191 : decode cX0_gather 191 = .ok (.iload 5, 2) := by decide +kernel
theorem dX0_gather_193 : decode cX0_gather 193 = .ok (.iastore, 1) := by decide +kernel
theorem dX0_gather_194 : decode cX0_gather 194 = .ok (.iinc 5 1, 3) := by decide +kernel
theorem dX0_gather_197 : decode cX0_gather 197 = .ok (.goto (-26), 3) := by decide +kernel
theorem dX0_gather_200 : decode cX0_gather 200 = .ok (.return_, 1) := by decide +kernel
def c_X0_gather_L8 (F : Nat) (a6 : Nat) (x7 : Int32) (o8 : Option Nat) (o9 : Option Nat) (o10 : Option Nat) (k30 : z_Hp → Option (z_Hp)) : Nat → Int32 → z_Hp → Option (z_Hp)
  | 0, _, _ => none
  | n + 1, x11, h12 => (if 20 ≤ x11 then (k30 h12) else (if hT h12 a6 = 0 then (lt_ (hR h12 a6 3) (fun o14 => (nn o14 (fun a15 => (if okA h12 a15 20 x11 = true then (lt_ (sI h12 a15 (ix x11) (-9)) (fun h16 => (lt_ (x11 + 1) (fun x17 => (c_X0_gather_L8 F a6 x7 o8 o9 o10 k30 n x17 h16))))) else none))))) else none))
def c_X0_gather_L106 (F : Nat) (a47 : Nat) (x48 : Int32) (a49 : Nat) (a50 : Nat) (o51 : Option Nat) (x52 : Int32) (k153 : Int32 → z_Hp → Option (z_Hp)) : Nat → Int32 → z_Hp → Option (z_Hp)
  | 0, _, _ => none
  | n + 1, x53, h54 => (if x53 ≤ 0 then (k153 x53 h54) else (if hT h54 a47 = 0 then (lt_ (hR h54 a47 2) (fun o57 => (nn o57 (fun a58 => (if okA h54 a58 20 (x53 - 1) = true then (nn o51 (fun a59 => (if okA h54 a59 20 (hI h54 a58 (ix (x53 - 1))) = true then (if okA h54 a59 20 x52 = true then (if (hI h54 a59 (ix (hI h54 a58 (ix (x53 - 1))))) ≤ (hI h54 a59 (ix x52)) then (k153 x53 h54) else (if hT h54 a47 = 0 then (lt_ (hR h54 a47 2) (fun o60 => (if hT h54 a47 = 0 then (lt_ (hR h54 a47 2) (fun o61 => (nn o61 (fun a62 => (if okA h54 a62 20 (x53 - 1) = true then (nn o60 (fun a63 => (if okA h54 a63 20 x53 = true then (lt_ (sI h54 a63 (ix x53) (hI h54 a62 (ix (x53 - 1)))) (fun h64 => (lt_ (x53 + (-1)) (fun x65 => (c_X0_gather_L106 F a47 x48 a49 a50 o51 x52 k153 n x65 h64))))) else none))) else none))))) else none))) else none)) else none) else none))) else none))))) else none))
def c_X0_gather_L33 (F : Nat) (a19 : Nat) (x20 : Int32) (o21 : Option Nat) (o22 : Option Nat) (o23 : Option Nat) (k168 : z_Hp → Option (z_Hp)) : Nat → Int32 → z_Hp → Option (z_Hp)
  | 0, _, _ => none
  | n + 1, x24, h25 => (nn o21 (fun a27 => (if hT h25 a27 = 6 then (if (hI h25 a27 1) ≤ x24 then (k168 h25) else (bI (c_X9_has F x20 x24 h25) (fun x29 h28 => (lt_ (fun (h31 : z_Hp) => (lt_ (x24 + 1) (fun x32 => (c_X0_gather_L33 F a19 x20 o21 o22 o23 k168 n x32 h31)))) (fun (j162_30 : z_Hp → Option (z_Hp)) => (if x29 = 0 then (j162_30 h28) else (if hT h28 a19 = 0 then (if (hI h28 a19 5) < 10 then (if hT h28 a19 = 0 then (lt_ (hR h28 a19 4) (fun o33 => (if hT h28 a27 = 6 then (lt_ (hR h28 a27 0) (fun o34 => (nn o34 (fun a35 => (if okA h28 a35 26 x24 = true then (lt_ (hR h28 a35 (ix x24)) (fun o36 => (nn o36 (fun a37 => (if hT h28 a37 = 5 then (nn o22 (fun a38 => (if okA h28 a38 25 (hI h28 a37 2) = true then (lt_ (hR h28 a38 (ix (hI h28 a37 2))) (fun o39 => (nn o33 (fun a40 => (if okA h28 a40 25 x24 = true ∧ okS h28 25 o39 = true then (lt_ (sR h28 a40 (ix x24) o39) (fun h41 => (if hT h41 a19 = 0 then (lt_ (hR h41 a19 1) (fun o42 => (if hT h41 a19 = 0 then (nn o42 (fun a43 => (if okA h41 a43 20 (hI h41 a19 5) = true then (lt_ (sI h41 a43 (ix (hI h41 a19 5)) x24) (fun h44 => (if hT h44 a19 = 0 then (if hT h44 a19 = 0 then (lt_ (sI h44 a19 5 ((hI h44 a19 5) + 1)) (fun h45 => (lt_ (hI h44 a19 5) (fun x46 => (c_X0_gather_L106 F a19 x20 a27 a38 o23 x24 (fun x66 h67 => (if hT h67 a19 = 0 then (lt_ (hR h67 a19 2) (fun o68 => (nn o68 (fun a69 => (if okA h67 a69 20 x66 = true then (lt_ (sI h67 a69 (ix x66) x24) (fun h70 => (j162_30 h70))) else none))))) else none)) F x46 h45))))) else none) else none))) else none))) else none))) else none))) else none))))) else none))) else none))))) else none))))) else none))) else none) else (j162_30 h28)) else none))))))) else none)))
def c_X0_gather_L171 (F : Nat) (a72 : Nat) : Nat → Int32 → z_Hp → Option (z_Hp)
  | 0, _, _ => none
  | n + 1, x73, h74 => (if hT h74 a72 = 0 then (if (hI h74 a72 5) ≤ x73 then (some h74) else (if hT h74 a72 = 0 then (lt_ (hR h74 a72 3) (fun o75 => (if hT h74 a72 = 0 then (lt_ (hR h74 a72 2) (fun o76 => (nn o76 (fun a77 => (if okA h74 a77 20 x73 = true then (nn o75 (fun a78 => (if okA h74 a78 20 (hI h74 a77 (ix x73)) = true then (lt_ (sI h74 a78 (ix (hI h74 a77 (ix x73))) x73) (fun h79 => (lt_ (x73 + 1) (fun x80 => (c_X0_gather_L171 F a72 n x80 h79))))) else none))) else none))))) else none))) else none)) else none)
def c_X0_gather (F : Nat) (a0 : Nat) (x1 : Int32) (o2 : Option Nat) (o3 : Option Nat) (o4 : Option Nat) (h0 : z_Hp) : Option (z_Hp) := (if hT h0 a0 = 0 then (lt_ (sI h0 a0 5 0) (fun h5 => (c_X0_gather_L8 F a0 x1 o2 o3 o4 (fun h18 => (c_X0_gather_L33 F a0 x1 o2 o3 o4 (fun h71 => (c_X0_gather_L171 F a0 F 0 h71)) F 0 h18)) F 0 h5))) else none)
set_option maxRecDepth 20000 in
set_option maxHeartbeats 4000000 in
theorem g_X0_gather_L8 (F : Nat) (a6 : Nat) (x7 : Int32) (o8 : Option Nat) (o9 : Option Nat) (o10 : Option Nat) (k30 : z_Hp → Option (z_Hp)) (qk30 : ∀ (h13 : z_Hp), z_G zv mi_X0_gather 30 [(0, vr (some a6)), (1, vi x7), (2, vr o8), (3, vr o9), (4, vr o10)] [] h13 (k30 h13)) : ∀ (n : Nat) (x11 : Int32) (h12 : z_Hp), z_G zv mi_X0_gather 8 [(0, vr (some a6)), (1, vi x7), (2, vr o8), (3, vr o9), (4, vr o10), (5, vi x11)] [] h12 (c_X0_gather_L8 F a6 x7 o8 o9 o10 k30 n x11 h12) := by
  intro n
  induction n with
  | zero => intro x11 h12; rw [c_X0_gather_L8]; exact z_none
  | succ n ih =>
    intro x11 h12
    rw [c_X0_gather_L8]
    refine z_iload (pc := 8) dX0_gather_8 5 rfl (z_bipush (pc := 10) dX0_gather_10 bp_20 (?_))
    refine z_icmp_ge (pc := 12) (tgt := 30) dX0_gather_12 (by decide) ?_ ?_
    · exact z_sub [0, 1, 2, 3, 4] rfl (qk30 h12)
    · refine z_aload_n (pc := 15) dX0_gather_15 rfl 0 rfl (z_getRl (pc := 16) fl_RX0_21 rfl dX0_gather_16 (fun o14 => (z_iload (pc := 19) dX0_gather_19 5 rfl (z_bipush (pc := 21) dX0_gather_21 bp_m9 (?_)))))
      refine z_nn (fun a15 ea15 => ?_)
      subst ea15
      refine z_iastorel (pc := 23) dX0_gather_23 (fun h16 => (z_iincl (pc := 24) (L' := fun x17 => [(0, vr (some a6)), (1, vi x7), (2, vr o8), (3, vr o9), (4, vr o10), (5, vi x17)]) dX0_gather_24 5 rfl ic_1 (Nat.le_of_ble_eq_true rfl) (fun _ => rfl) (fun x17 => (z_goto (pc := 27) (tgt := 8) dX0_gather_27 (by decide) (?_)))))
      exact ih x17 h16
set_option maxRecDepth 20000 in
set_option maxHeartbeats 4000000 in
theorem g_X0_gather_L106 (F : Nat) (a47 : Nat) (x48 : Int32) (a49 : Nat) (a50 : Nat) (o51 : Option Nat) (x52 : Int32) (k153 : Int32 → z_Hp → Option (z_Hp)) (qk153 : ∀ (x55 : Int32) (h56 : z_Hp), z_G zv mi_X0_gather 153 [(0, vr (some a47)), (1, vi x48), (2, vr (some a49)), (3, vr (some a50)), (4, vr o51), (5, vi x52), (6, vi x55)] [] h56 (k153 x55 h56)) : ∀ (n : Nat) (x53 : Int32) (h54 : z_Hp), z_G zv mi_X0_gather 106 [(0, vr (some a47)), (1, vi x48), (2, vr (some a49)), (3, vr (some a50)), (4, vr o51), (5, vi x52), (6, vi x53)] [] h54 (c_X0_gather_L106 F a47 x48 a49 a50 o51 x52 k153 n x53 h54) := by
  intro n
  induction n with
  | zero => intro x53 h54; rw [c_X0_gather_L106]; exact z_none
  | succ n ih =>
    intro x53 h54
    rw [c_X0_gather_L106]
    refine z_iload (pc := 106) dX0_gather_106 6 rfl (?_)
    refine z_if_le (pc := 108) (tgt := 153) dX0_gather_108 (by decide) ?_ ?_
    · exact qk153 x53 h54
    · refine z_aload (pc := 111) dX0_gather_111 4 rfl (z_aload_n (pc := 113) dX0_gather_113 rfl 0 rfl (z_getRl (pc := 114) fl_RX0_18 rfl dX0_gather_114 (fun o57 => (z_iload (pc := 117) dX0_gather_117 6 rfl (z_iconst (pc := 119) dX0_gather_119 ic_1 (z_isub (pc := 120) dX0_gather_120 (?_)))))))
      refine z_nn (fun a58 ea58 => ?_)
      subst ea58
      refine z_iaload (pc := 121) dX0_gather_121 (?_)
      refine z_nn (fun a59 ea59 => ?_)
      subst ea59
      refine z_iaload (pc := 122) dX0_gather_122 (z_aload (pc := 123) dX0_gather_123 4 rfl (z_iload (pc := 125) dX0_gather_125 5 rfl (z_iaload (pc := 127) dX0_gather_127 (?_))))
      refine z_icmp_le (pc := 128) (tgt := 153) dX0_gather_128 (by decide) ?_ ?_
      · exact qk153 x53 h54
      · refine z_aload_n (pc := 131) dX0_gather_131 rfl 0 rfl (z_getRl (pc := 132) fl_RX0_18 rfl dX0_gather_132 (fun o60 => (z_iload (pc := 135) dX0_gather_135 6 rfl (z_aload_n (pc := 137) dX0_gather_137 rfl 0 rfl (z_getRl (pc := 138) fl_RX0_18 rfl dX0_gather_138 (fun o61 => (z_iload (pc := 141) dX0_gather_141 6 rfl (z_iconst (pc := 143) dX0_gather_143 ic_1 (z_isub (pc := 144) dX0_gather_144 (?_))))))))))
        refine z_nn (fun a62 ea62 => ?_)
        subst ea62
        refine z_iaload (pc := 145) dX0_gather_145 (?_)
        refine z_nn (fun a63 ea63 => ?_)
        subst ea63
        refine z_iastorel (pc := 146) dX0_gather_146 (fun h64 => (z_iincl (pc := 147) (L' := fun x65 => [(0, vr (some a47)), (1, vi x48), (2, vr (some a49)), (3, vr (some a50)), (4, vr (some a59)), (5, vi x52), (6, vi x65)]) dX0_gather_147 6 rfl ic_m1 (Nat.le_of_ble_eq_true rfl) (fun _ => rfl) (fun x65 => (z_goto (pc := 150) (tgt := 106) dX0_gather_150 (by decide) (?_)))))
        exact ih x65 h64
set_option maxRecDepth 20000 in
set_option maxHeartbeats 4000000 in
theorem g_X0_gather_L33 (F : Nat) (a19 : Nat) (x20 : Int32) (o21 : Option Nat) (o22 : Option Nat) (o23 : Option Nat) (k168 : z_Hp → Option (z_Hp)) (qk168 : ∀ (h26 : z_Hp), z_G zv mi_X0_gather 168 [(0, vr (some a19))] [] h26 (k168 h26)) : ∀ (n : Nat) (x24 : Int32) (h25 : z_Hp), z_G zv mi_X0_gather 33 [(0, vr (some a19)), (1, vi x20), (2, vr o21), (3, vr o22), (4, vr o23), (5, vi x24)] [] h25 (c_X0_gather_L33 F a19 x20 o21 o22 o23 k168 n x24 h25) := by
  intro n
  induction n with
  | zero => intro x24 h25; rw [c_X0_gather_L33]; exact z_none
  | succ n ih =>
    intro x24 h25
    rw [c_X0_gather_L33]
    refine z_iload (pc := 33) dX0_gather_33 5 rfl (z_aload_n (pc := 35) dX0_gather_35 rfl 2 rfl (?_))
    refine z_nn (fun a27 ea27 => ?_)
    subst ea27
    refine z_getI (pc := 36) fl_RX0_47 rfl dX0_gather_36 (?_)
    refine z_icmp_ge (pc := 39) (tgt := 168) dX0_gather_39 (by decide) ?_ ?_
    · exact z_sub [0] rfl (qk168 h25)
    · refine z_iload_n (pc := 42) dX0_gather_42 rfl 1 rfl (z_iload (pc := 43) dX0_gather_43 5 rfl (z_callSN_I (pc := 45) (host := "BalladSheets") (avs := [vi x20, vi x24]) (st := []) rfl (t_X9_has F x20 x24 h25) ky_X9_has ws_X9_has (by decide +kernel) (rm_X0_gather_X9_has) (Nat.le_of_ble_eq_true rfl) dX0_gather_45 (fun x29 h28 => (?_))))
      refine z_jn (P := fun (j : z_Hp → Option (z_Hp)) => ∀ (h31 : z_Hp), z_G zv mi_X0_gather 162 [(0, vr (some a19)), (1, vi x20), (2, vr (some a27)), (3, vr o22), (4, vr o23), (5, vi x24)] [] h31 (j h31)) (fun h31 => ?_) (fun j162_30 qj162_30 => ?_)
      · refine z_iincl (pc := 162) (L' := fun x32 => [(0, vr (some a19)), (1, vi x20), (2, vr (some a27)), (3, vr o22), (4, vr o23), (5, vi x32)]) dX0_gather_162 5 rfl ic_1 (Nat.le_of_ble_eq_true rfl) (fun _ => rfl) (fun x32 => (z_goto (pc := 165) (tgt := 33) dX0_gather_165 (by decide) (?_)))
        exact ih x32 h31
      refine z_if_eq (pc := 48) (tgt := 162) dX0_gather_48 (by decide) ?_ ?_
      · exact qj162_30 h28
      · refine z_aload_n (pc := 51) dX0_gather_51 rfl 0 rfl (z_getI (pc := 52) fl_RX0_44 rfl dX0_gather_52 (z_bipush (pc := 55) dX0_gather_55 bp_10 (?_)))
        refine z_icmp_lt (pc := 57) (tgt := 63) dX0_gather_57 (by decide) ?_ ?_
        · refine z_aload_n (pc := 63) dX0_gather_63 rfl 0 rfl (z_getRl (pc := 64) fl_RX0_26 rfl dX0_gather_64 (fun o33 => (z_iload (pc := 67) dX0_gather_67 5 rfl (z_aload_n (pc := 69) dX0_gather_69 rfl 3 rfl (z_aload_n (pc := 70) dX0_gather_70 rfl 2 rfl (z_getRl (pc := 71) fl_RX0_56 rfl dX0_gather_71 (fun o34 => (z_iload (pc := 74) dX0_gather_74 5 rfl (?_)))))))))
          refine z_nn (fun a35 ea35 => ?_)
          subst ea35
          refine z_aaloadl (pc := 76) 26 (by decide) dX0_gather_76 (fun o36 => (?_))
          refine z_nn (fun a37 ea37 => ?_)
          subst ea37
          refine z_getI (pc := 77) fl_RX0_60 rfl dX0_gather_77 (?_)
          refine z_nn (fun a38 ea38 => ?_)
          subst ea38
          refine z_aaloadl (pc := 80) 25 (by decide) dX0_gather_80 (fun o39 => (?_))
          refine z_nn (fun a40 ea40 => ?_)
          subst ea40
          refine z_aastorel (pc := 81) 25 (by decide) dX0_gather_81 (fun h41 => (z_aload_n (pc := 82) dX0_gather_82 rfl 0 rfl (z_getRl (pc := 83) fl_RX0_15 rfl dX0_gather_83 (fun o42 => (z_aload_n (pc := 86) dX0_gather_86 rfl 0 rfl (z_getI (pc := 87) fl_RX0_44 rfl dX0_gather_87 (z_iload (pc := 90) dX0_gather_90 5 rfl (?_))))))))
          refine z_nn (fun a43 ea43 => ?_)
          subst ea43
          refine z_iastorel (pc := 92) dX0_gather_92 (fun h44 => (z_aload_n (pc := 93) dX0_gather_93 rfl 0 rfl (z_dup (pc := 94) dX0_gather_94 rfl (z_getI (pc := 95) fl_RX0_44 rfl dX0_gather_95 (z_dup_x1 (pc := 98) dX0_gather_98 rfl rfl (z_iconst (pc := 99) dX0_gather_99 ic_1 (z_iadd (pc := 100) dX0_gather_100 (z_putIl (pc := 101) fl_RX0_44 (fin_X_0_5 _) rfl dX0_gather_101 (fun h45 => (?_))))))))))
          refine z_istorel (pc := 104) (L' := fun x46 => [(0, vr (some a19)), (1, vi x20), (2, vr (some a27)), (3, vr (some a38)), (4, vr o23), (5, vi x24), (6, vi x46)]) dX0_gather_104 (Nat.le_of_ble_eq_true rfl) (fun _ => rfl) (fun x46 => (?_))
          refine g_X0_gather_L106 F a19 x20 a27 a38 o23 x24 _ (fun x66 h67 => ?_) F x46 h45
          refine z_aload_n (pc := 153) dX0_gather_153 rfl 0 rfl (z_getRl (pc := 154) fl_RX0_18 rfl dX0_gather_154 (fun o68 => (z_iload (pc := 157) dX0_gather_157 6 rfl (z_iload (pc := 159) dX0_gather_159 5 rfl (?_)))))
          refine z_nn (fun a69 ea69 => ?_)
          subst ea69
          refine z_iastorel (pc := 161) dX0_gather_161 (fun h70 => (?_))
          exact z_sub [0, 1, 2, 3, 4, 5] rfl (qj162_30 h70)
        · refine z_goto (pc := 60) (tgt := 162) dX0_gather_60 (by decide) (?_)
          exact qj162_30 h28
set_option maxRecDepth 20000 in
set_option maxHeartbeats 4000000 in
theorem g_X0_gather_L171 (F : Nat) (a72 : Nat) : ∀ (n : Nat) (x73 : Int32) (h74 : z_Hp), z_G zv mi_X0_gather 171 [(0, vr (some a72)), (5, vi x73)] [] h74 (c_X0_gather_L171 F a72 n x73 h74) := by
  intro n
  induction n with
  | zero => intro x73 h74; rw [c_X0_gather_L171]; exact z_none
  | succ n ih =>
    intro x73 h74
    rw [c_X0_gather_L171]
    refine z_iload (pc := 171) dX0_gather_171 1 rfl (z_aload_n (pc := 173) dX0_gather_173 rfl 0 rfl (z_getI (pc := 174) fl_RX0_44 rfl dX0_gather_174 (?_)))
    refine z_icmp_ge (pc := 177) (tgt := 200) dX0_gather_177 (by decide) ?_ ?_
    · exact z_vret (pc := 200) dX0_gather_200 rfl
    · refine z_aload_n (pc := 180) dX0_gather_180 rfl 0 rfl (z_getRl (pc := 181) fl_RX0_21 rfl dX0_gather_181 (fun o75 => (z_aload_n (pc := 184) dX0_gather_184 rfl 0 rfl (z_getRl (pc := 185) fl_RX0_18 rfl dX0_gather_185 (fun o76 => (z_iload (pc := 188) dX0_gather_188 1 rfl (?_)))))))
      refine z_nn (fun a77 ea77 => ?_)
      subst ea77
      refine z_iaload (pc := 190) dX0_gather_190 (z_iload (pc := 191) dX0_gather_191 1 rfl (?_))
      refine z_nn (fun a78 ea78 => ?_)
      subst ea78
      refine z_iastorel (pc := 193) dX0_gather_193 (fun h79 => (z_iincl (pc := 194) (L' := fun x80 => [(0, vr (some a72)), (5, vi x80)]) dX0_gather_194 1 rfl ic_1 (Nat.le_of_ble_eq_true rfl) (fun _ => rfl) (fun x80 => (z_goto (pc := 197) (tgt := 171) dX0_gather_197 (by decide) (?_)))))
      exact ih x80 h79
set_option maxRecDepth 20000 in
set_option maxHeartbeats 4000000 in
theorem t_X0_gather (F : Nat) (a0 : Nat) (x1 : Int32) (o2 : Option Nat) (o3 : Option Nat) (o4 : Option Nat) (h0 : z_Hp) : z_Ct zv mi_X0_gather [vr (some a0), vi x1, vr o2, vr o3, vr o4] h0 (c_X0_gather F a0 x1 o2 o3 o4 h0) := by
  refine z_entry (by decide) (Nat.le_of_ble_eq_true rfl) [(0, vr (some a0)), (1, vi x1), (2, vr o2), (3, vr o3), (4, vr o4)] rfl ?_
  unfold c_X0_gather
  refine z_aload_n (pc := 0) dX0_gather_0 rfl 0 rfl (z_iconst (pc := 1) dX0_gather_1 ic_0 (z_putIl (pc := 2) fl_RX0_44 (fin_X_0_5 _) rfl dX0_gather_2 (fun h5 => (z_iconst (pc := 5) dX0_gather_5 ic_0 (z_istore (pc := 6) (L' := [(0, vr (some a0)), (1, vi x1), (2, vr o2), (3, vr o3), (4, vr o4), (5, vi 0)]) dX0_gather_6 (Nat.le_of_ble_eq_true rfl) rfl (?_))))))
  refine g_X0_gather_L8 F a0 x1 o2 o3 o4 _ (fun h18 => ?_) F 0 h5
  refine z_iconst (pc := 30) dX0_gather_30 ic_0 (z_istore (pc := 31) (L' := [(0, vr (some a0)), (1, vi x1), (2, vr o2), (3, vr o3), (4, vr o4), (5, vi 0)]) dX0_gather_31 (Nat.le_of_ble_eq_true rfl) rfl (?_))
  refine g_X0_gather_L33 F a0 x1 o2 o3 o4 _ (fun h71 => ?_) F 0 h18
  refine z_iconst (pc := 168) dX0_gather_168 ic_0 (z_istore (pc := 169) (L' := [(0, vr (some a0)), (5, vi 0)]) dX0_gather_169 (Nat.le_of_ble_eq_true rfl) rfl (?_))
  refine g_X0_gather_L171 F a0 F 0 h71
theorem dX0_changesFrom_0 : decode cX0_changesFrom 0 = .ok (.aload_n 0, 1) := by decide +kernel
theorem dX0_changesFrom_1 : decode cX0_changesFrom 1 = .ok (.getfield 26, 3) := by decide +kernel
theorem dX0_changesFrom_4 : decode cX0_changesFrom 4 = .ok (.iload_n 1, 1) := by decide +kernel
theorem dX0_changesFrom_5 : decode cX0_changesFrom 5 = .ok (.aaload, 1) := by decide +kernel
theorem dX0_changesFrom_6 : decode cX0_changesFrom 6 = .ok (.astore_n 3, 1) := by decide +kernel
theorem dX0_changesFrom_7 : decode cX0_changesFrom 7 = .ok (.aload_n 0, 1) := by decide +kernel
theorem dX0_changesFrom_8 : decode cX0_changesFrom 8 = .ok (.getfield 26, 3) := by decide +kernel
theorem dX0_changesFrom_11 : decode cX0_changesFrom 11 = .ok (.iload_n 2, 1) := by decide +kernel
theorem dX0_changesFrom_12 : decode cX0_changesFrom 12 = .ok (.aaload, 1) := by decide +kernel
theorem dX0_changesFrom_13 : decode cX0_changesFrom 13 = .ok (.astore 4, 2) := by decide +kernel
theorem dX0_changesFrom_15 : decode cX0_changesFrom 15 = .ok (.aload_n 3, 1) := by decide +kernel
theorem dX0_changesFrom_16 : decode cX0_changesFrom 16 = .ok (.ifnull 14, 3) := by decide +kernel
theorem dX0_changesFrom_19 : decode cX0_changesFrom 19 = .ok (.aload 4, 2) := by decide +kernel
theorem dX0_changesFrom_21 : decode cX0_changesFrom 21 = .ok (.ifnull 9, 3) := by decide +kernel
theorem dX0_changesFrom_24 : decode cX0_changesFrom 24 = .ok (.aload_n 3, 1) := by decide +kernel
theorem dX0_changesFrom_25 : decode cX0_changesFrom 25 = .ok (.aload 4, 2) := by decide +kernel
theorem dX0_changesFrom_27 : decode cX0_changesFrom 27 = .ok (.if_acmp .ne 7, 3) := by decide +kernel
theorem dX0_changesFrom_30 : decode cX0_changesFrom 30 = .ok (.iconst 0, 1) := by decide +kernel
theorem dX0_changesFrom_31 : decode cX0_changesFrom 31 = .ok (.goto 10, 3) := by decide +kernel
theorem dX0_changesFrom_34 : decode cX0_changesFrom 34 = .ok (.aload_n 0, 1) := by decide +kernel
theorem dX0_changesFrom_35 : decode cX0_changesFrom 35 = .ok (.aload_n 3, 1) := by decide +kernel
theorem dX0_changesFrom_36 : decode cX0_changesFrom 36 = .ok (.aload 4, 2) := by decide +kernel
theorem dX0_changesFrom_38 : decode cX0_changesFrom 38 = .ok (.invokevirtual 71, 3) := by decide +kernel
theorem dX0_changesFrom_41 : decode cX0_changesFrom 41 = .ok (.ireturn, 1) := by decide +kernel
def c_X0_changesFrom (F : Nat) (a0 : Nat) (x1 : Int32) (x2 : Int32) (h0 : z_Hp) : Option (Int32 × z_Hp) := (if hT h0 a0 = 0 then (lt_ (hR h0 a0 4) (fun o3 => (nn o3 (fun a4 => (if okA h0 a4 25 x1 = true then (lt_ (hR h0 a4 (ix x1)) (fun o5 => (if hT h0 a0 = 0 then (lt_ (hR h0 a0 4) (fun o6 => (nn o6 (fun a7 => (if okA h0 a7 25 x2 = true then (lt_ (hR h0 a7 (ix x2)) (fun o8 => (nl o5 (some (0, h0)) (fun a9 => (nl o8 (some (0, h0)) (fun a10 => (if okN (some a9) = true ∧ okN (some a10) = true then (if (some a9) = (some a10) then (some (0, h0)) else (if hT h0 a0 = 0 then (bI (c_X0_changesBetween F a0 (some a9) (some a10) h0) (fun x12 h11 => (some (x12, h11)))) else none)) else none))))))) else none))))) else none))) else none))))) else none)
set_option maxRecDepth 20000 in
set_option maxHeartbeats 4000000 in
theorem t_X0_changesFrom (F : Nat) (a0 : Nat) (x1 : Int32) (x2 : Int32) (h0 : z_Hp) : z_Ct zi mi_X0_changesFrom [vr (some a0), vi x1, vi x2] h0 (c_X0_changesFrom F a0 x1 x2 h0) := by
  refine z_entry (by decide) (Nat.le_of_ble_eq_true rfl) [(0, vr (some a0)), (1, vi x1), (2, vi x2)] rfl ?_
  unfold c_X0_changesFrom
  refine z_aload_n (pc := 0) dX0_changesFrom_0 rfl 0 rfl (z_getRl (pc := 1) fl_RX0_26 rfl dX0_changesFrom_1 (fun o3 => (z_iload_n (pc := 4) dX0_changesFrom_4 rfl 1 rfl (?_))))
  refine z_nn (fun a4 ea4 => ?_)
  subst ea4
  refine z_aaloadl (pc := 5) 25 (by decide) dX0_changesFrom_5 (fun o5 => (z_astore_n (pc := 6) (L' := [(0, vr (some a0)), (1, vi x1), (2, vi x2), (3, vr o5)]) dX0_changesFrom_6 rfl (Nat.le_of_ble_eq_true rfl) rfl (z_aload_n (pc := 7) dX0_changesFrom_7 rfl 0 rfl (z_getRl (pc := 8) fl_RX0_26 rfl dX0_changesFrom_8 (fun o6 => (z_iload_n (pc := 11) dX0_changesFrom_11 rfl 2 rfl (?_)))))))
  refine z_nn (fun a7 ea7 => ?_)
  subst ea7
  refine z_aaloadl (pc := 12) 25 (by decide) dX0_changesFrom_12 (fun o8 => (z_astore (pc := 13) (L' := [(0, vr (some a0)), (1, vi x1), (2, vi x2), (3, vr o5), (4, vr o8)]) dX0_changesFrom_13 (Nat.le_of_ble_eq_true rfl) rfl (z_aload_n (pc := 15) dX0_changesFrom_15 rfl 3 rfl (?_))))
  refine z_ifnull (pc := 16) (tgt := 30) dX0_changesFrom_16 (by decide) (fun ea9 => ?_) (fun a9 ea9 => ?_)
  · subst ea9
    refine z_iconst (pc := 30) dX0_changesFrom_30 ic_0 (z_goto (pc := 31) (tgt := 41) dX0_changesFrom_31 (by decide) (?_))
    exact z_iret (pc := 41) dX0_changesFrom_41 rfl rfl
  · subst ea9
    refine z_aload (pc := 19) dX0_changesFrom_19 4 rfl (?_)
    refine z_ifnull (pc := 21) (tgt := 30) dX0_changesFrom_21 (by decide) (fun ea10 => ?_) (fun a10 ea10 => ?_)
    · subst ea10
      refine z_iconst (pc := 30) dX0_changesFrom_30 ic_0 (z_goto (pc := 31) (tgt := 41) dX0_changesFrom_31 (by decide) (?_))
      exact z_iret (pc := 41) dX0_changesFrom_41 rfl rfl
    · subst ea10
      refine z_aload_n (pc := 24) dX0_changesFrom_24 rfl 3 rfl (z_aload (pc := 25) dX0_changesFrom_25 4 rfl (?_))
      refine z_acmpnel (pc := 27) (tgt := 34) dX0_changesFrom_27 (by decide) ?_ ?_
      · refine z_aload_n (pc := 34) dX0_changesFrom_34 rfl 0 rfl (z_aload_n (pc := 35) dX0_changesFrom_35 rfl 3 rfl (z_aload (pc := 36) dX0_changesFrom_36 4 rfl (z_callV_I (pc := 38) (avs := [vr (some a9), vr (some a10)]) (st := []) rfl (q := (RX0, TX0, 7)) rfl rfl (t_X0_changesBetween F a0 (some a9) (some a10) h0) ky_X0_changesBetween wm_X0_changesBetween we_X0_changesBetween wz_RX0_71 (rm_X0_changesFrom_X0_changesBetween) (Nat.le_of_ble_eq_true rfl) dX0_changesFrom_38 (fun x12 h11 => (?_)))))
        exact z_iret (pc := 41) dX0_changesFrom_41 rfl rfl
      · refine z_iconst (pc := 30) dX0_changesFrom_30 ic_0 (z_goto (pc := 31) (tgt := 41) dX0_changesFrom_31 (by decide) (?_))
        exact z_iret (pc := 41) dX0_changesFrom_41 rfl rfl
theorem dX0_leastSum_0 : decode cX0_leastSum 0 = .ok (.iconst 0, 1) := by decide +kernel
theorem dX0_leastSum_1 : decode cX0_leastSum 1 = .ok (.istore_n 1, 1) := by decide +kernel
theorem dX0_leastSum_2 : decode cX0_leastSum 2 = .ok (.aload_n 0, 1) := by decide +kernel
theorem dX0_leastSum_3 : decode cX0_leastSum 3 = .ok (.iconst 1, 1) := by decide +kernel
theorem dX0_leastSum_4 : decode cX0_leastSum 4 = .ok (.putfield 65, 3) := by decide +kernel
theorem dX0_leastSum_7 : decode cX0_leastSum 7 = .ok (.iconst 1, 1) := by decide +kernel
theorem dX0_leastSum_8 : decode cX0_leastSum 8 = .ok (.istore_n 2, 1) := by decide +kernel
theorem dX0_leastSum_9 : decode cX0_leastSum 9 = .ok (.iload_n 2, 1) := by decide +kernel
theorem dX0_leastSum_10 : decode cX0_leastSum 10 = .ok (.aload_n 0, 1) := by decide +kernel
theorem dX0_leastSum_11 : decode cX0_leastSum 11 = .ok (.getfield 44, 3) := by decide +kernel
theorem dX0_leastSum_14 : decode cX0_leastSum 14 = .ok (.if_icmp .ge 92, 3) := by decide +kernel
theorem dX0_leastSum_17 : decode cX0_leastSum 17 = .ok (.iconst 0, 1) := by decide +kernel
theorem dX0_leastSum_18 : decode cX0_leastSum 18 = .ok (.istore_n 3, 1) := by decide +kernel
theorem dX0_leastSum_19 : decode cX0_leastSum 19 = .ok (.iconst 0, 1) := by decide +kernel
theorem dX0_leastSum_20 : decode cX0_leastSum 20 = .ok (.istore 4, 2) := by decide +kernel
theorem dX0_leastSum_22 : decode cX0_leastSum 22 = .ok (.iconst 0, 1) := by decide +kernel
theorem dX0_leastSum_23 : decode cX0_leastSum 23 = .ok (.istore 5, 2) := by decide +kernel
theorem dX0_leastSum_25 : decode cX0_leastSum 25 = .ok (.iload 5, 2) := by decide +kernel
theorem dX0_leastSum_27 : decode cX0_leastSum 27 = .ok (.iload_n 2, 1) := by decide +kernel
theorem dX0_leastSum_28 : decode cX0_leastSum 28 = .ok (.if_icmp .ge 57, 3) := by decide +kernel
theorem dX0_leastSum_31 : decode cX0_leastSum 31 = .ok (.aload_n 0, 1) := by decide +kernel
theorem dX0_leastSum_32 : decode cX0_leastSum 32 = .ok (.aload_n 0, 1) := by decide +kernel
theorem dX0_leastSum_33 : decode cX0_leastSum 33 = .ok (.getfield 18, 3) := by decide +kernel
theorem dX0_leastSum_36 : decode cX0_leastSum 36 = .ok (.iload 5, 2) := by decide +kernel
theorem dX0_leastSum_38 : decode cX0_leastSum 38 = .ok (.iaload, 1) := by decide +kernel
theorem dX0_leastSum_39 : decode cX0_leastSum 39 = .ok (.aload_n 0, 1) := by decide +kernel
theorem dX0_leastSum_40 : decode cX0_leastSum 40 = .ok (.getfield 18, 3) := by decide +kernel
theorem dX0_leastSum_43 : decode cX0_leastSum 43 = .ok (.iload_n 2, 1) := by decide +kernel
theorem dX0_leastSum_44 : decode cX0_leastSum 44 = .ok (.iaload, 1) := by decide +kernel
theorem dX0_leastSum_45 : decode cX0_leastSum 45 = .ok (.invokevirtual 68, 3) := by decide +kernel
theorem dX0_leastSum_48 : decode cX0_leastSum 48 = .ok (.istore 6, 2) := by decide +kernel
theorem dX0_leastSum_50 : decode cX0_leastSum 50 = .ok (.iload 4, 2) := by decide +kernel
theorem dX0_leastSum_52 : decode cX0_leastSum 52 = .ok (.ifCond .eq 9, 3) := by decide +kernel
theorem dX0_leastSum_55 : decode cX0_leastSum 55 = .ok (.iload 6, 2) := by decide +kernel
theorem dX0_leastSum_57 : decode cX0_leastSum 57 = .ok (.iload_n 3, 1) := by decide +kernel
theorem dX0_leastSum_58 : decode cX0_leastSum 58 = .ok (.if_icmp .ge 12, 3) := by decide +kernel
theorem dX0_leastSum_61 : decode cX0_leastSum 61 = .ok (.iload 6, 2) := by decide +kernel
theorem dX0_leastSum_63 : decode cX0_leastSum 63 = .ok (.istore_n 3, 1) := by decide +kernel
theorem dX0_leastSum_64 : decode cX0_leastSum 64 = .ok (.iconst 1, 1) := by decide +kernel
theorem dX0_leastSum_65 : decode cX0_leastSum 65 = .ok (.istore 4, 2) := by decide +kernel
theorem dX0_leastSum_67 : decode cX0_leastSum 67 = .ok (.goto 12, 3) := by decide +kernel
theorem dX0_leastSum_70 : decode cX0_leastSum 70 = .ok (.iload 6, 2) := by decide +kernel
theorem dX0_leastSum_72 : decode cX0_leastSum 72 = .ok (.iload_n 3, 1) := by decide +kernel
theorem dX0_leastSum_73 : decode cX0_leastSum 73 = .ok (.if_icmp .ne 6, 3) := by decide +kernel
theorem dX0_leastSum_76 : decode cX0_leastSum 76 = .ok (.iinc 4 1, 3) := by decide +kernel
theorem dX0_leastSum_79 : decode cX0_leastSum 79 = .ok (.iinc 5 1, 3) := by decide +kernel
theorem dX0_leastSum_82 : decode cX0_leastSum 82 = .ok (.goto (-57), 3) := by decide +kernel
theorem dX0_leastSum_85 : decode cX0_leastSum 85 = .ok (.iload_n 1, 1) := by decide +kernel
theorem dX0_leastSum_86 : decode cX0_leastSum 86 = .ok (.iload_n 3, 1) := by decide +kernel
theorem dX0_leastSum_87 : decode cX0_leastSum 87 = .ok (.iadd, 1) := by decide +kernel
theorem dX0_leastSum_88 : decode cX0_leastSum 88 = .ok (.istore_n 1, 1) := by decide +kernel
theorem dX0_leastSum_89 : decode cX0_leastSum 89 = .ok (.aload_n 0, 1) := by decide +kernel
theorem dX0_leastSum_90 : decode cX0_leastSum 90 = .ok (.dup, 1) := by decide +kernel
theorem dX0_leastSum_91 : decode cX0_leastSum 91 = .ok (.getfield 65, 3) := by decide +kernel
theorem dX0_leastSum_94 : decode cX0_leastSum 94 = .ok (.iload 4, 2) := by decide +kernel
theorem dX0_leastSum_96 : decode cX0_leastSum 96 = .ok (.imul, 1) := by decide +kernel
theorem dX0_leastSum_97 : decode cX0_leastSum 97 = .ok (.putfield 65, 3) := by decide +kernel
theorem dX0_leastSum_100 : decode cX0_leastSum 100 = .ok (.iinc 2 1, 3) := by decide +kernel
theorem dX0_leastSum_103 : decode cX0_leastSum 103 = .ok (.goto (-94), 3) := by decide +kernel
theorem dX0_leastSum_106 : decode cX0_leastSum 106 = .ok (.iload_n 1, 1) := by decide +kernel
theorem dX0_leastSum_107 : decode cX0_leastSum 107 = .ok (.ireturn, 1) := by decide +kernel
def c_X0_leastSum_L25 (F : Nat) (a6 : Nat) (x7 : Int32) (x8 : Int32) (k85 : Int32 → Int32 → z_Hp → Option (Int32 × z_Hp)) : Nat → Int32 → Int32 → Int32 → z_Hp → Option (Int32 × z_Hp)
  | 0, _, _, _, _ => none
  | n + 1, x9, x10, x11, h12 => (if x8 ≤ x11 then (k85 x9 x10 h12) else (if hT h12 a6 = 0 then (lt_ (hR h12 a6 2) (fun o16 => (nn o16 (fun a17 => (if okA h12 a17 20 x11 = true then (if hT h12 a6 = 0 then (lt_ (hR h12 a6 2) (fun o18 => (nn o18 (fun a19 => (if okA h12 a19 20 x8 = true then (if hT h12 a6 = 0 then (bI (c_X0_changesFrom F a6 (hI h12 a17 (ix x11)) (hI h12 a19 (ix x8)) h12) (fun x21 h20 => (lt_ (fun (x23 : Int32) (x24 : Int32) (h25 : z_Hp) => (lt_ (x11 + 1) (fun x26 => (c_X0_leastSum_L25 F a6 x7 x8 k85 n x23 x24 x26 h25)))) (fun (j79_22 : Int32 → Int32 → z_Hp → Option (Int32 × z_Hp)) => (lt_ (fun (h28 : z_Hp) => (j79_22 x21 1 h28)) (fun (j61_27 : z_Hp → Option (Int32 × z_Hp)) => (if x10 = 0 then (j61_27 h20) else (if x9 ≤ x21 then (if x21 = x9 then (lt_ (x10 + 1) (fun x29 => (j79_22 x9 x29 h20))) else (j79_22 x9 x10 h20)) else (j61_27 h20))))))))) else none) else none))))) else none) else none))))) else none))
def c_X0_leastSum_L9 (F : Nat) (a2 : Nat) : Nat → Int32 → Int32 → z_Hp → Option (Int32 × z_Hp)
  | 0, _, _, _ => none
  | n + 1, x3, x4, h5 => (if hT h5 a2 = 0 then (if (hI h5 a2 5) ≤ x4 then (some (x3, h5)) else (c_X0_leastSum_L25 F a2 x3 x4 (fun x30 x31 h32 => (lt_ (x3 + x30) (fun x33 => (if hT h32 a2 = 0 then (if hT h32 a2 = 0 then (lt_ (sI h32 a2 6 ((hI h32 a2 6) * x31)) (fun h34 => (lt_ (x4 + 1) (fun x35 => (c_X0_leastSum_L9 F a2 n x33 x35 h34))))) else none) else none)))) F 0 0 0 h5)) else none)
def c_X0_leastSum (F : Nat) (a0 : Nat) (h0 : z_Hp) : Option (Int32 × z_Hp) := (if hT h0 a0 = 0 then (lt_ (sI h0 a0 6 1) (fun h1 => (c_X0_leastSum_L9 F a0 F 0 1 h1))) else none)
set_option maxRecDepth 20000 in
set_option maxHeartbeats 4000000 in
theorem g_X0_leastSum_L25 (F : Nat) (a6 : Nat) (x7 : Int32) (x8 : Int32) (k85 : Int32 → Int32 → z_Hp → Option (Int32 × z_Hp)) (qk85 : ∀ (x13 : Int32) (x14 : Int32) (h15 : z_Hp), z_G zi mi_X0_leastSum 85 [(0, vr (some a6)), (1, vi x7), (2, vi x8), (3, vi x13), (4, vi x14)] [] h15 (k85 x13 x14 h15)) : ∀ (n : Nat) (x9 : Int32) (x10 : Int32) (x11 : Int32) (h12 : z_Hp), z_G zi mi_X0_leastSum 25 [(0, vr (some a6)), (1, vi x7), (2, vi x8), (3, vi x9), (4, vi x10), (5, vi x11)] [] h12 (c_X0_leastSum_L25 F a6 x7 x8 k85 n x9 x10 x11 h12) := by
  intro n
  induction n with
  | zero => intro x9 x10 x11 h12; rw [c_X0_leastSum_L25]; exact z_none
  | succ n ih =>
    intro x9 x10 x11 h12
    rw [c_X0_leastSum_L25]
    refine z_iload (pc := 25) dX0_leastSum_25 5 rfl (z_iload_n (pc := 27) dX0_leastSum_27 rfl 2 rfl (?_))
    refine z_icmp_ge (pc := 28) (tgt := 85) dX0_leastSum_28 (by decide) ?_ ?_
    · exact z_sub [0, 1, 2, 3, 4] rfl (qk85 x9 x10 h12)
    · refine z_aload_n (pc := 31) dX0_leastSum_31 rfl 0 rfl (z_aload_n (pc := 32) dX0_leastSum_32 rfl 0 rfl (z_getRl (pc := 33) fl_RX0_18 rfl dX0_leastSum_33 (fun o16 => (z_iload (pc := 36) dX0_leastSum_36 5 rfl (?_)))))
      refine z_nn (fun a17 ea17 => ?_)
      subst ea17
      refine z_iaload (pc := 38) dX0_leastSum_38 (z_aload_n (pc := 39) dX0_leastSum_39 rfl 0 rfl (z_getRl (pc := 40) fl_RX0_18 rfl dX0_leastSum_40 (fun o18 => (z_iload_n (pc := 43) dX0_leastSum_43 rfl 2 rfl (?_)))))
      refine z_nn (fun a19 ea19 => ?_)
      subst ea19
      refine z_iaload (pc := 44) dX0_leastSum_44 (z_callV_I (pc := 45) (avs := [vi (hI h12 a17 (ix x11)), vi (hI h12 a19 (ix x8))]) (st := []) rfl (q := (RX0, TX0, 7)) rfl rfl (t_X0_changesFrom F a6 (hI h12 a17 (ix x11)) (hI h12 a19 (ix x8)) h12) ky_X0_changesFrom wm_X0_changesFrom we_X0_changesFrom wz_RX0_68 (rm_X0_leastSum_X0_changesFrom) (Nat.le_of_ble_eq_true rfl) dX0_leastSum_45 (fun x21 h20 => (?_)))
      refine z_istore (pc := 48) (L' := [(0, vr (some a6)), (1, vi x7), (2, vi x8), (3, vi x9), (4, vi x10), (5, vi x11), (6, vi x21)]) dX0_leastSum_48 (Nat.le_of_ble_eq_true rfl) rfl (z_iload (pc := 50) dX0_leastSum_50 4 rfl (?_))
      refine z_jn (P := fun (j : Int32 → Int32 → z_Hp → Option (Int32 × z_Hp)) => ∀ (x23 : Int32) (x24 : Int32) (h25 : z_Hp), z_G zi mi_X0_leastSum 79 [(0, vr (some a6)), (1, vi x7), (2, vi x8), (3, vi x23), (4, vi x24), (5, vi x11)] [] h25 (j x23 x24 h25)) (fun x23 x24 h25 => ?_) (fun j79_22 qj79_22 => ?_)
      · refine z_iincl (pc := 79) (L' := fun x26 => [(0, vr (some a6)), (1, vi x7), (2, vi x8), (3, vi x23), (4, vi x24), (5, vi x26)]) dX0_leastSum_79 5 rfl ic_1 (Nat.le_of_ble_eq_true rfl) (fun _ => rfl) (fun x26 => (z_goto (pc := 82) (tgt := 25) dX0_leastSum_82 (by decide) (?_)))
        exact ih x23 x24 x26 h25
      refine z_jn (P := fun (j : z_Hp → Option (Int32 × z_Hp)) => ∀ (h28 : z_Hp), z_G zi mi_X0_leastSum 61 [(0, vr (some a6)), (1, vi x7), (2, vi x8), (5, vi x11), (6, vi x21)] [] h28 (j h28)) (fun h28 => ?_) (fun j61_27 qj61_27 => ?_)
      · refine z_iload (pc := 61) dX0_leastSum_61 4 rfl (z_istore_n (pc := 63) (L' := [(0, vr (some a6)), (1, vi x7), (2, vi x8), (3, vi x21), (5, vi x11), (6, vi x21)]) dX0_leastSum_63 rfl (Nat.le_of_ble_eq_true rfl) rfl (z_iconst (pc := 64) dX0_leastSum_64 ic_1 (z_istore (pc := 65) (L' := [(0, vr (some a6)), (1, vi x7), (2, vi x8), (3, vi x21), (4, vi 1), (5, vi x11), (6, vi x21)]) dX0_leastSum_65 (Nat.le_of_ble_eq_true rfl) rfl (z_goto (pc := 67) (tgt := 79) dX0_leastSum_67 (by decide) (?_)))))
        exact z_sub [0, 1, 2, 3, 4, 5] rfl (qj79_22 x21 1 h28)
      refine z_if_eq (pc := 52) (tgt := 61) dX0_leastSum_52 (by decide) ?_ ?_
      · exact z_sub [0, 1, 2, 5, 6] rfl (qj61_27 h20)
      · refine z_iload (pc := 55) dX0_leastSum_55 6 rfl (z_iload_n (pc := 57) dX0_leastSum_57 rfl 3 rfl (?_))
        refine z_icmp_ge (pc := 58) (tgt := 70) dX0_leastSum_58 (by decide) ?_ ?_
        · refine z_iload (pc := 70) dX0_leastSum_70 6 rfl (z_iload_n (pc := 72) dX0_leastSum_72 rfl 3 rfl (?_))
          refine z_icmp_ne (pc := 73) (tgt := 79) dX0_leastSum_73 (by decide) ?_ ?_
          · exact z_sub [0, 1, 2, 3, 4, 5] rfl (qj79_22 x9 x10 h20)
          · refine z_iincl (pc := 76) (L' := fun x29 => [(0, vr (some a6)), (1, vi x7), (2, vi x8), (3, vi x9), (4, vi x29), (5, vi x11), (6, vi x21)]) dX0_leastSum_76 4 rfl ic_1 (Nat.le_of_ble_eq_true rfl) (fun _ => rfl) (fun x29 => (?_))
            exact z_sub [0, 1, 2, 3, 4, 5] rfl (qj79_22 x9 x29 h20)
        · exact z_sub [0, 1, 2, 5, 6] rfl (qj61_27 h20)
set_option maxRecDepth 20000 in
set_option maxHeartbeats 4000000 in
theorem g_X0_leastSum_L9 (F : Nat) (a2 : Nat) : ∀ (n : Nat) (x3 : Int32) (x4 : Int32) (h5 : z_Hp), z_G zi mi_X0_leastSum 9 [(0, vr (some a2)), (1, vi x3), (2, vi x4)] [] h5 (c_X0_leastSum_L9 F a2 n x3 x4 h5) := by
  intro n
  induction n with
  | zero => intro x3 x4 h5; rw [c_X0_leastSum_L9]; exact z_none
  | succ n ih =>
    intro x3 x4 h5
    rw [c_X0_leastSum_L9]
    refine z_iload_n (pc := 9) dX0_leastSum_9 rfl 2 rfl (z_aload_n (pc := 10) dX0_leastSum_10 rfl 0 rfl (z_getI (pc := 11) fl_RX0_44 rfl dX0_leastSum_11 (?_)))
    refine z_icmp_ge (pc := 14) (tgt := 106) dX0_leastSum_14 (by decide) ?_ ?_
    · refine z_iload_n (pc := 106) dX0_leastSum_106 rfl 1 rfl (?_)
      exact z_iret (pc := 107) dX0_leastSum_107 rfl rfl
    · refine z_iconst (pc := 17) dX0_leastSum_17 ic_0 (z_istore_n (pc := 18) (L' := [(0, vr (some a2)), (1, vi x3), (2, vi x4), (3, vi 0)]) dX0_leastSum_18 rfl (Nat.le_of_ble_eq_true rfl) rfl (z_iconst (pc := 19) dX0_leastSum_19 ic_0 (z_istore (pc := 20) (L' := [(0, vr (some a2)), (1, vi x3), (2, vi x4), (3, vi 0), (4, vi 0)]) dX0_leastSum_20 (Nat.le_of_ble_eq_true rfl) rfl (z_iconst (pc := 22) dX0_leastSum_22 ic_0 (z_istore (pc := 23) (L' := [(0, vr (some a2)), (1, vi x3), (2, vi x4), (3, vi 0), (4, vi 0), (5, vi 0)]) dX0_leastSum_23 (Nat.le_of_ble_eq_true rfl) rfl (?_))))))
      refine g_X0_leastSum_L25 F a2 x3 x4 _ (fun x30 x31 h32 => ?_) F 0 0 0 h5
      refine z_iload_n (pc := 85) dX0_leastSum_85 rfl 1 rfl (z_iload_n (pc := 86) dX0_leastSum_86 rfl 3 rfl (z_iadd (pc := 87) dX0_leastSum_87 (z_istorel_n (pc := 88) (L' := fun x33 => [(0, vr (some a2)), (1, vi x33), (2, vi x4), (3, vi x30), (4, vi x31)]) dX0_leastSum_88 rfl (Nat.le_of_ble_eq_true rfl) (fun _ => rfl) (fun x33 => (z_aload_n (pc := 89) dX0_leastSum_89 rfl 0 rfl (z_dup (pc := 90) dX0_leastSum_90 rfl (z_getI (pc := 91) fl_RX0_65 rfl dX0_leastSum_91 (z_iload (pc := 94) dX0_leastSum_94 4 rfl (?_)))))))))
      refine z_imul (pc := 96) dX0_leastSum_96 (z_putIl (pc := 97) fl_RX0_65 (fin_X_0_6 _) rfl dX0_leastSum_97 (fun h34 => (z_iincl (pc := 100) (L' := fun x35 => [(0, vr (some a2)), (1, vi x33), (2, vi x35), (3, vi x30), (4, vi x31)]) dX0_leastSum_100 2 rfl ic_1 (Nat.le_of_ble_eq_true rfl) (fun _ => rfl) (fun x35 => (z_goto (pc := 103) (tgt := 9) dX0_leastSum_103 (by decide) (?_))))))
      exact z_sub [0, 1, 2] rfl (ih x33 x35 h34)
set_option maxRecDepth 20000 in
set_option maxHeartbeats 4000000 in
theorem t_X0_leastSum (F : Nat) (a0 : Nat) (h0 : z_Hp) : z_Ct zi mi_X0_leastSum [vr (some a0)] h0 (c_X0_leastSum F a0 h0) := by
  refine z_entry (by decide) (Nat.le_of_ble_eq_true rfl) [(0, vr (some a0))] rfl ?_
  unfold c_X0_leastSum
  refine z_iconst (pc := 0) dX0_leastSum_0 ic_0 (z_istore_n (pc := 1) (L' := [(0, vr (some a0)), (1, vi 0)]) dX0_leastSum_1 rfl (Nat.le_of_ble_eq_true rfl) rfl (z_aload_n (pc := 2) dX0_leastSum_2 rfl 0 rfl (z_iconst (pc := 3) dX0_leastSum_3 ic_1 (z_putIl (pc := 4) fl_RX0_65 (fin_X_0_6 _) rfl dX0_leastSum_4 (fun h1 => (z_iconst (pc := 7) dX0_leastSum_7 ic_1 (z_istore_n (pc := 8) (L' := [(0, vr (some a0)), (1, vi 0), (2, vi 1)]) dX0_leastSum_8 rfl (Nat.le_of_ble_eq_true rfl) rfl (?_))))))))
  refine g_X0_leastSum_L9 F a0 F 0 1 h1
theorem dX0_canDescend_0 : decode cX0_canDescend 0 = .ok (.iload_n 2, 1) := by decide +kernel
theorem dX0_canDescend_1 : decode cX0_canDescend 1 = .ok (.bipush (-9), 2) := by decide +kernel
theorem dX0_canDescend_3 : decode cX0_canDescend 3 = .ok (.if_icmp .ne 18, 3) := by decide +kernel
theorem dX0_canDescend_6 : decode cX0_canDescend 6 = .ok (.aload_n 0, 1) := by decide +kernel
theorem dX0_canDescend_7 : decode cX0_canDescend 7 = .ok (.getfield 21, 3) := by decide +kernel
theorem dX0_canDescend_10 : decode cX0_canDescend 10 = .ok (.iload_n 1, 1) := by decide +kernel
theorem dX0_canDescend_11 : decode cX0_canDescend 11 = .ok (.iaload, 1) := by decide +kernel
theorem dX0_canDescend_12 : decode cX0_canDescend 12 = .ok (.ifCond .ne 7, 3) := by decide +kernel
theorem dX0_canDescend_15 : decode cX0_canDescend 15 = .ok (.iconst 1, 1) := by decide +kernel
theorem dX0_canDescend_16 : decode cX0_canDescend 16 = .ok (.goto 4, 3) := by decide +kernel
theorem dX0_canDescend_19 : decode cX0_canDescend 19 = .ok (.iconst 0, 1) := by decide +kernel
theorem dX0_canDescend_20 : decode cX0_canDescend 20 = .ok (.ireturn, 1) := by decide +kernel
theorem dX0_canDescend_21 : decode cX0_canDescend 21 = .ok (.iload_n 2, 1) := by decide +kernel
theorem dX0_canDescend_22 : decode cX0_canDescend 22 = .ok (.ifCond .lt 20, 3) := by decide +kernel
theorem dX0_canDescend_25 : decode cX0_canDescend 25 = .ok (.iload_n 2, 1) := by decide +kernel
theorem dX0_canDescend_26 : decode cX0_canDescend 26 = .ok (.bipush 20, 2) := by decide +kernel
theorem dX0_canDescend_28 : decode cX0_canDescend 28 = .ok (.if_icmp .ge 14, 3) := by decide +kernel
theorem dX0_canDescend_31 : decode cX0_canDescend 31 = .ok (.aload_n 0, 1) := by decide +kernel
theorem dX0_canDescend_32 : decode cX0_canDescend 32 = .ok (.getfield 21, 3) := by decide +kernel
theorem dX0_canDescend_35 : decode cX0_canDescend 35 = .ok (.iload_n 2, 1) := by decide +kernel
theorem dX0_canDescend_36 : decode cX0_canDescend 36 = .ok (.iaload, 1) := by decide +kernel
theorem dX0_canDescend_37 : decode cX0_canDescend 37 = .ok (.bipush (-9), 2) := by decide +kernel
theorem dX0_canDescend_39 : decode cX0_canDescend 39 = .ok (.if_icmp .ne 5, 3) := by decide +kernel
theorem dX0_canDescend_42 : decode cX0_canDescend 42 = .ok (.iconst 0, 1) := by decide +kernel
theorem dX0_canDescend_43 : decode cX0_canDescend 43 = .ok (.ireturn, 1) := by decide +kernel
theorem dX0_canDescend_44 : decode cX0_canDescend 44 = .ok (.aload_n 0, 1) := by decide +kernel
theorem dX0_canDescend_45 : decode cX0_canDescend 45 = .ok (.getfield 21, 3) := by decide +kernel
theorem dX0_canDescend_48 : decode cX0_canDescend 48 = .ok (.iload_n 2, 1) := by decide +kernel
theorem dX0_canDescend_49 : decode cX0_canDescend 49 = .ok (.iaload, 1) := by decide +kernel
theorem dX0_canDescend_50 : decode cX0_canDescend 50 = .ok (.aload_n 0, 1) := by decide +kernel
theorem dX0_canDescend_51 : decode cX0_canDescend 51 = .ok (.getfield 21, 3) := by decide +kernel
theorem dX0_canDescend_54 : decode cX0_canDescend 54 = .ok (.iload_n 1, 1) := by decide +kernel
theorem dX0_canDescend_55 : decode cX0_canDescend 55 = .ok (.iaload, 1) := by decide +kernel
theorem dX0_canDescend_56 : decode cX0_canDescend 56 = .ok (.if_icmp .ge 7, 3) := by decide +kernel
theorem dX0_canDescend_59 : decode cX0_canDescend 59 = .ok (.iconst 1, 1) := by decide +kernel
theorem dX0_canDescend_60 : decode cX0_canDescend 60 = .ok (.goto 4, 3) := by decide +kernel
theorem dX0_canDescend_63 : decode cX0_canDescend 63 = .ok (.iconst 0, 1) := by decide +kernel
theorem dX0_canDescend_64 : decode cX0_canDescend 64 = .ok (.ireturn, 1) := by decide +kernel
def c_X0_canDescend (F : Nat) (a0 : Nat) (x1 : Int32) (x2 : Int32) (h0 : z_Hp) : Option (Int32 × z_Hp) := (if x2 = (-9) then (if hT h0 a0 = 0 then (lt_ (hR h0 a0 3) (fun o9 => (nn o9 (fun a10 => (if okA h0 a10 20 x1 = true then (if (hI h0 a10 (ix x1)) = 0 then (some (1, h0)) else (some (0, h0))) else none))))) else none) else (if x2 < 0 then (some (0, h0)) else (if 20 ≤ x2 then (some (0, h0)) else (if hT h0 a0 = 0 then (lt_ (hR h0 a0 3) (fun o3 => (nn o3 (fun a4 => (if okA h0 a4 20 x2 = true then (if (hI h0 a4 (ix x2)) = (-9) then (some (0, h0)) else (if hT h0 a0 = 0 then (lt_ (hR h0 a0 3) (fun o5 => (nn o5 (fun a6 => (if okA h0 a6 20 x2 = true then (if hT h0 a0 = 0 then (lt_ (hR h0 a0 3) (fun o7 => (nn o7 (fun a8 => (if okA h0 a8 20 x1 = true then (if (hI h0 a8 (ix x1)) ≤ (hI h0 a6 (ix x2)) then (some (0, h0)) else (some (1, h0))) else none))))) else none) else none))))) else none)) else none))))) else none))))
set_option maxRecDepth 20000 in
set_option maxHeartbeats 4000000 in
theorem t_X0_canDescend (F : Nat) (a0 : Nat) (x1 : Int32) (x2 : Int32) (h0 : z_Hp) : z_Ct zi mi_X0_canDescend [vr (some a0), vi x1, vi x2] h0 (c_X0_canDescend F a0 x1 x2 h0) := by
  refine z_entry (by decide) (Nat.le_of_ble_eq_true rfl) [(0, vr (some a0)), (1, vi x1), (2, vi x2)] rfl ?_
  unfold c_X0_canDescend
  refine z_iload_n (pc := 0) dX0_canDescend_0 rfl 2 rfl (z_bipush (pc := 1) dX0_canDescend_1 bp_m9 (?_))
  refine z_icmp_ne (pc := 3) (tgt := 21) dX0_canDescend_3 (by decide) ?_ ?_
  · refine z_iload_n (pc := 21) dX0_canDescend_21 rfl 2 rfl (?_)
    refine z_if_lt (pc := 22) (tgt := 42) dX0_canDescend_22 (by decide) ?_ ?_
    · refine z_iconst (pc := 42) dX0_canDescend_42 ic_0 (?_)
      exact z_iret (pc := 43) dX0_canDescend_43 rfl rfl
    · refine z_iload_n (pc := 25) dX0_canDescend_25 rfl 2 rfl (z_bipush (pc := 26) dX0_canDescend_26 bp_20 (?_))
      refine z_icmp_ge (pc := 28) (tgt := 42) dX0_canDescend_28 (by decide) ?_ ?_
      · refine z_iconst (pc := 42) dX0_canDescend_42 ic_0 (?_)
        exact z_iret (pc := 43) dX0_canDescend_43 rfl rfl
      · refine z_aload_n (pc := 31) dX0_canDescend_31 rfl 0 rfl (z_getRl (pc := 32) fl_RX0_21 rfl dX0_canDescend_32 (fun o3 => (z_iload_n (pc := 35) dX0_canDescend_35 rfl 2 rfl (?_))))
        refine z_nn (fun a4 ea4 => ?_)
        subst ea4
        refine z_iaload (pc := 36) dX0_canDescend_36 (z_bipush (pc := 37) dX0_canDescend_37 bp_m9 (?_))
        refine z_icmp_ne (pc := 39) (tgt := 44) dX0_canDescend_39 (by decide) ?_ ?_
        · refine z_aload_n (pc := 44) dX0_canDescend_44 rfl 0 rfl (z_getRl (pc := 45) fl_RX0_21 rfl dX0_canDescend_45 (fun o5 => (z_iload_n (pc := 48) dX0_canDescend_48 rfl 2 rfl (?_))))
          refine z_nn (fun a6 ea6 => ?_)
          subst ea6
          refine z_iaload (pc := 49) dX0_canDescend_49 (z_aload_n (pc := 50) dX0_canDescend_50 rfl 0 rfl (z_getRl (pc := 51) fl_RX0_21 rfl dX0_canDescend_51 (fun o7 => (z_iload_n (pc := 54) dX0_canDescend_54 rfl 1 rfl (?_)))))
          refine z_nn (fun a8 ea8 => ?_)
          subst ea8
          refine z_iaload (pc := 55) dX0_canDescend_55 (?_)
          refine z_icmp_ge (pc := 56) (tgt := 63) dX0_canDescend_56 (by decide) ?_ ?_
          · refine z_iconst (pc := 63) dX0_canDescend_63 ic_0 (?_)
            exact z_iret (pc := 64) dX0_canDescend_64 rfl rfl
          · refine z_iconst (pc := 59) dX0_canDescend_59 ic_1 (z_goto (pc := 60) (tgt := 64) dX0_canDescend_60 (by decide) (?_))
            exact z_iret (pc := 64) dX0_canDescend_64 rfl rfl
        · refine z_iconst (pc := 42) dX0_canDescend_42 ic_0 (?_)
          exact z_iret (pc := 43) dX0_canDescend_43 rfl rfl
  · refine z_aload_n (pc := 6) dX0_canDescend_6 rfl 0 rfl (z_getRl (pc := 7) fl_RX0_21 rfl dX0_canDescend_7 (fun o9 => (z_iload_n (pc := 10) dX0_canDescend_10 rfl 1 rfl (?_))))
    refine z_nn (fun a10 ea10 => ?_)
    subst ea10
    refine z_iaload (pc := 11) dX0_canDescend_11 (?_)
    refine z_if_ne (pc := 12) (tgt := 19) dX0_canDescend_12 (by decide) ?_ ?_
    · refine z_iconst (pc := 19) dX0_canDescend_19 ic_0 (?_)
      exact z_iret (pc := 20) dX0_canDescend_20 rfl rfl
    · refine z_iconst (pc := 15) dX0_canDescend_15 ic_1 (z_goto (pc := 16) (tgt := 20) dX0_canDescend_16 (by decide) (?_))
      exact z_iret (pc := 20) dX0_canDescend_20 rfl rfl
theorem dX0_firstWrongParent_0 : decode cX0_firstWrongParent 0 = .ok (.iconst 0, 1) := by decide +kernel
theorem dX0_firstWrongParent_1 : decode cX0_firstWrongParent 1 = .ok (.istore_n 2, 1) := by decide +kernel
theorem dX0_firstWrongParent_2 : decode cX0_firstWrongParent 2 = .ok (.iload_n 2, 1) := by decide +kernel
theorem dX0_firstWrongParent_3 : decode cX0_firstWrongParent 3 = .ok (.aload_n 0, 1) := by decide +kernel
theorem dX0_firstWrongParent_4 : decode cX0_firstWrongParent 4 = .ok (.getfield 44, 3) := by decide +kernel
theorem dX0_firstWrongParent_7 : decode cX0_firstWrongParent 7 = .ok (.if_icmp .ge 38, 3) := by decide +kernel
theorem dX0_firstWrongParent_10 : decode cX0_firstWrongParent 10 = .ok (.iload_n 2, 1) := by decide +kernel
theorem dX0_firstWrongParent_11 : decode cX0_firstWrongParent 11 = .ok (.aload_n 1, 1) := by decide +kernel
theorem dX0_firstWrongParent_12 : decode cX0_firstWrongParent 12 = .ok (.arraylength, 1) := by decide +kernel
theorem dX0_firstWrongParent_13 : decode cX0_firstWrongParent 13 = .ok (.if_icmp .ge 32, 3) := by decide +kernel
theorem dX0_firstWrongParent_16 : decode cX0_firstWrongParent 16 = .ok (.aload_n 0, 1) := by decide +kernel
theorem dX0_firstWrongParent_17 : decode cX0_firstWrongParent 17 = .ok (.aload_n 0, 1) := by decide +kernel
theorem dX0_firstWrongParent_18 : decode cX0_firstWrongParent 18 = .ok (.getfield 15, 3) := by decide +kernel
theorem dX0_firstWrongParent_21 : decode cX0_firstWrongParent 21 = .ok (.iload_n 2, 1) := by decide +kernel
theorem dX0_firstWrongParent_22 : decode cX0_firstWrongParent 22 = .ok (.iaload, 1) := by decide +kernel
theorem dX0_firstWrongParent_23 : decode cX0_firstWrongParent 23 = .ok (.aload_n 1, 1) := by decide +kernel
theorem dX0_firstWrongParent_24 : decode cX0_firstWrongParent 24 = .ok (.iload_n 2, 1) := by decide +kernel
theorem dX0_firstWrongParent_25 : decode cX0_firstWrongParent 25 = .ok (.iaload, 1) := by decide +kernel
theorem dX0_firstWrongParent_26 : decode cX0_firstWrongParent 26 = .ok (.invokevirtual 75, 3) := by decide +kernel
theorem dX0_firstWrongParent_29 : decode cX0_firstWrongParent 29 = .ok (.ifCond .ne 10, 3) := by decide +kernel
theorem dX0_firstWrongParent_32 : decode cX0_firstWrongParent 32 = .ok (.aload_n 0, 1) := by decide +kernel
theorem dX0_firstWrongParent_33 : decode cX0_firstWrongParent 33 = .ok (.getfield 15, 3) := by decide +kernel
theorem dX0_firstWrongParent_36 : decode cX0_firstWrongParent 36 = .ok (.iload_n 2, 1) := by decide +kernel
theorem dX0_firstWrongParent_37 : decode cX0_firstWrongParent 37 = .ok (.iaload, 1) := by decide +kernel
theorem dX0_firstWrongParent_38 : decode cX0_firstWrongParent 38 = .ok (.ireturn, 1) := by decide +kernel
theorem dX0_firstWrongParent_39 : decode cX0_firstWrongParent 39 = .ok (.iinc 2 1, 3) := by decide +kernel
theorem dX0_firstWrongParent_42 : decode cX0_firstWrongParent 42 = .ok (.goto (-40), 3) := by decide +kernel
theorem dX0_firstWrongParent_45 : decode cX0_firstWrongParent 45 = .ok (.bipush (-9), 2) := by decide +kernel
theorem dX0_firstWrongParent_47 : decode cX0_firstWrongParent 47 = .ok (.ireturn, 1) := by decide +kernel
def c_X0_firstWrongParent_L2 (F : Nat) (a2 : Nat) (o3 : Option Nat) : Nat → Int32 → z_Hp → Option (Int32 × z_Hp)
  | 0, _, _ => none
  | n + 1, x4, h5 => (if hT h5 a2 = 0 then (if (hI h5 a2 5) ≤ x4 then (some ((-9), h5)) else (nn o3 (fun a6 => (if okL h5 a6 = true then (if (nI (hN h5 a6)) ≤ x4 then (some ((-9), h5)) else (if hT h5 a2 = 0 then (lt_ (hR h5 a2 1) (fun o7 => (nn o7 (fun a8 => (if okA h5 a8 20 x4 = true then (if okA h5 a6 20 x4 = true then (if hT h5 a2 = 0 then (bI (c_X0_canDescend F a2 (hI h5 a8 (ix x4)) (hI h5 a6 (ix x4)) h5) (fun x10 h9 => (if x10 = 0 then (if hT h9 a2 = 0 then (lt_ (hR h9 a2 1) (fun o12 => (nn o12 (fun a13 => (if okA h9 a13 20 x4 = true then (some (hI h9 a13 (ix x4), h9)) else none))))) else none) else (lt_ (x4 + 1) (fun x11 => (c_X0_firstWrongParent_L2 F a2 o3 n x11 h9)))))) else none) else none) else none))))) else none)) else none)))) else none)
def c_X0_firstWrongParent (F : Nat) (a0 : Nat) (o1 : Option Nat) (h0 : z_Hp) : Option (Int32 × z_Hp) := (c_X0_firstWrongParent_L2 F a0 o1 F 0 h0)
set_option maxRecDepth 20000 in
set_option maxHeartbeats 4000000 in
theorem g_X0_firstWrongParent_L2 (F : Nat) (a2 : Nat) (o3 : Option Nat) : ∀ (n : Nat) (x4 : Int32) (h5 : z_Hp), z_G zi mi_X0_firstWrongParent 2 [(0, vr (some a2)), (1, vr o3), (2, vi x4)] [] h5 (c_X0_firstWrongParent_L2 F a2 o3 n x4 h5) := by
  intro n
  induction n with
  | zero => intro x4 h5; rw [c_X0_firstWrongParent_L2]; exact z_none
  | succ n ih =>
    intro x4 h5
    rw [c_X0_firstWrongParent_L2]
    refine z_iload_n (pc := 2) dX0_firstWrongParent_2 rfl 2 rfl (z_aload_n (pc := 3) dX0_firstWrongParent_3 rfl 0 rfl (z_getI (pc := 4) fl_RX0_44 rfl dX0_firstWrongParent_4 (?_)))
    refine z_icmp_ge (pc := 7) (tgt := 45) dX0_firstWrongParent_7 (by decide) ?_ ?_
    · refine z_bipush (pc := 45) dX0_firstWrongParent_45 bp_m9 (?_)
      exact z_iret (pc := 47) dX0_firstWrongParent_47 rfl rfl
    · refine z_iload_n (pc := 10) dX0_firstWrongParent_10 rfl 2 rfl (z_aload_n (pc := 11) dX0_firstWrongParent_11 rfl 1 rfl (?_))
      refine z_nn (fun a6 ea6 => ?_)
      subst ea6
      refine z_alen (pc := 12) dX0_firstWrongParent_12 (?_)
      refine z_icmp_ge (pc := 13) (tgt := 45) dX0_firstWrongParent_13 (by decide) ?_ ?_
      · refine z_bipush (pc := 45) dX0_firstWrongParent_45 bp_m9 (?_)
        exact z_iret (pc := 47) dX0_firstWrongParent_47 rfl rfl
      · refine z_aload_n (pc := 16) dX0_firstWrongParent_16 rfl 0 rfl (z_aload_n (pc := 17) dX0_firstWrongParent_17 rfl 0 rfl (z_getRl (pc := 18) fl_RX0_15 rfl dX0_firstWrongParent_18 (fun o7 => (z_iload_n (pc := 21) dX0_firstWrongParent_21 rfl 2 rfl (?_)))))
        refine z_nn (fun a8 ea8 => ?_)
        subst ea8
        refine z_iaload (pc := 22) dX0_firstWrongParent_22 (z_aload_n (pc := 23) dX0_firstWrongParent_23 rfl 1 rfl (z_iload_n (pc := 24) dX0_firstWrongParent_24 rfl 2 rfl (z_iaload (pc := 25) dX0_firstWrongParent_25 (z_callV_I (pc := 26) (avs := [vi (hI h5 a8 (ix x4)), vi (hI h5 a6 (ix x4))]) (st := []) rfl (q := (RX0, TX0, 7)) rfl rfl (t_X0_canDescend F a2 (hI h5 a8 (ix x4)) (hI h5 a6 (ix x4)) h5) ky_X0_canDescend wm_X0_canDescend we_X0_canDescend wz_RX0_75 (rm_X0_firstWrongParent_X0_canDescend) (Nat.le_of_ble_eq_true rfl) dX0_firstWrongParent_26 (fun x10 h9 => (?_))))))
        refine z_if_ne (pc := 29) (tgt := 39) dX0_firstWrongParent_29 (by decide) ?_ ?_
        · refine z_iincl (pc := 39) (L' := fun x11 => [(0, vr (some a2)), (1, vr (some a6)), (2, vi x11)]) dX0_firstWrongParent_39 2 rfl ic_1 (Nat.le_of_ble_eq_true rfl) (fun _ => rfl) (fun x11 => (z_goto (pc := 42) (tgt := 2) dX0_firstWrongParent_42 (by decide) (?_)))
          exact ih x11 h9
        · refine z_aload_n (pc := 32) dX0_firstWrongParent_32 rfl 0 rfl (z_getRl (pc := 33) fl_RX0_15 rfl dX0_firstWrongParent_33 (fun o12 => (z_iload_n (pc := 36) dX0_firstWrongParent_36 rfl 2 rfl (?_))))
          refine z_nn (fun a13 ea13 => ?_)
          subst ea13
          refine z_iaload (pc := 37) dX0_firstWrongParent_37 (?_)
          exact z_iret (pc := 38) dX0_firstWrongParent_38 rfl rfl
set_option maxRecDepth 20000 in
set_option maxHeartbeats 4000000 in
theorem t_X0_firstWrongParent (F : Nat) (a0 : Nat) (o1 : Option Nat) (h0 : z_Hp) : z_Ct zi mi_X0_firstWrongParent [vr (some a0), vr o1] h0 (c_X0_firstWrongParent F a0 o1 h0) := by
  refine z_entry (by decide) (Nat.le_of_ble_eq_true rfl) [(0, vr (some a0)), (1, vr o1)] rfl ?_
  unfold c_X0_firstWrongParent
  refine z_iconst (pc := 0) dX0_firstWrongParent_0 ic_0 (z_istore_n (pc := 1) (L' := [(0, vr (some a0)), (1, vr o1), (2, vi 0)]) dX0_firstWrongParent_1 rfl (Nat.le_of_ble_eq_true rfl) rfl (?_))
  refine g_X0_firstWrongParent_L2 F a0 o1 F 0 h0
theorem dX0_sumOf_0 : decode cX0_sumOf 0 = .ok (.iconst 0, 1) := by decide +kernel
theorem dX0_sumOf_1 : decode cX0_sumOf 1 = .ok (.istore_n 2, 1) := by decide +kernel
theorem dX0_sumOf_2 : decode cX0_sumOf 2 = .ok (.iconst 0, 1) := by decide +kernel
theorem dX0_sumOf_3 : decode cX0_sumOf 3 = .ok (.istore_n 3, 1) := by decide +kernel
theorem dX0_sumOf_4 : decode cX0_sumOf 4 = .ok (.iload_n 3, 1) := by decide +kernel
theorem dX0_sumOf_5 : decode cX0_sumOf 5 = .ok (.aload_n 0, 1) := by decide +kernel
theorem dX0_sumOf_6 : decode cX0_sumOf 6 = .ok (.getfield 44, 3) := by decide +kernel
theorem dX0_sumOf_9 : decode cX0_sumOf 9 = .ok (.if_icmp .ge 39, 3) := by decide +kernel
theorem dX0_sumOf_12 : decode cX0_sumOf 12 = .ok (.iload_n 3, 1) := by decide +kernel
theorem dX0_sumOf_13 : decode cX0_sumOf 13 = .ok (.aload_n 1, 1) := by decide +kernel
theorem dX0_sumOf_14 : decode cX0_sumOf 14 = .ok (.arraylength, 1) := by decide +kernel
theorem dX0_sumOf_15 : decode cX0_sumOf 15 = .ok (.if_icmp .ge 33, 3) := by decide +kernel
theorem dX0_sumOf_18 : decode cX0_sumOf 18 = .ok (.aload_n 1, 1) := by decide +kernel
theorem dX0_sumOf_19 : decode cX0_sumOf 19 = .ok (.iload_n 3, 1) := by decide +kernel
theorem dX0_sumOf_20 : decode cX0_sumOf 20 = .ok (.iaload, 1) := by decide +kernel
theorem dX0_sumOf_21 : decode cX0_sumOf 21 = .ok (.bipush (-9), 2) := by decide +kernel
theorem dX0_sumOf_23 : decode cX0_sumOf 23 = .ok (.if_icmp .eq 19, 3) := by decide +kernel
theorem dX0_sumOf_26 : decode cX0_sumOf 26 = .ok (.iload_n 2, 1) := by decide +kernel
theorem dX0_sumOf_27 : decode cX0_sumOf 27 = .ok (.aload_n 0, 1) := by decide +kernel
theorem dX0_sumOf_28 : decode cX0_sumOf 28 = .ok (.aload_n 1, 1) := by decide +kernel
theorem dX0_sumOf_29 : decode cX0_sumOf 29 = .ok (.iload_n 3, 1) := by decide +kernel
theorem dX0_sumOf_30 : decode cX0_sumOf 30 = .ok (.iaload, 1) := by decide +kernel
theorem dX0_sumOf_31 : decode cX0_sumOf 31 = .ok (.aload_n 0, 1) := by decide +kernel
theorem dX0_sumOf_32 : decode cX0_sumOf 32 = .ok (.getfield 15, 3) := by decide +kernel
theorem dX0_sumOf_35 : decode cX0_sumOf 35 = .ok (.iload_n 3, 1) := by decide +kernel
theorem dX0_sumOf_36 : decode cX0_sumOf 36 = .ok (.iaload, 1) := by decide +kernel
theorem dX0_sumOf_37 : decode cX0_sumOf 37 = .ok (.invokevirtual 68, 3) := by decide +kernel
theorem dX0_sumOf_40 : decode cX0_sumOf 40 = .ok (.iadd, 1) := by decide +kernel
theorem dX0_sumOf_41 : decode cX0_sumOf 41 = .ok (.istore_n 2, 1) := by decide +kernel
theorem dX0_sumOf_42 : decode cX0_sumOf 42 = .ok (.iinc 3 1, 3) := by decide +kernel
theorem dX0_sumOf_45 : decode cX0_sumOf 45 = .ok (.goto (-41), 3) := by decide +kernel
theorem dX0_sumOf_48 : decode cX0_sumOf 48 = .ok (.iload_n 2, 1) := by decide +kernel
theorem dX0_sumOf_49 : decode cX0_sumOf 49 = .ok (.ireturn, 1) := by decide +kernel
def c_X0_sumOf_L4 (F : Nat) (a2 : Nat) (o3 : Option Nat) : Nat → Int32 → Int32 → z_Hp → Option (Int32 × z_Hp)
  | 0, _, _, _ => none
  | n + 1, x4, x5, h6 => (if hT h6 a2 = 0 then (if (hI h6 a2 5) ≤ x5 then (some (x4, h6)) else (nn o3 (fun a7 => (if okL h6 a7 = true then (if (nI (hN h6 a7)) ≤ x5 then (some (x4, h6)) else (if okA h6 a7 20 x5 = true then (lt_ (fun (x9 : Int32) (h10 : z_Hp) => (lt_ (x5 + 1) (fun x11 => (c_X0_sumOf_L4 F a2 o3 n x9 x11 h10)))) (fun (j42_8 : Int32 → z_Hp → Option (Int32 × z_Hp)) => (if (hI h6 a7 (ix x5)) = (-9) then (j42_8 x4 h6) else (if okA h6 a7 20 x5 = true then (if hT h6 a2 = 0 then (lt_ (hR h6 a2 1) (fun o12 => (nn o12 (fun a13 => (if okA h6 a13 20 x5 = true then (if hT h6 a2 = 0 then (bI (c_X0_changesFrom F a2 (hI h6 a7 (ix x5)) (hI h6 a13 (ix x5)) h6) (fun x15 h14 => (lt_ (x4 + x15) (fun x16 => (j42_8 x16 h14))))) else none) else none))))) else none) else none)))) else none)) else none)))) else none)
def c_X0_sumOf (F : Nat) (a0 : Nat) (o1 : Option Nat) (h0 : z_Hp) : Option (Int32 × z_Hp) := (c_X0_sumOf_L4 F a0 o1 F 0 0 h0)
set_option maxRecDepth 20000 in
set_option maxHeartbeats 4000000 in
theorem g_X0_sumOf_L4 (F : Nat) (a2 : Nat) (o3 : Option Nat) : ∀ (n : Nat) (x4 : Int32) (x5 : Int32) (h6 : z_Hp), z_G zi mi_X0_sumOf 4 [(0, vr (some a2)), (1, vr o3), (2, vi x4), (3, vi x5)] [] h6 (c_X0_sumOf_L4 F a2 o3 n x4 x5 h6) := by
  intro n
  induction n with
  | zero => intro x4 x5 h6; rw [c_X0_sumOf_L4]; exact z_none
  | succ n ih =>
    intro x4 x5 h6
    rw [c_X0_sumOf_L4]
    refine z_iload_n (pc := 4) dX0_sumOf_4 rfl 3 rfl (z_aload_n (pc := 5) dX0_sumOf_5 rfl 0 rfl (z_getI (pc := 6) fl_RX0_44 rfl dX0_sumOf_6 (?_)))
    refine z_icmp_ge (pc := 9) (tgt := 48) dX0_sumOf_9 (by decide) ?_ ?_
    · refine z_iload_n (pc := 48) dX0_sumOf_48 rfl 2 rfl (?_)
      exact z_iret (pc := 49) dX0_sumOf_49 rfl rfl
    · refine z_iload_n (pc := 12) dX0_sumOf_12 rfl 3 rfl (z_aload_n (pc := 13) dX0_sumOf_13 rfl 1 rfl (?_))
      refine z_nn (fun a7 ea7 => ?_)
      subst ea7
      refine z_alen (pc := 14) dX0_sumOf_14 (?_)
      refine z_icmp_ge (pc := 15) (tgt := 48) dX0_sumOf_15 (by decide) ?_ ?_
      · refine z_iload_n (pc := 48) dX0_sumOf_48 rfl 2 rfl (?_)
        exact z_iret (pc := 49) dX0_sumOf_49 rfl rfl
      · refine z_aload_n (pc := 18) dX0_sumOf_18 rfl 1 rfl (z_iload_n (pc := 19) dX0_sumOf_19 rfl 3 rfl (z_iaload (pc := 20) dX0_sumOf_20 (z_bipush (pc := 21) dX0_sumOf_21 bp_m9 (?_))))
        refine z_jn (P := fun (j : Int32 → z_Hp → Option (Int32 × z_Hp)) => ∀ (x9 : Int32) (h10 : z_Hp), z_G zi mi_X0_sumOf 42 [(0, vr (some a2)), (1, vr (some a7)), (2, vi x9), (3, vi x5)] [] h10 (j x9 h10)) (fun x9 h10 => ?_) (fun j42_8 qj42_8 => ?_)
        · refine z_iincl (pc := 42) (L' := fun x11 => [(0, vr (some a2)), (1, vr (some a7)), (2, vi x9), (3, vi x11)]) dX0_sumOf_42 3 rfl ic_1 (Nat.le_of_ble_eq_true rfl) (fun _ => rfl) (fun x11 => (z_goto (pc := 45) (tgt := 4) dX0_sumOf_45 (by decide) (?_)))
          exact ih x9 x11 h10
        refine z_icmp_eq (pc := 23) (tgt := 42) dX0_sumOf_23 (by decide) ?_ ?_
        · exact qj42_8 x4 h6
        · refine z_iload_n (pc := 26) dX0_sumOf_26 rfl 2 rfl (z_aload_n (pc := 27) dX0_sumOf_27 rfl 0 rfl (z_aload_n (pc := 28) dX0_sumOf_28 rfl 1 rfl (z_iload_n (pc := 29) dX0_sumOf_29 rfl 3 rfl (z_iaload (pc := 30) dX0_sumOf_30 (z_aload_n (pc := 31) dX0_sumOf_31 rfl 0 rfl (z_getRl (pc := 32) fl_RX0_15 rfl dX0_sumOf_32 (fun o12 => (z_iload_n (pc := 35) dX0_sumOf_35 rfl 3 rfl (?_)))))))))
          refine z_nn (fun a13 ea13 => ?_)
          subst ea13
          refine z_iaload (pc := 36) dX0_sumOf_36 (z_callV_I (pc := 37) (avs := [vi (hI h6 a7 (ix x5)), vi (hI h6 a13 (ix x5))]) (st := [vi x4]) rfl (q := (RX0, TX0, 7)) rfl rfl (t_X0_changesFrom F a2 (hI h6 a7 (ix x5)) (hI h6 a13 (ix x5)) h6) ky_X0_changesFrom wm_X0_changesFrom we_X0_changesFrom wz_RX0_68 (rm_X0_sumOf_X0_changesFrom) (Nat.le_of_ble_eq_true rfl) dX0_sumOf_37 (fun x15 h14 => (?_)))
          refine z_iadd (pc := 40) dX0_sumOf_40 (z_istorel_n (pc := 41) (L' := fun x16 => [(0, vr (some a2)), (1, vr (some a7)), (2, vi x16), (3, vi x5)]) dX0_sumOf_41 rfl (Nat.le_of_ble_eq_true rfl) (fun _ => rfl) (fun x16 => (?_)))
          exact qj42_8 x16 h14
set_option maxRecDepth 20000 in
set_option maxHeartbeats 4000000 in
theorem t_X0_sumOf (F : Nat) (a0 : Nat) (o1 : Option Nat) (h0 : z_Hp) : z_Ct zi mi_X0_sumOf [vr (some a0), vr o1] h0 (c_X0_sumOf F a0 o1 h0) := by
  refine z_entry (by decide) (Nat.le_of_ble_eq_true rfl) [(0, vr (some a0)), (1, vr o1)] rfl ?_
  unfold c_X0_sumOf
  refine z_iconst (pc := 0) dX0_sumOf_0 ic_0 (z_istore_n (pc := 1) (L' := [(0, vr (some a0)), (1, vr o1), (2, vi 0)]) dX0_sumOf_1 rfl (Nat.le_of_ble_eq_true rfl) rfl (z_iconst (pc := 2) dX0_sumOf_2 ic_0 (z_istore_n (pc := 3) (L' := [(0, vr (some a0)), (1, vr o1), (2, vi 0), (3, vi 0)]) dX0_sumOf_3 rfl (Nat.le_of_ble_eq_true rfl) rfl (?_))))
  refine g_X0_sumOf_L4 F a0 o1 F 0 0 h0
theorem dX1_init_0 : decode cX1_init 0 = .ok (.aload_n 0, 1) := by decide +kernel
theorem dX1_init_1 : decode cX1_init 1 = .ok (.invokespecial 3, 3) := by decide +kernel
theorem dX1_init_4 : decode cX1_init 4 = .ok (.aload_n 0, 1) := by decide +kernel
theorem dX1_init_5 : decode cX1_init 5 = .ok (.bipush 12, 2) := by decide +kernel
theorem dX1_init_7 : decode cX1_init 7 = .ok (.newarray .int, 2) := by decide +kernel
theorem dX1_init_9 : decode cX1_init 9 = .ok (.putfield 9, 3) := by decide +kernel
theorem dX1_init_12 : decode cX1_init 12 = .ok (.aload_n 0, 1) := by decide +kernel
theorem dX1_init_13 : decode cX1_init 13 = .ok (.bipush 12, 2) := by decide +kernel
theorem dX1_init_15 : decode cX1_init 15 = .ok (.newarray .int, 2) := by decide +kernel
theorem dX1_init_17 : decode cX1_init 17 = .ok (.putfield 15, 3) := by decide +kernel
theorem dX1_init_20 : decode cX1_init 20 = .ok (.aload_n 0, 1) := by decide +kernel
theorem dX1_init_21 : decode cX1_init 21 = .ok (.iconst 1, 1) := by decide +kernel
theorem dX1_init_22 : decode cX1_init 22 = .ok (.newarray .int, 2) := by decide +kernel
theorem dX1_init_24 : decode cX1_init 24 = .ok (.putfield 18, 3) := by decide +kernel
theorem dX1_init_27 : decode cX1_init 27 = .ok (.return_, 1) := by decide +kernel
def c_X1_init (F : Nat) (a0 : Nat) (h0 : z_Hp) : Option (z_Hp) := (if inb 12 100000 = true then (nwo h0 20 (ix 12) (fun a1 h2 => (if hT h2 a0 = 1 then (lt_ (sR h2 a0 0 (some a1)) (fun h3 => (if inb 12 100000 = true then (nwo h3 20 (ix 12) (fun a4 h5 => (if hT h5 a0 = 1 then (lt_ (sR h5 a0 1 (some a4)) (fun h6 => (if inb 1 100000 = true then (nwo h6 20 (ix 1) (fun a7 h8 => (if hT h8 a0 = 1 then (lt_ (sR h8 a0 2 (some a7)) (fun h9 => (some h9))) else none))) else none))) else none))) else none))) else none))) else none)
set_option maxRecDepth 20000 in
set_option maxHeartbeats 4000000 in
theorem t_X1_init (F : Nat) (a0 : Nat) (h0 : z_Hp) : z_Ct zv mi_X1_init [vr (some a0)] h0 (c_X1_init F a0 h0) := by
  refine z_entry (by decide) (Nat.le_of_ble_eq_true rfl) [(0, vr (some a0))] rfl ?_
  unfold c_X1_init
  refine z_aload_n (pc := 0) dX1_init_0 rfl 0 rfl (z_objinit (pc := 1) wo_RX1_3 wo_im wo_cd (Nat.le_of_ble_eq_true rfl) (Nat.le_of_ble_eq_true rfl) (Nat.le_of_ble_eq_true rfl) dX1_init_1 (z_aload_n (pc := 4) dX1_init_4 rfl 0 rfl (z_bipush (pc := 5) dX1_init_5 bp_12 (z_newarrl (pc := 7) 20 (by decide) rfl wa_20 dX1_init_7 (fun a1 h2 => (z_putRl (pc := 9) fl_RX1_9 fin_X1_init_1_0 rfl dX1_init_9 (fun h3 => (z_aload_n (pc := 12) dX1_init_12 rfl 0 rfl (z_bipush (pc := 13) dX1_init_13 bp_12 (?_))))))))))
  refine z_newarrl (pc := 15) 20 (by decide) rfl wa_20 dX1_init_15 (fun a4 h5 => (z_putRl (pc := 17) fl_RX1_15 fin_X1_init_1_1 rfl dX1_init_17 (fun h6 => (z_aload_n (pc := 20) dX1_init_20 rfl 0 rfl (z_iconst (pc := 21) dX1_init_21 ic_1 (z_newarrl (pc := 22) 20 (by decide) rfl wa_20 dX1_init_22 (fun a7 h8 => (z_putRl (pc := 24) fl_RX1_18 (fin_X_1_2 _) rfl dX1_init_24 (fun h9 => (?_))))))))))
  exact z_vret (pc := 27) dX1_init_27 rfl
theorem dX5_whichFirst_0 : decode cX5_whichFirst 0 = .ok (.iload_n 0, 1) := by decide +kernel
theorem dX5_whichFirst_1 : decode cX5_whichFirst 1 = .ok (.iload_n 1, 1) := by decide +kernel
theorem dX5_whichFirst_2 : decode cX5_whichFirst 2 = .ok (.if_icmp .ne 5, 3) := by decide +kernel
theorem dX5_whichFirst_5 : decode cX5_whichFirst 5 = .ok (.iconst 0, 1) := by decide +kernel
theorem dX5_whichFirst_6 : decode cX5_whichFirst 6 = .ok (.ireturn, 1) := by decide +kernel
theorem dX5_whichFirst_7 : decode cX5_whichFirst 7 = .ok (.iload_n 0, 1) := by decide +kernel
theorem dX5_whichFirst_8 : decode cX5_whichFirst 8 = .ok (.iload_n 1, 1) := by decide +kernel
theorem dX5_whichFirst_9 : decode cX5_whichFirst 9 = .ok (.iconst (-1), 1) := by decide +kernel
theorem dX5_whichFirst_10 : decode cX5_whichFirst 10 = .ok (.ixor, 1) := by decide +kernel
theorem dX5_whichFirst_11 : decode cX5_whichFirst 11 = .ok (.iand, 1) := by decide +kernel
theorem dX5_whichFirst_12 : decode cX5_whichFirst 12 = .ok (.ifCond .ne 5, 3) := by decide +kernel
theorem dX5_whichFirst_15 : decode cX5_whichFirst 15 = .ok (.iconst 1, 1) := by decide +kernel
theorem dX5_whichFirst_16 : decode cX5_whichFirst 16 = .ok (.ireturn, 1) := by decide +kernel
theorem dX5_whichFirst_17 : decode cX5_whichFirst 17 = .ok (.iload_n 1, 1) := by decide +kernel
theorem dX5_whichFirst_18 : decode cX5_whichFirst 18 = .ok (.iload_n 0, 1) := by decide +kernel
theorem dX5_whichFirst_19 : decode cX5_whichFirst 19 = .ok (.iconst (-1), 1) := by decide +kernel
theorem dX5_whichFirst_20 : decode cX5_whichFirst 20 = .ok (.ixor, 1) := by decide +kernel
theorem dX5_whichFirst_21 : decode cX5_whichFirst 21 = .ok (.iand, 1) := by decide +kernel
theorem dX5_whichFirst_22 : decode cX5_whichFirst 22 = .ok (.ifCond .ne 7, 3) := by decide +kernel
theorem dX5_whichFirst_25 : decode cX5_whichFirst 25 = .ok (.iconst (-1), 1) := by decide +kernel
theorem dX5_whichFirst_26 : decode cX5_whichFirst 26 = .ok (.goto 4, 3) := by decide +kernel
theorem dX5_whichFirst_29 : decode cX5_whichFirst 29 = .ok (.iconst 2, 1) := by decide +kernel
theorem dX5_whichFirst_30 : decode cX5_whichFirst 30 = .ok (.ireturn, 1) := by decide +kernel
def c_X5_whichFirst (F : Nat) (x1 : Int32) (x2 : Int32) (h0 : z_Hp) : Option (Int32 × z_Hp) := (if x1 = x2 then (some (0, h0)) else (if (x1 &&& (x2 ^^^ (-1))) = 0 then (some (1, h0)) else (if (x2 &&& (x1 ^^^ (-1))) = 0 then (some ((-1), h0)) else (some (2, h0)))))
set_option maxRecDepth 20000 in
set_option maxHeartbeats 4000000 in
theorem t_X5_whichFirst (F : Nat) (x1 : Int32) (x2 : Int32) (h0 : z_Hp) : z_Ct zi mi_X5_whichFirst [vi x1, vi x2] h0 (c_X5_whichFirst F x1 x2 h0) := by
  refine z_entry (by decide) (Nat.le_of_ble_eq_true rfl) [(0, vi x1), (1, vi x2)] rfl ?_
  unfold c_X5_whichFirst
  refine z_iload_n (pc := 0) dX5_whichFirst_0 rfl 0 rfl (z_iload_n (pc := 1) dX5_whichFirst_1 rfl 1 rfl (?_))
  refine z_icmp_ne (pc := 2) (tgt := 7) dX5_whichFirst_2 (by decide) ?_ ?_
  · refine z_iload_n (pc := 7) dX5_whichFirst_7 rfl 0 rfl (z_iload_n (pc := 8) dX5_whichFirst_8 rfl 1 rfl (z_iconst (pc := 9) dX5_whichFirst_9 ic_m1 (z_ixor (pc := 10) dX5_whichFirst_10 (z_iand (pc := 11) dX5_whichFirst_11 (?_)))))
    refine z_if_ne (pc := 12) (tgt := 17) dX5_whichFirst_12 (by decide) ?_ ?_
    · refine z_iload_n (pc := 17) dX5_whichFirst_17 rfl 1 rfl (z_iload_n (pc := 18) dX5_whichFirst_18 rfl 0 rfl (z_iconst (pc := 19) dX5_whichFirst_19 ic_m1 (z_ixor (pc := 20) dX5_whichFirst_20 (z_iand (pc := 21) dX5_whichFirst_21 (?_)))))
      refine z_if_ne (pc := 22) (tgt := 29) dX5_whichFirst_22 (by decide) ?_ ?_
      · refine z_iconst (pc := 29) dX5_whichFirst_29 ic_2 (?_)
        exact z_iret (pc := 30) dX5_whichFirst_30 rfl rfl
      · refine z_iconst (pc := 25) dX5_whichFirst_25 ic_m1 (z_goto (pc := 26) (tgt := 30) dX5_whichFirst_26 (by decide) (?_))
        exact z_iret (pc := 30) dX5_whichFirst_30 rfl rfl
    · refine z_iconst (pc := 15) dX5_whichFirst_15 ic_1 (?_)
      exact z_iret (pc := 16) dX5_whichFirst_16 rfl rfl
  · refine z_iconst (pc := 5) dX5_whichFirst_5 ic_0 (?_)
    exact z_iret (pc := 6) dX5_whichFirst_6 rfl rfl
theorem dX5_byBlock_0 : decode cX5_byBlock 0 = .ok (.aload_n 0, 1) := by decide +kernel
theorem dX5_byBlock_1 : decode cX5_byBlock 1 = .ok (.getfield 9, 3) := by decide +kernel
theorem dX5_byBlock_4 : decode cX5_byBlock 4 = .ok (.bipush (-9), 2) := by decide +kernel
theorem dX5_byBlock_6 : decode cX5_byBlock 6 = .ok (.if_icmp .eq 14, 3) := by decide +kernel
theorem dX5_byBlock_9 : decode cX5_byBlock 9 = .ok (.aload_n 0, 1) := by decide +kernel
theorem dX5_byBlock_10 : decode cX5_byBlock 10 = .ok (.getfield 9, 3) := by decide +kernel
theorem dX5_byBlock_13 : decode cX5_byBlock 13 = .ok (.aload_n 1, 1) := by decide +kernel
theorem dX5_byBlock_14 : decode cX5_byBlock 14 = .ok (.getfield 9, 3) := by decide +kernel
theorem dX5_byBlock_17 : decode cX5_byBlock 17 = .ok (.if_icmp .eq 7, 3) := by decide +kernel
theorem dX5_byBlock_20 : decode cX5_byBlock 20 = .ok (.iconst 0, 1) := by decide +kernel
theorem dX5_byBlock_21 : decode cX5_byBlock 21 = .ok (.goto 14, 3) := by decide +kernel
theorem dX5_byBlock_24 : decode cX5_byBlock 24 = .ok (.aload_n 0, 1) := by decide +kernel
theorem dX5_byBlock_25 : decode cX5_byBlock 25 = .ok (.getfield 40, 3) := by decide +kernel
theorem dX5_byBlock_28 : decode cX5_byBlock 28 = .ok (.aload_n 1, 1) := by decide +kernel
theorem dX5_byBlock_29 : decode cX5_byBlock 29 = .ok (.getfield 40, 3) := by decide +kernel
theorem dX5_byBlock_32 : decode cX5_byBlock 32 = .ok (.invokestatic 60, 3) := by decide +kernel
theorem dX5_byBlock_35 : decode cX5_byBlock 35 = .ok (.ireturn, 1) := by decide +kernel
def c_X5_byBlock (F : Nat) (a0 : Nat) (o1 : Option Nat) (h0 : z_Hp) : Option (Int32 × z_Hp) := (if hT h0 a0 = 5 then (if (hI h0 a0 5) = (-9) then (some (0, h0)) else (if hT h0 a0 = 5 then (nn o1 (fun a2 => (if hT h0 a2 = 5 then (if (hI h0 a0 5) = (hI h0 a2 5) then (if hT h0 a0 = 5 then (if hT h0 a2 = 5 then (bI (c_X5_whichFirst F (hI h0 a0 6) (hI h0 a2 6) h0) (fun x4 h3 => (some (x4, h3)))) else none) else none) else (some (0, h0))) else none))) else none)) else none)
set_option maxRecDepth 20000 in
set_option maxHeartbeats 4000000 in
theorem t_X5_byBlock (F : Nat) (a0 : Nat) (o1 : Option Nat) (h0 : z_Hp) : z_Ct zi mi_X5_byBlock [vr (some a0), vr o1] h0 (c_X5_byBlock F a0 o1 h0) := by
  refine z_entry (by decide) (Nat.le_of_ble_eq_true rfl) [(0, vr (some a0)), (1, vr o1)] rfl ?_
  unfold c_X5_byBlock
  refine z_aload_n (pc := 0) dX5_byBlock_0 rfl 0 rfl (z_getI (pc := 1) fl_RX5_9 rfl dX5_byBlock_1 (z_bipush (pc := 4) dX5_byBlock_4 bp_m9 (?_)))
  refine z_icmp_eq (pc := 6) (tgt := 20) dX5_byBlock_6 (by decide) ?_ ?_
  · refine z_iconst (pc := 20) dX5_byBlock_20 ic_0 (z_goto (pc := 21) (tgt := 35) dX5_byBlock_21 (by decide) (?_))
    exact z_iret (pc := 35) dX5_byBlock_35 rfl rfl
  · refine z_aload_n (pc := 9) dX5_byBlock_9 rfl 0 rfl (z_getI (pc := 10) fl_RX5_9 rfl dX5_byBlock_10 (z_aload_n (pc := 13) dX5_byBlock_13 rfl 1 rfl (?_)))
    refine z_nn (fun a2 ea2 => ?_)
    subst ea2
    refine z_getI (pc := 14) fl_RX5_9 rfl dX5_byBlock_14 (?_)
    refine z_icmp_eq (pc := 17) (tgt := 24) dX5_byBlock_17 (by decide) ?_ ?_
    · refine z_aload_n (pc := 24) dX5_byBlock_24 rfl 0 rfl (z_getI (pc := 25) fl_RX5_40 rfl dX5_byBlock_25 (z_aload_n (pc := 28) dX5_byBlock_28 rfl 1 rfl (z_getI (pc := 29) fl_RX5_40 rfl dX5_byBlock_29 (z_callS_I (pc := 32) (avs := [vi (hI h0 a0 6), vi (hI h0 a2 6)]) (st := []) rfl (t_X5_whichFirst F (hI h0 a0 6) (hI h0 a2 6) h0) ky_X5_whichFirst ws_X5_whichFirst wz_RX5_60 (rm_X5_byBlock_X5_whichFirst) (Nat.le_of_ble_eq_true rfl) dX5_byBlock_32 (fun x4 h3 => (?_))))))
      exact z_iret (pc := 35) dX5_byBlock_35 rfl rfl
    · refine z_iconst (pc := 20) dX5_byBlock_20 ic_0 (z_goto (pc := 21) (tgt := 35) dX5_byBlock_21 (by decide) (?_))
      exact z_iret (pc := 35) dX5_byBlock_35 rfl rfl
theorem dX5_byType_0 : decode cX5_byType 0 = .ok (.aload_n 0, 1) := by decide +kernel
theorem dX5_byType_1 : decode cX5_byType 1 = .ok (.getfield 24, 3) := by decide +kernel
theorem dX5_byType_4 : decode cX5_byType 4 = .ok (.bipush (-9), 2) := by decide +kernel
theorem dX5_byType_6 : decode cX5_byType 6 = .ok (.if_icmp .eq 14, 3) := by decide +kernel
theorem dX5_byType_9 : decode cX5_byType 9 = .ok (.aload_n 0, 1) := by decide +kernel
theorem dX5_byType_10 : decode cX5_byType 10 = .ok (.getfield 24, 3) := by decide +kernel
theorem dX5_byType_13 : decode cX5_byType 13 = .ok (.aload_n 1, 1) := by decide +kernel
theorem dX5_byType_14 : decode cX5_byType 14 = .ok (.getfield 24, 3) := by decide +kernel
theorem dX5_byType_17 : decode cX5_byType 17 = .ok (.if_icmp .eq 7, 3) := by decide +kernel
theorem dX5_byType_20 : decode cX5_byType 20 = .ok (.iconst 0, 1) := by decide +kernel
theorem dX5_byType_21 : decode cX5_byType 21 = .ok (.goto 14, 3) := by decide +kernel
theorem dX5_byType_24 : decode cX5_byType 24 = .ok (.aload_n 0, 1) := by decide +kernel
theorem dX5_byType_25 : decode cX5_byType 25 = .ok (.getfield 43, 3) := by decide +kernel
theorem dX5_byType_28 : decode cX5_byType 28 = .ok (.aload_n 1, 1) := by decide +kernel
theorem dX5_byType_29 : decode cX5_byType 29 = .ok (.getfield 43, 3) := by decide +kernel
theorem dX5_byType_32 : decode cX5_byType 32 = .ok (.invokestatic 60, 3) := by decide +kernel
theorem dX5_byType_35 : decode cX5_byType 35 = .ok (.ireturn, 1) := by decide +kernel
def c_X5_byType (F : Nat) (a0 : Nat) (o1 : Option Nat) (h0 : z_Hp) : Option (Int32 × z_Hp) := (if hT h0 a0 = 5 then (if (hI h0 a0 1) = (-9) then (some (0, h0)) else (if hT h0 a0 = 5 then (nn o1 (fun a2 => (if hT h0 a2 = 5 then (if (hI h0 a0 1) = (hI h0 a2 1) then (if hT h0 a0 = 5 then (if hT h0 a2 = 5 then (bI (c_X5_whichFirst F (hI h0 a0 7) (hI h0 a2 7) h0) (fun x4 h3 => (some (x4, h3)))) else none) else none) else (some (0, h0))) else none))) else none)) else none)
set_option maxRecDepth 20000 in
set_option maxHeartbeats 4000000 in
theorem t_X5_byType (F : Nat) (a0 : Nat) (o1 : Option Nat) (h0 : z_Hp) : z_Ct zi mi_X5_byType [vr (some a0), vr o1] h0 (c_X5_byType F a0 o1 h0) := by
  refine z_entry (by decide) (Nat.le_of_ble_eq_true rfl) [(0, vr (some a0)), (1, vr o1)] rfl ?_
  unfold c_X5_byType
  refine z_aload_n (pc := 0) dX5_byType_0 rfl 0 rfl (z_getI (pc := 1) fl_RX5_24 rfl dX5_byType_1 (z_bipush (pc := 4) dX5_byType_4 bp_m9 (?_)))
  refine z_icmp_eq (pc := 6) (tgt := 20) dX5_byType_6 (by decide) ?_ ?_
  · refine z_iconst (pc := 20) dX5_byType_20 ic_0 (z_goto (pc := 21) (tgt := 35) dX5_byType_21 (by decide) (?_))
    exact z_iret (pc := 35) dX5_byType_35 rfl rfl
  · refine z_aload_n (pc := 9) dX5_byType_9 rfl 0 rfl (z_getI (pc := 10) fl_RX5_24 rfl dX5_byType_10 (z_aload_n (pc := 13) dX5_byType_13 rfl 1 rfl (?_)))
    refine z_nn (fun a2 ea2 => ?_)
    subst ea2
    refine z_getI (pc := 14) fl_RX5_24 rfl dX5_byType_14 (?_)
    refine z_icmp_eq (pc := 17) (tgt := 24) dX5_byType_17 (by decide) ?_ ?_
    · refine z_aload_n (pc := 24) dX5_byType_24 rfl 0 rfl (z_getI (pc := 25) fl_RX5_43 rfl dX5_byType_25 (z_aload_n (pc := 28) dX5_byType_28 rfl 1 rfl (z_getI (pc := 29) fl_RX5_43 rfl dX5_byType_29 (z_callS_I (pc := 32) (avs := [vi (hI h0 a0 7), vi (hI h0 a2 7)]) (st := []) rfl (t_X5_whichFirst F (hI h0 a0 7) (hI h0 a2 7) h0) ky_X5_whichFirst ws_X5_whichFirst wz_RX5_60 (rm_X5_byType_X5_whichFirst) (Nat.le_of_ble_eq_true rfl) dX5_byType_32 (fun x4 h3 => (?_))))))
      exact z_iret (pc := 35) dX5_byType_35 rfl rfl
    · refine z_iconst (pc := 20) dX5_byType_20 ic_0 (z_goto (pc := 21) (tgt := 35) dX5_byType_21 (by decide) (?_))
      exact z_iret (pc := 35) dX5_byType_35 rfl rfl
theorem dX5_isAheadOf_0 : decode cX5_isAheadOf 0 = .ok (.aload_n 0, 1) := by decide +kernel
theorem dX5_isAheadOf_1 : decode cX5_isAheadOf 1 = .ok (.aload_n 1, 1) := by decide +kernel
theorem dX5_isAheadOf_2 : decode cX5_isAheadOf 2 = .ok (.invokevirtual 53, 3) := by decide +kernel
theorem dX5_isAheadOf_5 : decode cX5_isAheadOf 5 = .ok (.iconst 1, 1) := by decide +kernel
theorem dX5_isAheadOf_6 : decode cX5_isAheadOf 6 = .ok (.if_icmp .eq 12, 3) := by decide +kernel
theorem dX5_isAheadOf_9 : decode cX5_isAheadOf 9 = .ok (.aload_n 0, 1) := by decide +kernel
theorem dX5_isAheadOf_10 : decode cX5_isAheadOf 10 = .ok (.aload_n 1, 1) := by decide +kernel
theorem dX5_isAheadOf_11 : decode cX5_isAheadOf 11 = .ok (.invokevirtual 57, 3) := by decide +kernel
theorem dX5_isAheadOf_14 : decode cX5_isAheadOf 14 = .ok (.iconst 1, 1) := by decide +kernel
theorem dX5_isAheadOf_15 : decode cX5_isAheadOf 15 = .ok (.if_icmp .ne 7, 3) := by decide +kernel
theorem dX5_isAheadOf_18 : decode cX5_isAheadOf 18 = .ok (.iconst 1, 1) := by decide +kernel
theorem dX5_isAheadOf_19 : decode cX5_isAheadOf 19 = .ok (.goto 4, 3) := by decide +kernel
theorem dX5_isAheadOf_22 : decode cX5_isAheadOf 22 = .ok (.iconst 0, 1) := by decide +kernel
theorem dX5_isAheadOf_23 : decode cX5_isAheadOf 23 = .ok (.ireturn, 1) := by decide +kernel
def c_X5_isAheadOf (F : Nat) (a0 : Nat) (o1 : Option Nat) (h0 : z_Hp) : Option (Int32 × z_Hp) := (if hT h0 a0 = 5 then (bI (c_X5_byBlock F a0 o1 h0) (fun x3 h2 => (if x3 = 1 then (some (1, h2)) else (if hT h2 a0 = 5 then (bI (c_X5_byType F a0 o1 h2) (fun x5 h4 => (if x5 = 1 then (some (1, h4)) else (some (0, h4))))) else none)))) else none)
set_option maxRecDepth 20000 in
set_option maxHeartbeats 4000000 in
theorem t_X5_isAheadOf (F : Nat) (a0 : Nat) (o1 : Option Nat) (h0 : z_Hp) : z_Ct zi mi_X5_isAheadOf [vr (some a0), vr o1] h0 (c_X5_isAheadOf F a0 o1 h0) := by
  refine z_entry (by decide) (Nat.le_of_ble_eq_true rfl) [(0, vr (some a0)), (1, vr o1)] rfl ?_
  unfold c_X5_isAheadOf
  refine z_aload_n (pc := 0) dX5_isAheadOf_0 rfl 0 rfl (z_aload_n (pc := 1) dX5_isAheadOf_1 rfl 1 rfl (z_callV_I (pc := 2) (avs := [vr o1]) (st := []) rfl (q := (RX5, TX5, 11)) rfl rfl (t_X5_byBlock F a0 o1 h0) ky_X5_byBlock wm_X5_byBlock we_X5_byBlock wz_RX5_53 (rm_X5_isAheadOf_X5_byBlock) (Nat.le_of_ble_eq_true rfl) dX5_isAheadOf_2 (fun x3 h2 => (?_))))
  refine z_iconst (pc := 5) dX5_isAheadOf_5 ic_1 (?_)
  refine z_icmp_eq (pc := 6) (tgt := 18) dX5_isAheadOf_6 (by decide) ?_ ?_
  · refine z_iconst (pc := 18) dX5_isAheadOf_18 ic_1 (z_goto (pc := 19) (tgt := 23) dX5_isAheadOf_19 (by decide) (?_))
    exact z_iret (pc := 23) dX5_isAheadOf_23 rfl rfl
  · refine z_aload_n (pc := 9) dX5_isAheadOf_9 rfl 0 rfl (z_aload_n (pc := 10) dX5_isAheadOf_10 rfl 1 rfl (z_callV_I (pc := 11) (avs := [vr o1]) (st := []) rfl (q := (RX5, TX5, 11)) rfl rfl (t_X5_byType F a0 o1 h2) ky_X5_byType wm_X5_byType we_X5_byType wz_RX5_57 (rm_X5_isAheadOf_X5_byType) (Nat.le_of_ble_eq_true rfl) dX5_isAheadOf_11 (fun x5 h4 => (?_))))
    refine z_iconst (pc := 14) dX5_isAheadOf_14 ic_1 (?_)
    refine z_icmp_ne (pc := 15) (tgt := 22) dX5_isAheadOf_15 (by decide) ?_ ?_
    · refine z_iconst (pc := 22) dX5_isAheadOf_22 ic_0 (?_)
      exact z_iret (pc := 23) dX5_isAheadOf_23 rfl rfl
    · refine z_iconst (pc := 18) dX5_isAheadOf_18 ic_1 (z_goto (pc := 19) (tgt := 23) dX5_isAheadOf_19 (by decide) (?_))
      exact z_iret (pc := 23) dX5_isAheadOf_23 rfl rfl
theorem dX1_gather_0 : decode cX1_gather 0 = .ok (.aload_n 0, 1) := by decide +kernel
theorem dX1_gather_1 : decode cX1_gather 1 = .ok (.iconst 0, 1) := by decide +kernel
theorem dX1_gather_2 : decode cX1_gather 2 = .ok (.putfield 21, 3) := by decide +kernel
theorem dX1_gather_5 : decode cX1_gather 5 = .ok (.iconst 0, 1) := by decide +kernel
theorem dX1_gather_6 : decode cX1_gather 6 = .ok (.istore_n 3, 1) := by decide +kernel
theorem dX1_gather_7 : decode cX1_gather 7 = .ok (.iload_n 3, 1) := by decide +kernel
theorem dX1_gather_8 : decode cX1_gather 8 = .ok (.aload_n 1, 1) := by decide +kernel
theorem dX1_gather_9 : decode cX1_gather 9 = .ok (.getfield 25, 3) := by decide +kernel
theorem dX1_gather_12 : decode cX1_gather 12 = .ok (.if_icmp .ge 48, 3) := by decide +kernel
theorem dX1_gather_15 : decode cX1_gather 15 = .ok (.aload_n 0, 1) := by decide +kernel
theorem dX1_gather_16 : decode cX1_gather 16 = .ok (.getfield 21, 3) := by decide +kernel
theorem dX1_gather_19 : decode cX1_gather 19 = .ok (.bipush 12, 2) := by decide +kernel
theorem dX1_gather_21 : decode cX1_gather 21 = .ok (.if_icmp .ge 39, 3) := by decide +kernel
theorem dX1_gather_24 : decode cX1_gather 24 = .ok (.aload_n 1, 1) := by decide +kernel
theorem dX1_gather_25 : decode cX1_gather 25 = .ok (.getfield 28, 3) := by decide +kernel
theorem dX1_gather_28 : decode cX1_gather 28 = .ok (.iload_n 3, 1) := by decide +kernel
theorem dX1_gather_29 : decode cX1_gather 29 = .ok (.aaload, 1) := by decide +kernel
theorem dX1_gather_30 : decode cX1_gather 30 = .ok (.getfield 32, 3) := by decide +kernel
theorem dX1_gather_33 : decode cX1_gather 33 = .ok (.iload_n 2, 1) := by decide +kernel
theorem dX1_gather_34 : decode cX1_gather 34 = .ok (.if_icmp .ne 20, 3) := by decide +kernel
theorem dX1_gather_37 : decode cX1_gather 37 = .ok (.aload_n 0, 1) := by decide +kernel
theorem dX1_gather_38 : decode cX1_gather 38 = .ok (.getfield 9, 3) := by decide +kernel
theorem dX1_gather_41 : decode cX1_gather 41 = .ok (.aload_n 0, 1) := by decide +kernel
theorem dX1_gather_42 : decode cX1_gather 42 = .ok (.dup, 1) := by decide +kernel
theorem dX1_gather_43 : decode cX1_gather 43 = .ok (.getfield 21, 3) := by decide +kernel
theorem dX1_gather_46 : decode cX1_gather 46 = .ok (.dup_x1, 1) := by decide +kernel
theorem dX1_gather_47 : decode cX1_gather 47 = .ok (.iconst 1, 1) := by decide +kernel
theorem dX1_gather_48 : decode cX1_gather 48 = .ok (.iadd, 1) := by decide +kernel
theorem dX1_gather_49 : decode cX1_gather 49 = .ok (.putfield 21, 3) := by decide +kernel
theorem dX1_gather_52 : decode cX1_gather 52 = .ok (.iload_n 3, 1) := by decide +kernel
theorem dX1_gather_53 : decode cX1_gather 53 = .ok (.iastore, 1) := by decide +kernel
theorem dX1_gather_54 : decode cX1_gather 54 = .ok (.iinc 3 1, 3) := by decide +kernel
theorem dX1_gather_57 : decode cX1_gather 57 = .ok (.goto (-50), 3) := by decide +kernel
theorem dX1_gather_60 : decode cX1_gather 60 = .ok (.iconst 0, 1) := by decide +kernel
theorem dX1_gather_61 : decode cX1_gather 61 = .ok (.istore_n 3, 1) := by decide +kernel
theorem dX1_gather_62 : decode cX1_gather 62 = .ok (.iload_n 3, 1) := by decide +kernel
theorem dX1_gather_63 : decode cX1_gather 63 = .ok (.aload_n 0, 1) := by decide +kernel
theorem dX1_gather_64 : decode cX1_gather 64 = .ok (.getfield 21, 3) := by decide +kernel
theorem dX1_gather_67 : decode cX1_gather 67 = .ok (.if_icmp .ge 76, 3) := by decide +kernel
theorem dX1_gather_70 : decode cX1_gather 70 = .ok (.aload_n 0, 1) := by decide +kernel
theorem dX1_gather_71 : decode cX1_gather 71 = .ok (.getfield 15, 3) := by decide +kernel
theorem dX1_gather_74 : decode cX1_gather 74 = .ok (.iload_n 3, 1) := by decide +kernel
theorem dX1_gather_75 : decode cX1_gather 75 = .ok (.iconst 0, 1) := by decide +kernel
theorem dX1_gather_76 : decode cX1_gather 76 = .ok (.iastore, 1) := by decide +kernel
theorem dX1_gather_77 : decode cX1_gather 77 = .ok (.iconst 0, 1) := by decide +kernel
theorem dX1_gather_78 : decode cX1_gather 78 = .ok (.istore 4, 2) := by decide +kernel
theorem dX1_gather_80 : decode cX1_gather 80 = .ok (.iload 4, 2) := by decide +kernel
theorem dX1_gather_82 : decode cX1_gather 82 = .ok (.aload_n 0, 1) := by decide +kernel
theorem dX1_gather_83 : decode cX1_gather 83 = .ok (.getfield 21, 3) := by decide +kernel
theorem dX1_gather_86 : decode cX1_gather 86 = .ok (.if_icmp .ge 51, 3) := by decide +kernel
theorem dX1_gather_89 : decode cX1_gather 89 = .ok (.aload_n 1, 1) := by decide +kernel
theorem dX1_gather_90 : decode cX1_gather 90 = .ok (.getfield 28, 3) := by decide +kernel
theorem dX1_gather_93 : decode cX1_gather 93 = .ok (.aload_n 0, 1) := by decide +kernel
theorem dX1_gather_94 : decode cX1_gather 94 = .ok (.getfield 9, 3) := by decide +kernel
theorem dX1_gather_97 : decode cX1_gather 97 = .ok (.iload 4, 2) := by decide +kernel
theorem dX1_gather_99 : decode cX1_gather 99 = .ok (.iaload, 1) := by decide +kernel
theorem dX1_gather_100 : decode cX1_gather 100 = .ok (.aaload, 1) := by decide +kernel
theorem dX1_gather_101 : decode cX1_gather 101 = .ok (.aload_n 1, 1) := by decide +kernel
theorem dX1_gather_102 : decode cX1_gather 102 = .ok (.getfield 28, 3) := by decide +kernel
theorem dX1_gather_105 : decode cX1_gather 105 = .ok (.aload_n 0, 1) := by decide +kernel
theorem dX1_gather_106 : decode cX1_gather 106 = .ok (.getfield 9, 3) := by decide +kernel
theorem dX1_gather_109 : decode cX1_gather 109 = .ok (.iload_n 3, 1) := by decide +kernel
theorem dX1_gather_110 : decode cX1_gather 110 = .ok (.iaload, 1) := by decide +kernel
theorem dX1_gather_111 : decode cX1_gather 111 = .ok (.aaload, 1) := by decide +kernel
theorem dX1_gather_112 : decode cX1_gather 112 = .ok (.invokevirtual 37, 3) := by decide +kernel
theorem dX1_gather_115 : decode cX1_gather 115 = .ok (.ifCond .eq 16, 3) := by decide +kernel
theorem dX1_gather_118 : decode cX1_gather 118 = .ok (.aload_n 0, 1) := by decide +kernel
theorem dX1_gather_119 : decode cX1_gather 119 = .ok (.getfield 15, 3) := by decide +kernel
theorem dX1_gather_122 : decode cX1_gather 122 = .ok (.iload_n 3, 1) := by decide +kernel
theorem dX1_gather_123 : decode cX1_gather 123 = .ok (.dup2, 1) := by decide +kernel
theorem dX1_gather_124 : decode cX1_gather 124 = .ok (.iaload, 1) := by decide +kernel
theorem dX1_gather_125 : decode cX1_gather 125 = .ok (.iconst 1, 1) := by decide +kernel
theorem dX1_gather_126 : decode cX1_gather 126 = .ok (.iload 4, 2) := by decide +kernel
theorem dX1_gather_128 : decode cX1_gather 128 = .ok (.ishl, 1) := by decide +kernel
theorem dX1_gather_129 : decode cX1_gather 129 = .ok (.ior, 1) := by decide +kernel
theorem dX1_gather_130 : decode cX1_gather 130 = .ok (.iastore, 1) := by decide +kernel
theorem dX1_gather_131 : decode cX1_gather 131 = .ok (.iinc 4 1, 3) := by decide +kernel
theorem dX1_gather_134 : decode cX1_gather 134 = .ok (.goto (-54), 3) := by decide +kernel
theorem dX1_gather_137 : decode cX1_gather 137 = .ok (.iinc 3 1, 3) := by decide +kernel
theorem dX1_gather_140 : decode cX1_gather 140 = .ok (.goto (-78), 3) := by decide +kernel
theorem dX1_gather_143 : decode cX1_gather 143 = .ok (.return_, 1) := by decide +kernel
def c_X1_gather_L7 (F : Nat) (a4 : Nat) (o5 : Option Nat) (x6 : Int32) (k60 : z_Hp → Option (z_Hp)) : Nat → Int32 → z_Hp → Option (z_Hp)
  | 0, _, _ => none
  | n + 1, x7, h8 => (nn o5 (fun a10 => (if hT h8 a10 = 6 then (if (hI h8 a10 1) ≤ x7 then (k60 h8) else (if hT h8 a4 = 1 then (if 12 ≤ (hI h8 a4 3) then (k60 h8) else (if hT h8 a10 = 6 then (lt_ (hR h8 a10 0) (fun o11 => (nn o11 (fun a12 => (if okA h8 a12 26 x7 = true then (lt_ (hR h8 a12 (ix x7)) (fun o13 => (nn o13 (fun a14 => (if hT h8 a14 = 5 then (lt_ (fun (h16 : z_Hp) => (lt_ (x7 + 1) (fun x17 => (c_X1_gather_L7 F a4 o5 x6 k60 n x17 h16)))) (fun (j54_15 : z_Hp → Option (z_Hp)) => (if (hI h8 a14 5) = x6 then (if hT h8 a4 = 1 then (lt_ (hR h8 a4 0) (fun o18 => (if hT h8 a4 = 1 then (if hT h8 a4 = 1 then (lt_ (sI h8 a4 3 ((hI h8 a4 3) + 1)) (fun h19 => (nn o18 (fun a20 => (if okA h19 a20 20 (hI h8 a4 3) = true then (lt_ (sI h19 a20 (ix (hI h8 a4 3)) x7) (fun h21 => (j54_15 h21))) else none))))) else none) else none))) else none) else (j54_15 h8)))) else none))))) else none))))) else none)) else none)) else none)))
def c_X1_gather_L80 (F : Nat) (a30 : Nat) (o31 : Option Nat) (x32 : Int32) (k137 : z_Hp → Option (z_Hp)) : Nat → Int32 → z_Hp → Option (z_Hp)
  | 0, _, _ => none
  | n + 1, x33, h34 => (if hT h34 a30 = 1 then (if (hI h34 a30 3) ≤ x33 then (k137 h34) else (nn o31 (fun a36 => (if hT h34 a36 = 6 then (lt_ (hR h34 a36 0) (fun o37 => (if hT h34 a30 = 1 then (lt_ (hR h34 a30 0) (fun o38 => (nn o38 (fun a39 => (if okA h34 a39 20 x33 = true then (nn o37 (fun a40 => (if okA h34 a40 26 (hI h34 a39 (ix x33)) = true then (lt_ (hR h34 a40 (ix (hI h34 a39 (ix x33)))) (fun o41 => (if hT h34 a36 = 6 then (lt_ (hR h34 a36 0) (fun o42 => (if hT h34 a30 = 1 then (lt_ (hR h34 a30 0) (fun o43 => (nn o43 (fun a44 => (if okA h34 a44 20 x32 = true then (nn o42 (fun a45 => (if okA h34 a45 26 (hI h34 a44 (ix x32)) = true then (lt_ (hR h34 a45 (ix (hI h34 a44 (ix x32)))) (fun o46 => (nn o41 (fun a47 => (if hT h34 a47 = 5 then (bI (c_X5_isAheadOf F a47 o46 h34) (fun x49 h48 => (lt_ (fun (h51 : z_Hp) => (lt_ (x33 + 1) (fun x52 => (c_X1_gather_L80 F a30 o31 x32 k137 n x52 h51)))) (fun (j131_50 : z_Hp → Option (z_Hp)) => (if x49 = 0 then (j131_50 h48) else (if hT h48 a30 = 1 then (lt_ (hR h48 a30 1) (fun o53 => (nn o53 (fun a54 => (if okA h48 a54 20 x32 = true then (if okA h48 a54 20 x32 = true then (lt_ (sI h48 a54 (ix x32) ((hI h48 a54 (ix x32)) ||| (1 <<< (x33 &&& 31)))) (fun h55 => (j131_50 h55))) else none) else none))))) else none)))))) else none))))) else none))) else none))))) else none))) else none))) else none))) else none))))) else none))) else none)))) else none)
def c_X1_gather_L62 (F : Nat) (a23 : Nat) (o24 : Option Nat) : Nat → Int32 → z_Hp → Option (z_Hp)
  | 0, _, _ => none
  | n + 1, x25, h26 => (if hT h26 a23 = 1 then (if (hI h26 a23 3) ≤ x25 then (some h26) else (if hT h26 a23 = 1 then (lt_ (hR h26 a23 1) (fun o27 => (nn o27 (fun a28 => (if okA h26 a28 20 x25 = true then (lt_ (sI h26 a28 (ix x25) 0) (fun h29 => (c_X1_gather_L80 F a23 o24 x25 (fun h56 => (lt_ (x25 + 1) (fun x57 => (c_X1_gather_L62 F a23 o24 n x57 h56)))) F 0 h29))) else none))))) else none)) else none)
def c_X1_gather (F : Nat) (a0 : Nat) (o1 : Option Nat) (x2 : Int32) (h0 : z_Hp) : Option (z_Hp) := (if hT h0 a0 = 1 then (lt_ (sI h0 a0 3 0) (fun h3 => (c_X1_gather_L7 F a0 o1 x2 (fun h22 => (c_X1_gather_L62 F a0 o1 F 0 h22)) F 0 h3))) else none)
set_option maxRecDepth 20000 in
set_option maxHeartbeats 4000000 in
theorem g_X1_gather_L7 (F : Nat) (a4 : Nat) (o5 : Option Nat) (x6 : Int32) (k60 : z_Hp → Option (z_Hp)) (qk60 : ∀ (h9 : z_Hp), z_G zv mi_X1_gather 60 [(0, vr (some a4)), (1, vr o5)] [] h9 (k60 h9)) : ∀ (n : Nat) (x7 : Int32) (h8 : z_Hp), z_G zv mi_X1_gather 7 [(0, vr (some a4)), (1, vr o5), (2, vi x6), (3, vi x7)] [] h8 (c_X1_gather_L7 F a4 o5 x6 k60 n x7 h8) := by
  intro n
  induction n with
  | zero => intro x7 h8; rw [c_X1_gather_L7]; exact z_none
  | succ n ih =>
    intro x7 h8
    rw [c_X1_gather_L7]
    refine z_iload_n (pc := 7) dX1_gather_7 rfl 3 rfl (z_aload_n (pc := 8) dX1_gather_8 rfl 1 rfl (?_))
    refine z_nn (fun a10 ea10 => ?_)
    subst ea10
    refine z_getI (pc := 9) fl_RX1_25 rfl dX1_gather_9 (?_)
    refine z_icmp_ge (pc := 12) (tgt := 60) dX1_gather_12 (by decide) ?_ ?_
    · exact z_sub [0, 1] rfl (qk60 h8)
    · refine z_aload_n (pc := 15) dX1_gather_15 rfl 0 rfl (z_getI (pc := 16) fl_RX1_21 rfl dX1_gather_16 (z_bipush (pc := 19) dX1_gather_19 bp_12 (?_)))
      refine z_icmp_ge (pc := 21) (tgt := 60) dX1_gather_21 (by decide) ?_ ?_
      · exact z_sub [0, 1] rfl (qk60 h8)
      · refine z_aload_n (pc := 24) dX1_gather_24 rfl 1 rfl (z_getRl (pc := 25) fl_RX1_28 rfl dX1_gather_25 (fun o11 => (z_iload_n (pc := 28) dX1_gather_28 rfl 3 rfl (?_))))
        refine z_nn (fun a12 ea12 => ?_)
        subst ea12
        refine z_aaloadl (pc := 29) 26 (by decide) dX1_gather_29 (fun o13 => (?_))
        refine z_nn (fun a14 ea14 => ?_)
        subst ea14
        refine z_getI (pc := 30) fl_RX1_32 rfl dX1_gather_30 (z_iload_n (pc := 33) dX1_gather_33 rfl 2 rfl (?_))
        refine z_jn (P := fun (j : z_Hp → Option (z_Hp)) => ∀ (h16 : z_Hp), z_G zv mi_X1_gather 54 [(0, vr (some a4)), (1, vr (some a10)), (2, vi x6), (3, vi x7)] [] h16 (j h16)) (fun h16 => ?_) (fun j54_15 qj54_15 => ?_)
        · refine z_iincl (pc := 54) (L' := fun x17 => [(0, vr (some a4)), (1, vr (some a10)), (2, vi x6), (3, vi x17)]) dX1_gather_54 3 rfl ic_1 (Nat.le_of_ble_eq_true rfl) (fun _ => rfl) (fun x17 => (z_goto (pc := 57) (tgt := 7) dX1_gather_57 (by decide) (?_)))
          exact ih x17 h16
        refine z_icmp_ne (pc := 34) (tgt := 54) dX1_gather_34 (by decide) ?_ ?_
        · exact qj54_15 h8
        · refine z_aload_n (pc := 37) dX1_gather_37 rfl 0 rfl (z_getRl (pc := 38) fl_RX1_9 rfl dX1_gather_38 (fun o18 => (z_aload_n (pc := 41) dX1_gather_41 rfl 0 rfl (z_dup (pc := 42) dX1_gather_42 rfl (z_getI (pc := 43) fl_RX1_21 rfl dX1_gather_43 (z_dup_x1 (pc := 46) dX1_gather_46 rfl rfl (z_iconst (pc := 47) dX1_gather_47 ic_1 (z_iadd (pc := 48) dX1_gather_48 (?_)))))))))
          refine z_putIl (pc := 49) fl_RX1_21 (fin_X_1_3 _) rfl dX1_gather_49 (fun h19 => (z_iload_n (pc := 52) dX1_gather_52 rfl 3 rfl (?_)))
          refine z_nn (fun a20 ea20 => ?_)
          subst ea20
          refine z_iastorel (pc := 53) dX1_gather_53 (fun h21 => (?_))
          exact qj54_15 h21
set_option maxRecDepth 20000 in
set_option maxHeartbeats 4000000 in
theorem g_X1_gather_L80 (F : Nat) (a30 : Nat) (o31 : Option Nat) (x32 : Int32) (k137 : z_Hp → Option (z_Hp)) (qk137 : ∀ (h35 : z_Hp), z_G zv mi_X1_gather 137 [(0, vr (some a30)), (1, vr o31), (3, vi x32)] [] h35 (k137 h35)) : ∀ (n : Nat) (x33 : Int32) (h34 : z_Hp), z_G zv mi_X1_gather 80 [(0, vr (some a30)), (1, vr o31), (3, vi x32), (4, vi x33)] [] h34 (c_X1_gather_L80 F a30 o31 x32 k137 n x33 h34) := by
  intro n
  induction n with
  | zero => intro x33 h34; rw [c_X1_gather_L80]; exact z_none
  | succ n ih =>
    intro x33 h34
    rw [c_X1_gather_L80]
    refine z_iload (pc := 80) dX1_gather_80 3 rfl (z_aload_n (pc := 82) dX1_gather_82 rfl 0 rfl (z_getI (pc := 83) fl_RX1_21 rfl dX1_gather_83 (?_)))
    refine z_icmp_ge (pc := 86) (tgt := 137) dX1_gather_86 (by decide) ?_ ?_
    · exact z_sub [0, 1, 2] rfl (qk137 h34)
    · refine z_aload_n (pc := 89) dX1_gather_89 rfl 1 rfl (?_)
      refine z_nn (fun a36 ea36 => ?_)
      subst ea36
      refine z_getRl (pc := 90) fl_RX1_28 rfl dX1_gather_90 (fun o37 => (z_aload_n (pc := 93) dX1_gather_93 rfl 0 rfl (z_getRl (pc := 94) fl_RX1_9 rfl dX1_gather_94 (fun o38 => (z_iload (pc := 97) dX1_gather_97 3 rfl (?_))))))
      refine z_nn (fun a39 ea39 => ?_)
      subst ea39
      refine z_iaload (pc := 99) dX1_gather_99 (?_)
      refine z_nn (fun a40 ea40 => ?_)
      subst ea40
      refine z_aaloadl (pc := 100) 26 (by decide) dX1_gather_100 (fun o41 => (z_aload_n (pc := 101) dX1_gather_101 rfl 1 rfl (z_getRl (pc := 102) fl_RX1_28 rfl dX1_gather_102 (fun o42 => (z_aload_n (pc := 105) dX1_gather_105 rfl 0 rfl (z_getRl (pc := 106) fl_RX1_9 rfl dX1_gather_106 (fun o43 => (z_iload_n (pc := 109) dX1_gather_109 rfl 2 rfl (?_)))))))))
      refine z_nn (fun a44 ea44 => ?_)
      subst ea44
      refine z_iaload (pc := 110) dX1_gather_110 (?_)
      refine z_nn (fun a45 ea45 => ?_)
      subst ea45
      refine z_aaloadl (pc := 111) 26 (by decide) dX1_gather_111 (fun o46 => (?_))
      refine z_nn (fun a47 ea47 => ?_)
      subst ea47
      refine z_callV_I (pc := 112) (avs := [vr o46]) (st := []) rfl (q := (RX5, TX5, 11)) rfl rfl (t_X5_isAheadOf F a47 o46 h34) ky_X5_isAheadOf wm_X5_isAheadOf we_X5_isAheadOf wz_RX1_37 (rm_X1_gather_X5_isAheadOf) (Nat.le_of_ble_eq_true rfl) dX1_gather_112 (fun x49 h48 => (?_))
      refine z_jn (P := fun (j : z_Hp → Option (z_Hp)) => ∀ (h51 : z_Hp), z_G zv mi_X1_gather 131 [(0, vr (some a30)), (1, vr (some a36)), (3, vi x32), (4, vi x33)] [] h51 (j h51)) (fun h51 => ?_) (fun j131_50 qj131_50 => ?_)
      · refine z_iincl (pc := 131) (L' := fun x52 => [(0, vr (some a30)), (1, vr (some a36)), (3, vi x32), (4, vi x52)]) dX1_gather_131 3 rfl ic_1 (Nat.le_of_ble_eq_true rfl) (fun _ => rfl) (fun x52 => (z_goto (pc := 134) (tgt := 80) dX1_gather_134 (by decide) (?_)))
        exact ih x52 h51
      refine z_if_eq (pc := 115) (tgt := 131) dX1_gather_115 (by decide) ?_ ?_
      · exact qj131_50 h48
      · refine z_aload_n (pc := 118) dX1_gather_118 rfl 0 rfl (z_getRl (pc := 119) fl_RX1_15 rfl dX1_gather_119 (fun o53 => (z_iload_n (pc := 122) dX1_gather_122 rfl 2 rfl (z_dup2 (pc := 123) dX1_gather_123 rfl rfl (?_)))))
        refine z_nn (fun a54 ea54 => ?_)
        subst ea54
        refine z_iaload (pc := 124) dX1_gather_124 (z_iconst (pc := 125) dX1_gather_125 ic_1 (z_iload (pc := 126) dX1_gather_126 3 rfl (z_ishl (pc := 128) dX1_gather_128 (z_ior (pc := 129) dX1_gather_129 (z_iastorel (pc := 130) dX1_gather_130 (fun h55 => (?_)))))))
        exact qj131_50 h55
set_option maxRecDepth 20000 in
set_option maxHeartbeats 4000000 in
theorem g_X1_gather_L62 (F : Nat) (a23 : Nat) (o24 : Option Nat) : ∀ (n : Nat) (x25 : Int32) (h26 : z_Hp), z_G zv mi_X1_gather 62 [(0, vr (some a23)), (1, vr o24), (3, vi x25)] [] h26 (c_X1_gather_L62 F a23 o24 n x25 h26) := by
  intro n
  induction n with
  | zero => intro x25 h26; rw [c_X1_gather_L62]; exact z_none
  | succ n ih =>
    intro x25 h26
    rw [c_X1_gather_L62]
    refine z_iload_n (pc := 62) dX1_gather_62 rfl 2 rfl (z_aload_n (pc := 63) dX1_gather_63 rfl 0 rfl (z_getI (pc := 64) fl_RX1_21 rfl dX1_gather_64 (?_)))
    refine z_icmp_ge (pc := 67) (tgt := 143) dX1_gather_67 (by decide) ?_ ?_
    · exact z_vret (pc := 143) dX1_gather_143 rfl
    · refine z_aload_n (pc := 70) dX1_gather_70 rfl 0 rfl (z_getRl (pc := 71) fl_RX1_15 rfl dX1_gather_71 (fun o27 => (z_iload_n (pc := 74) dX1_gather_74 rfl 2 rfl (z_iconst (pc := 75) dX1_gather_75 ic_0 (?_)))))
      refine z_nn (fun a28 ea28 => ?_)
      subst ea28
      refine z_iastorel (pc := 76) dX1_gather_76 (fun h29 => (z_iconst (pc := 77) dX1_gather_77 ic_0 (z_istore (pc := 78) (L' := [(0, vr (some a23)), (1, vr o24), (3, vi x25), (4, vi 0)]) dX1_gather_78 (Nat.le_of_ble_eq_true rfl) rfl (?_))))
      refine g_X1_gather_L80 F a23 o24 x25 _ (fun h56 => ?_) F 0 h29
      refine z_iincl (pc := 137) (L' := fun x57 => [(0, vr (some a23)), (1, vr o24), (3, vi x57)]) dX1_gather_137 2 rfl ic_1 (Nat.le_of_ble_eq_true rfl) (fun _ => rfl) (fun x57 => (z_goto (pc := 140) (tgt := 62) dX1_gather_140 (by decide) (?_)))
      exact ih x57 h56
set_option maxRecDepth 20000 in
set_option maxHeartbeats 4000000 in
theorem t_X1_gather (F : Nat) (a0 : Nat) (o1 : Option Nat) (x2 : Int32) (h0 : z_Hp) : z_Ct zv mi_X1_gather [vr (some a0), vr o1, vi x2] h0 (c_X1_gather F a0 o1 x2 h0) := by
  refine z_entry (by decide) (Nat.le_of_ble_eq_true rfl) [(0, vr (some a0)), (1, vr o1), (2, vi x2)] rfl ?_
  unfold c_X1_gather
  refine z_aload_n (pc := 0) dX1_gather_0 rfl 0 rfl (z_iconst (pc := 1) dX1_gather_1 ic_0 (z_putIl (pc := 2) fl_RX1_21 (fin_X_1_3 _) rfl dX1_gather_2 (fun h3 => (z_iconst (pc := 5) dX1_gather_5 ic_0 (z_istore_n (pc := 6) (L' := [(0, vr (some a0)), (1, vr o1), (2, vi x2), (3, vi 0)]) dX1_gather_6 rfl (Nat.le_of_ble_eq_true rfl) rfl (?_))))))
  refine g_X1_gather_L7 F a0 o1 x2 _ (fun h22 => ?_) F 0 h3
  refine z_iconst (pc := 60) dX1_gather_60 ic_0 (z_istore_n (pc := 61) (L' := [(0, vr (some a0)), (1, vr o1), (3, vi 0)]) dX1_gather_61 rfl (Nat.le_of_ble_eq_true rfl) rfl (?_))
  refine g_X1_gather_L62 F a0 o1 F 0 h22
theorem dX1_placeOf_0 : decode cX1_placeOf 0 = .ok (.iconst 0, 1) := by decide +kernel
theorem dX1_placeOf_1 : decode cX1_placeOf 1 = .ok (.istore_n 2, 1) := by decide +kernel
theorem dX1_placeOf_2 : decode cX1_placeOf 2 = .ok (.iconst 0, 1) := by decide +kernel
theorem dX1_placeOf_3 : decode cX1_placeOf 3 = .ok (.istore_n 3, 1) := by decide +kernel
theorem dX1_placeOf_4 : decode cX1_placeOf 4 = .ok (.iload_n 3, 1) := by decide +kernel
theorem dX1_placeOf_5 : decode cX1_placeOf 5 = .ok (.aload_n 0, 1) := by decide +kernel
theorem dX1_placeOf_6 : decode cX1_placeOf 6 = .ok (.getfield 21, 3) := by decide +kernel
theorem dX1_placeOf_9 : decode cX1_placeOf 9 = .ok (.if_icmp .ge 21, 3) := by decide +kernel
theorem dX1_placeOf_12 : decode cX1_placeOf 12 = .ok (.aload_n 0, 1) := by decide +kernel
theorem dX1_placeOf_13 : decode cX1_placeOf 13 = .ok (.getfield 9, 3) := by decide +kernel
theorem dX1_placeOf_16 : decode cX1_placeOf 16 = .ok (.iload_n 3, 1) := by decide +kernel
theorem dX1_placeOf_17 : decode cX1_placeOf 17 = .ok (.iaload, 1) := by decide +kernel
theorem dX1_placeOf_18 : decode cX1_placeOf 18 = .ok (.iload_n 1, 1) := by decide +kernel
theorem dX1_placeOf_19 : decode cX1_placeOf 19 = .ok (.if_icmp .ne 5, 3) := by decide +kernel
theorem dX1_placeOf_22 : decode cX1_placeOf 22 = .ok (.iload_n 3, 1) := by decide +kernel
theorem dX1_placeOf_23 : decode cX1_placeOf 23 = .ok (.istore_n 2, 1) := by decide +kernel
theorem dX1_placeOf_24 : decode cX1_placeOf 24 = .ok (.iinc 3 1, 3) := by decide +kernel
theorem dX1_placeOf_27 : decode cX1_placeOf 27 = .ok (.goto (-23), 3) := by decide +kernel
theorem dX1_placeOf_30 : decode cX1_placeOf 30 = .ok (.iload_n 2, 1) := by decide +kernel
theorem dX1_placeOf_31 : decode cX1_placeOf 31 = .ok (.ireturn, 1) := by decide +kernel
def c_X1_placeOf_L4 (F : Nat) (a2 : Nat) (x3 : Int32) : Nat → Int32 → Int32 → z_Hp → Option (Int32 × z_Hp)
  | 0, _, _, _ => none
  | n + 1, x4, x5, h6 => (if hT h6 a2 = 1 then (if (hI h6 a2 3) ≤ x5 then (some (x4, h6)) else (if hT h6 a2 = 1 then (lt_ (hR h6 a2 0) (fun o7 => (nn o7 (fun a8 => (if okA h6 a8 20 x5 = true then (lt_ (fun (x10 : Int32) (h11 : z_Hp) => (lt_ (x5 + 1) (fun x12 => (c_X1_placeOf_L4 F a2 x3 n x10 x12 h11)))) (fun (j24_9 : Int32 → z_Hp → Option (Int32 × z_Hp)) => (if (hI h6 a8 (ix x5)) = x3 then (j24_9 x5 h6) else (j24_9 x4 h6)))) else none))))) else none)) else none)
def c_X1_placeOf (F : Nat) (a0 : Nat) (x1 : Int32) (h0 : z_Hp) : Option (Int32 × z_Hp) := (c_X1_placeOf_L4 F a0 x1 F 0 0 h0)
set_option maxRecDepth 20000 in
set_option maxHeartbeats 4000000 in
theorem g_X1_placeOf_L4 (F : Nat) (a2 : Nat) (x3 : Int32) : ∀ (n : Nat) (x4 : Int32) (x5 : Int32) (h6 : z_Hp), z_G zi mi_X1_placeOf 4 [(0, vr (some a2)), (1, vi x3), (2, vi x4), (3, vi x5)] [] h6 (c_X1_placeOf_L4 F a2 x3 n x4 x5 h6) := by
  intro n
  induction n with
  | zero => intro x4 x5 h6; rw [c_X1_placeOf_L4]; exact z_none
  | succ n ih =>
    intro x4 x5 h6
    rw [c_X1_placeOf_L4]
    refine z_iload_n (pc := 4) dX1_placeOf_4 rfl 3 rfl (z_aload_n (pc := 5) dX1_placeOf_5 rfl 0 rfl (z_getI (pc := 6) fl_RX1_21 rfl dX1_placeOf_6 (?_)))
    refine z_icmp_ge (pc := 9) (tgt := 30) dX1_placeOf_9 (by decide) ?_ ?_
    · refine z_iload_n (pc := 30) dX1_placeOf_30 rfl 2 rfl (?_)
      exact z_iret (pc := 31) dX1_placeOf_31 rfl rfl
    · refine z_aload_n (pc := 12) dX1_placeOf_12 rfl 0 rfl (z_getRl (pc := 13) fl_RX1_9 rfl dX1_placeOf_13 (fun o7 => (z_iload_n (pc := 16) dX1_placeOf_16 rfl 3 rfl (?_))))
      refine z_nn (fun a8 ea8 => ?_)
      subst ea8
      refine z_iaload (pc := 17) dX1_placeOf_17 (z_iload_n (pc := 18) dX1_placeOf_18 rfl 1 rfl (?_))
      refine z_jn (P := fun (j : Int32 → z_Hp → Option (Int32 × z_Hp)) => ∀ (x10 : Int32) (h11 : z_Hp), z_G zi mi_X1_placeOf 24 [(0, vr (some a2)), (1, vi x3), (2, vi x10), (3, vi x5)] [] h11 (j x10 h11)) (fun x10 h11 => ?_) (fun j24_9 qj24_9 => ?_)
      · refine z_iincl (pc := 24) (L' := fun x12 => [(0, vr (some a2)), (1, vi x3), (2, vi x10), (3, vi x12)]) dX1_placeOf_24 3 rfl ic_1 (Nat.le_of_ble_eq_true rfl) (fun _ => rfl) (fun x12 => (z_goto (pc := 27) (tgt := 4) dX1_placeOf_27 (by decide) (?_)))
        exact ih x10 x12 h11
      refine z_icmp_ne (pc := 19) (tgt := 24) dX1_placeOf_19 (by decide) ?_ ?_
      · exact qj24_9 x4 h6
      · refine z_iload_n (pc := 22) dX1_placeOf_22 rfl 3 rfl (z_istore_n (pc := 23) (L' := [(0, vr (some a2)), (1, vi x3), (2, vi x5), (3, vi x5)]) dX1_placeOf_23 rfl (Nat.le_of_ble_eq_true rfl) rfl (?_))
        exact qj24_9 x5 h6
set_option maxRecDepth 20000 in
set_option maxHeartbeats 4000000 in
theorem t_X1_placeOf (F : Nat) (a0 : Nat) (x1 : Int32) (h0 : z_Hp) : z_Ct zi mi_X1_placeOf [vr (some a0), vi x1] h0 (c_X1_placeOf F a0 x1 h0) := by
  refine z_entry (by decide) (Nat.le_of_ble_eq_true rfl) [(0, vr (some a0)), (1, vi x1)] rfl ?_
  unfold c_X1_placeOf
  refine z_iconst (pc := 0) dX1_placeOf_0 ic_0 (z_istore_n (pc := 1) (L' := [(0, vr (some a0)), (1, vi x1), (2, vi 0)]) dX1_placeOf_1 rfl (Nat.le_of_ble_eq_true rfl) rfl (z_iconst (pc := 2) dX1_placeOf_2 ic_0 (z_istore_n (pc := 3) (L' := [(0, vr (some a0)), (1, vi x1), (2, vi 0), (3, vi 0)]) dX1_placeOf_3 rfl (Nat.le_of_ble_eq_true rfl) rfl (?_))))
  refine g_X1_placeOf_L4 F a0 x1 F 0 0 h0
theorem dX1_demand_0 : decode cX1_demand 0 = .ok (.iconst 0, 1) := by decide +kernel
theorem dX1_demand_1 : decode cX1_demand 1 = .ok (.istore_n 3, 1) := by decide +kernel
theorem dX1_demand_2 : decode cX1_demand 2 = .ok (.iload_n 3, 1) := by decide +kernel
theorem dX1_demand_3 : decode cX1_demand 3 = .ok (.aload_n 0, 1) := by decide +kernel
theorem dX1_demand_4 : decode cX1_demand 4 = .ok (.getfield 21, 3) := by decide +kernel
theorem dX1_demand_7 : decode cX1_demand 7 = .ok (.if_icmp .ge 35, 3) := by decide +kernel
theorem dX1_demand_10 : decode cX1_demand 10 = .ok (.aload_n 0, 1) := by decide +kernel
theorem dX1_demand_11 : decode cX1_demand 11 = .ok (.getfield 9, 3) := by decide +kernel
theorem dX1_demand_14 : decode cX1_demand 14 = .ok (.iload_n 3, 1) := by decide +kernel
theorem dX1_demand_15 : decode cX1_demand 15 = .ok (.iaload, 1) := by decide +kernel
theorem dX1_demand_16 : decode cX1_demand 16 = .ok (.iload_n 2, 1) := by decide +kernel
theorem dX1_demand_17 : decode cX1_demand 17 = .ok (.if_icmp .ne 19, 3) := by decide +kernel
theorem dX1_demand_20 : decode cX1_demand 20 = .ok (.aload_n 0, 1) := by decide +kernel
theorem dX1_demand_21 : decode cX1_demand 21 = .ok (.getfield 15, 3) := by decide +kernel
theorem dX1_demand_24 : decode cX1_demand 24 = .ok (.iload_n 3, 1) := by decide +kernel
theorem dX1_demand_25 : decode cX1_demand 25 = .ok (.dup2, 1) := by decide +kernel
theorem dX1_demand_26 : decode cX1_demand 26 = .ok (.iaload, 1) := by decide +kernel
theorem dX1_demand_27 : decode cX1_demand 27 = .ok (.iconst 1, 1) := by decide +kernel
theorem dX1_demand_28 : decode cX1_demand 28 = .ok (.aload_n 0, 1) := by decide +kernel
theorem dX1_demand_29 : decode cX1_demand 29 = .ok (.iload_n 1, 1) := by decide +kernel
theorem dX1_demand_30 : decode cX1_demand 30 = .ok (.invokevirtual 41, 3) := by decide +kernel
theorem dX1_demand_33 : decode cX1_demand 33 = .ok (.ishl, 1) := by decide +kernel
theorem dX1_demand_34 : decode cX1_demand 34 = .ok (.ior, 1) := by decide +kernel
theorem dX1_demand_35 : decode cX1_demand 35 = .ok (.iastore, 1) := by decide +kernel
theorem dX1_demand_36 : decode cX1_demand 36 = .ok (.iinc 3 1, 3) := by decide +kernel
theorem dX1_demand_39 : decode cX1_demand 39 = .ok (.goto (-37), 3) := by decide +kernel
theorem dX1_demand_42 : decode cX1_demand 42 = .ok (.return_, 1) := by decide +kernel
def c_X1_demand_L2 (F : Nat) (a3 : Nat) (x4 : Int32) (x5 : Int32) : Nat → Int32 → z_Hp → Option (z_Hp)
  | 0, _, _ => none
  | n + 1, x6, h7 => (if hT h7 a3 = 1 then (if (hI h7 a3 3) ≤ x6 then (some h7) else (if hT h7 a3 = 1 then (lt_ (hR h7 a3 0) (fun o8 => (nn o8 (fun a9 => (if okA h7 a9 20 x6 = true then (lt_ (fun (h11 : z_Hp) => (lt_ (x6 + 1) (fun x12 => (c_X1_demand_L2 F a3 x4 x5 n x12 h11)))) (fun (j36_10 : z_Hp → Option (z_Hp)) => (if (hI h7 a9 (ix x6)) = x5 then (if hT h7 a3 = 1 then (lt_ (hR h7 a3 1) (fun o13 => (nn o13 (fun a14 => (if okA h7 a14 20 x6 = true then (if hT h7 a3 = 1 then (bI (c_X1_placeOf F a3 x4 h7) (fun x16 h15 => (if okA h15 a14 20 x6 = true then (lt_ (sI h15 a14 (ix x6) ((hI h7 a14 (ix x6)) ||| (1 <<< (x16 &&& 31)))) (fun h17 => (j36_10 h17))) else none))) else none) else none))))) else none) else (j36_10 h7)))) else none))))) else none)) else none)
def c_X1_demand (F : Nat) (a0 : Nat) (x1 : Int32) (x2 : Int32) (h0 : z_Hp) : Option (z_Hp) := (c_X1_demand_L2 F a0 x1 x2 F 0 h0)
set_option maxRecDepth 20000 in
set_option maxHeartbeats 4000000 in
theorem g_X1_demand_L2 (F : Nat) (a3 : Nat) (x4 : Int32) (x5 : Int32) : ∀ (n : Nat) (x6 : Int32) (h7 : z_Hp), z_G zv mi_X1_demand 2 [(0, vr (some a3)), (1, vi x4), (2, vi x5), (3, vi x6)] [] h7 (c_X1_demand_L2 F a3 x4 x5 n x6 h7) := by
  intro n
  induction n with
  | zero => intro x6 h7; rw [c_X1_demand_L2]; exact z_none
  | succ n ih =>
    intro x6 h7
    rw [c_X1_demand_L2]
    refine z_iload_n (pc := 2) dX1_demand_2 rfl 3 rfl (z_aload_n (pc := 3) dX1_demand_3 rfl 0 rfl (z_getI (pc := 4) fl_RX1_21 rfl dX1_demand_4 (?_)))
    refine z_icmp_ge (pc := 7) (tgt := 42) dX1_demand_7 (by decide) ?_ ?_
    · exact z_vret (pc := 42) dX1_demand_42 rfl
    · refine z_aload_n (pc := 10) dX1_demand_10 rfl 0 rfl (z_getRl (pc := 11) fl_RX1_9 rfl dX1_demand_11 (fun o8 => (z_iload_n (pc := 14) dX1_demand_14 rfl 3 rfl (?_))))
      refine z_nn (fun a9 ea9 => ?_)
      subst ea9
      refine z_iaload (pc := 15) dX1_demand_15 (z_iload_n (pc := 16) dX1_demand_16 rfl 2 rfl (?_))
      refine z_jn (P := fun (j : z_Hp → Option (z_Hp)) => ∀ (h11 : z_Hp), z_G zv mi_X1_demand 36 [(0, vr (some a3)), (1, vi x4), (2, vi x5), (3, vi x6)] [] h11 (j h11)) (fun h11 => ?_) (fun j36_10 qj36_10 => ?_)
      · refine z_iincl (pc := 36) (L' := fun x12 => [(0, vr (some a3)), (1, vi x4), (2, vi x5), (3, vi x12)]) dX1_demand_36 3 rfl ic_1 (Nat.le_of_ble_eq_true rfl) (fun _ => rfl) (fun x12 => (z_goto (pc := 39) (tgt := 2) dX1_demand_39 (by decide) (?_)))
        exact ih x12 h11
      refine z_icmp_ne (pc := 17) (tgt := 36) dX1_demand_17 (by decide) ?_ ?_
      · exact qj36_10 h7
      · refine z_aload_n (pc := 20) dX1_demand_20 rfl 0 rfl (z_getRl (pc := 21) fl_RX1_15 rfl dX1_demand_21 (fun o13 => (z_iload_n (pc := 24) dX1_demand_24 rfl 3 rfl (z_dup2 (pc := 25) dX1_demand_25 rfl rfl (?_)))))
        refine z_nn (fun a14 ea14 => ?_)
        subst ea14
        refine z_iaload (pc := 26) dX1_demand_26 (z_iconst (pc := 27) dX1_demand_27 ic_1 (z_aload_n (pc := 28) dX1_demand_28 rfl 0 rfl (z_iload_n (pc := 29) dX1_demand_29 rfl 1 rfl (z_callV_I (pc := 30) (avs := [vi x4]) (st := [vi 1, vi (hI h7 a14 (ix x6)), vi x6, vr (some a14)]) rfl (q := (RX1, TX1, 4)) rfl rfl (t_X1_placeOf F a3 x4 h7) ky_X1_placeOf wm_X1_placeOf we_X1_placeOf wz_RX1_41 (rm_X1_demand_X1_placeOf) (Nat.le_of_ble_eq_true rfl) dX1_demand_30 (fun x16 h15 => (?_))))))
        refine z_ishl (pc := 33) dX1_demand_33 (z_ior (pc := 34) dX1_demand_34 (z_iastorel (pc := 35) dX1_demand_35 (fun h17 => (?_))))
        exact qj36_10 h17
set_option maxRecDepth 20000 in
set_option maxHeartbeats 4000000 in
theorem t_X1_demand (F : Nat) (a0 : Nat) (x1 : Int32) (x2 : Int32) (h0 : z_Hp) : z_Ct zv mi_X1_demand [vr (some a0), vi x1, vi x2] h0 (c_X1_demand F a0 x1 x2 h0) := by
  refine z_entry (by decide) (Nat.le_of_ble_eq_true rfl) [(0, vr (some a0)), (1, vi x1), (2, vi x2)] rfl ?_
  unfold c_X1_demand
  refine z_iconst (pc := 0) dX1_demand_0 ic_0 (z_istore_n (pc := 1) (L' := [(0, vr (some a0)), (1, vi x1), (2, vi x2), (3, vi 0)]) dX1_demand_1 rfl (Nat.le_of_ble_eq_true rfl) rfl (?_))
  refine g_X1_demand_L2 F a0 x1 x2 F 0 h0
theorem dX1_goOnFrom_0 : decode cX1_goOnFrom 0 = .ok (.aload_n 0, 1) := by decide +kernel
theorem dX1_goOnFrom_1 : decode cX1_goOnFrom 1 = .ok (.getfield 18, 3) := by decide +kernel
theorem dX1_goOnFrom_4 : decode cX1_goOnFrom 4 = .ok (.iload_n 1, 1) := by decide +kernel
theorem dX1_goOnFrom_5 : decode cX1_goOnFrom 5 = .ok (.iaload, 1) := by decide +kernel
theorem dX1_goOnFrom_6 : decode cX1_goOnFrom 6 = .ok (.istore_n 2, 1) := by decide +kernel
theorem dX1_goOnFrom_7 : decode cX1_goOnFrom 7 = .ok (.iconst 0, 1) := by decide +kernel
theorem dX1_goOnFrom_8 : decode cX1_goOnFrom 8 = .ok (.istore_n 3, 1) := by decide +kernel
theorem dX1_goOnFrom_9 : decode cX1_goOnFrom 9 = .ok (.iload_n 3, 1) := by decide +kernel
theorem dX1_goOnFrom_10 : decode cX1_goOnFrom 10 = .ok (.aload_n 0, 1) := by decide +kernel
theorem dX1_goOnFrom_11 : decode cX1_goOnFrom 11 = .ok (.getfield 21, 3) := by decide +kernel
theorem dX1_goOnFrom_14 : decode cX1_goOnFrom 14 = .ok (.if_icmp .ge 47, 3) := by decide +kernel
theorem dX1_goOnFrom_17 : decode cX1_goOnFrom 17 = .ok (.iconst 1, 1) := by decide +kernel
theorem dX1_goOnFrom_18 : decode cX1_goOnFrom 18 = .ok (.iload_n 3, 1) := by decide +kernel
theorem dX1_goOnFrom_19 : decode cX1_goOnFrom 19 = .ok (.ishl, 1) := by decide +kernel
theorem dX1_goOnFrom_20 : decode cX1_goOnFrom 20 = .ok (.istore 4, 2) := by decide +kernel
theorem dX1_goOnFrom_22 : decode cX1_goOnFrom 22 = .ok (.iload_n 1, 1) := by decide +kernel
theorem dX1_goOnFrom_23 : decode cX1_goOnFrom 23 = .ok (.iload 4, 2) := by decide +kernel
theorem dX1_goOnFrom_25 : decode cX1_goOnFrom 25 = .ok (.iand, 1) := by decide +kernel
theorem dX1_goOnFrom_26 : decode cX1_goOnFrom 26 = .ok (.ifCond .ne 29, 3) := by decide +kernel
theorem dX1_goOnFrom_29 : decode cX1_goOnFrom 29 = .ok (.aload_n 0, 1) := by decide +kernel
theorem dX1_goOnFrom_30 : decode cX1_goOnFrom 30 = .ok (.getfield 15, 3) := by decide +kernel
theorem dX1_goOnFrom_33 : decode cX1_goOnFrom 33 = .ok (.iload_n 3, 1) := by decide +kernel
theorem dX1_goOnFrom_34 : decode cX1_goOnFrom 34 = .ok (.iaload, 1) := by decide +kernel
theorem dX1_goOnFrom_35 : decode cX1_goOnFrom 35 = .ok (.iload_n 1, 1) := by decide +kernel
theorem dX1_goOnFrom_36 : decode cX1_goOnFrom 36 = .ok (.iconst (-1), 1) := by decide +kernel
theorem dX1_goOnFrom_37 : decode cX1_goOnFrom 37 = .ok (.ixor, 1) := by decide +kernel
theorem dX1_goOnFrom_38 : decode cX1_goOnFrom 38 = .ok (.iand, 1) := by decide +kernel
theorem dX1_goOnFrom_39 : decode cX1_goOnFrom 39 = .ok (.ifCond .ne 16, 3) := by decide +kernel
theorem dX1_goOnFrom_42 : decode cX1_goOnFrom 42 = .ok (.aload_n 0, 1) := by decide +kernel
theorem dX1_goOnFrom_43 : decode cX1_goOnFrom 43 = .ok (.getfield 18, 3) := by decide +kernel
theorem dX1_goOnFrom_46 : decode cX1_goOnFrom 46 = .ok (.iload_n 1, 1) := by decide +kernel
theorem dX1_goOnFrom_47 : decode cX1_goOnFrom 47 = .ok (.iload 4, 2) := by decide +kernel
theorem dX1_goOnFrom_49 : decode cX1_goOnFrom 49 = .ok (.ior, 1) := by decide +kernel
theorem dX1_goOnFrom_50 : decode cX1_goOnFrom 50 = .ok (.dup2, 1) := by decide +kernel
theorem dX1_goOnFrom_51 : decode cX1_goOnFrom 51 = .ok (.iaload, 1) := by decide +kernel
theorem dX1_goOnFrom_52 : decode cX1_goOnFrom 52 = .ok (.iload_n 2, 1) := by decide +kernel
theorem dX1_goOnFrom_53 : decode cX1_goOnFrom 53 = .ok (.iadd, 1) := by decide +kernel
theorem dX1_goOnFrom_54 : decode cX1_goOnFrom 54 = .ok (.iastore, 1) := by decide +kernel
theorem dX1_goOnFrom_55 : decode cX1_goOnFrom 55 = .ok (.iinc 3 1, 3) := by decide +kernel
theorem dX1_goOnFrom_58 : decode cX1_goOnFrom 58 = .ok (.goto (-49), 3) := by decide +kernel
theorem dX1_goOnFrom_61 : decode cX1_goOnFrom 61 = .ok (.return_, 1) := by decide +kernel
def c_X1_goOnFrom_L9 (F : Nat) (a5 : Nat) (x6 : Int32) (x7 : Int32) : Nat → Int32 → z_Hp → Option (z_Hp)
  | 0, _, _ => none
  | n + 1, x8, h9 => (if hT h9 a5 = 1 then (if (hI h9 a5 3) ≤ x8 then (some h9) else (lt_ (1 <<< (x8 &&& 31)) (fun x10 => (lt_ (fun (h12 : z_Hp) => (lt_ (x8 + 1) (fun x13 => (c_X1_goOnFrom_L9 F a5 x6 x7 n x13 h12)))) (fun (j55_11 : z_Hp → Option (z_Hp)) => (if (x6 &&& x10) = 0 then (if hT h9 a5 = 1 then (lt_ (hR h9 a5 1) (fun o14 => (nn o14 (fun a15 => (if okA h9 a15 20 x8 = true then (if ((hI h9 a15 (ix x8)) &&& (x6 ^^^ (-1))) = 0 then (if hT h9 a5 = 1 then (lt_ (hR h9 a5 2) (fun o16 => (nn o16 (fun a17 => (if okA h9 a17 20 (x6 ||| x10) = true then (if okA h9 a17 20 (x6 ||| x10) = true then (lt_ (sI h9 a17 (ix (x6 ||| x10)) ((hI h9 a17 (ix (x6 ||| x10))) + x7)) (fun h18 => (j55_11 h18))) else none) else none))))) else none) else (j55_11 h9)) else none))))) else none) else (j55_11 h9))))))) else none)
def c_X1_goOnFrom (F : Nat) (a0 : Nat) (x1 : Int32) (h0 : z_Hp) : Option (z_Hp) := (if hT h0 a0 = 1 then (lt_ (hR h0 a0 2) (fun o2 => (nn o2 (fun a3 => (if okA h0 a3 20 x1 = true then (lt_ (hI h0 a3 (ix x1)) (fun x4 => (c_X1_goOnFrom_L9 F a0 x1 x4 F 0 h0))) else none))))) else none)
set_option maxRecDepth 20000 in
set_option maxHeartbeats 4000000 in
theorem g_X1_goOnFrom_L9 (F : Nat) (a5 : Nat) (x6 : Int32) (x7 : Int32) : ∀ (n : Nat) (x8 : Int32) (h9 : z_Hp), z_G zv mi_X1_goOnFrom 9 [(0, vr (some a5)), (1, vi x6), (2, vi x7), (3, vi x8)] [] h9 (c_X1_goOnFrom_L9 F a5 x6 x7 n x8 h9) := by
  intro n
  induction n with
  | zero => intro x8 h9; rw [c_X1_goOnFrom_L9]; exact z_none
  | succ n ih =>
    intro x8 h9
    rw [c_X1_goOnFrom_L9]
    refine z_iload_n (pc := 9) dX1_goOnFrom_9 rfl 3 rfl (z_aload_n (pc := 10) dX1_goOnFrom_10 rfl 0 rfl (z_getI (pc := 11) fl_RX1_21 rfl dX1_goOnFrom_11 (?_)))
    refine z_icmp_ge (pc := 14) (tgt := 61) dX1_goOnFrom_14 (by decide) ?_ ?_
    · exact z_vret (pc := 61) dX1_goOnFrom_61 rfl
    · refine z_iconst (pc := 17) dX1_goOnFrom_17 ic_1 (z_iload_n (pc := 18) dX1_goOnFrom_18 rfl 3 rfl (z_ishl (pc := 19) dX1_goOnFrom_19 (z_istorel (pc := 20) (L' := fun x10 => [(0, vr (some a5)), (1, vi x6), (2, vi x7), (3, vi x8), (4, vi x10)]) dX1_goOnFrom_20 (Nat.le_of_ble_eq_true rfl) (fun _ => rfl) (fun x10 => (z_iload_n (pc := 22) dX1_goOnFrom_22 rfl 1 rfl (z_iload (pc := 23) dX1_goOnFrom_23 4 rfl (z_iand (pc := 25) dX1_goOnFrom_25 (?_))))))))
      refine z_jn (P := fun (j : z_Hp → Option (z_Hp)) => ∀ (h12 : z_Hp), z_G zv mi_X1_goOnFrom 55 [(0, vr (some a5)), (1, vi x6), (2, vi x7), (3, vi x8)] [] h12 (j h12)) (fun h12 => ?_) (fun j55_11 qj55_11 => ?_)
      · refine z_iincl (pc := 55) (L' := fun x13 => [(0, vr (some a5)), (1, vi x6), (2, vi x7), (3, vi x13)]) dX1_goOnFrom_55 3 rfl ic_1 (Nat.le_of_ble_eq_true rfl) (fun _ => rfl) (fun x13 => (z_goto (pc := 58) (tgt := 9) dX1_goOnFrom_58 (by decide) (?_)))
        exact ih x13 h12
      refine z_if_ne (pc := 26) (tgt := 55) dX1_goOnFrom_26 (by decide) ?_ ?_
      · exact z_sub [0, 1, 2, 3] rfl (qj55_11 h9)
      · refine z_aload_n (pc := 29) dX1_goOnFrom_29 rfl 0 rfl (z_getRl (pc := 30) fl_RX1_15 rfl dX1_goOnFrom_30 (fun o14 => (z_iload_n (pc := 33) dX1_goOnFrom_33 rfl 3 rfl (?_))))
        refine z_nn (fun a15 ea15 => ?_)
        subst ea15
        refine z_iaload (pc := 34) dX1_goOnFrom_34 (z_iload_n (pc := 35) dX1_goOnFrom_35 rfl 1 rfl (z_iconst (pc := 36) dX1_goOnFrom_36 ic_m1 (z_ixor (pc := 37) dX1_goOnFrom_37 (z_iand (pc := 38) dX1_goOnFrom_38 (?_)))))
        refine z_if_ne (pc := 39) (tgt := 55) dX1_goOnFrom_39 (by decide) ?_ ?_
        · exact z_sub [0, 1, 2, 3] rfl (qj55_11 h9)
        · refine z_aload_n (pc := 42) dX1_goOnFrom_42 rfl 0 rfl (z_getRl (pc := 43) fl_RX1_18 rfl dX1_goOnFrom_43 (fun o16 => (z_iload_n (pc := 46) dX1_goOnFrom_46 rfl 1 rfl (z_iload (pc := 47) dX1_goOnFrom_47 4 rfl (z_ior (pc := 49) dX1_goOnFrom_49 (z_dup2 (pc := 50) dX1_goOnFrom_50 rfl rfl (?_)))))))
          refine z_nn (fun a17 ea17 => ?_)
          subst ea17
          refine z_iaload (pc := 51) dX1_goOnFrom_51 (z_iload_n (pc := 52) dX1_goOnFrom_52 rfl 2 rfl (z_iadd (pc := 53) dX1_goOnFrom_53 (z_iastorel (pc := 54) dX1_goOnFrom_54 (fun h18 => (?_)))))
          exact z_sub [0, 1, 2, 3] rfl (qj55_11 h18)
set_option maxRecDepth 20000 in
set_option maxHeartbeats 4000000 in
theorem t_X1_goOnFrom (F : Nat) (a0 : Nat) (x1 : Int32) (h0 : z_Hp) : z_Ct zv mi_X1_goOnFrom [vr (some a0), vi x1] h0 (c_X1_goOnFrom F a0 x1 h0) := by
  refine z_entry (by decide) (Nat.le_of_ble_eq_true rfl) [(0, vr (some a0)), (1, vi x1)] rfl ?_
  unfold c_X1_goOnFrom
  refine z_aload_n (pc := 0) dX1_goOnFrom_0 rfl 0 rfl (z_getRl (pc := 1) fl_RX1_18 rfl dX1_goOnFrom_1 (fun o2 => (z_iload_n (pc := 4) dX1_goOnFrom_4 rfl 1 rfl (?_))))
  refine z_nn (fun a3 ea3 => ?_)
  subst ea3
  refine z_iaload (pc := 5) dX1_goOnFrom_5 (z_istorel_n (pc := 6) (L' := fun x4 => [(0, vr (some a0)), (1, vi x1), (2, vi x4)]) dX1_goOnFrom_6 rfl (Nat.le_of_ble_eq_true rfl) (fun _ => rfl) (fun x4 => (z_iconst (pc := 7) dX1_goOnFrom_7 ic_0 (z_istore_n (pc := 8) (L' := [(0, vr (some a0)), (1, vi x1), (2, vi x4), (3, vi 0)]) dX1_goOnFrom_8 rfl (Nat.le_of_ble_eq_true rfl) rfl (?_)))))
  refine g_X1_goOnFrom_L9 F a0 x1 x4 F 0 h0
theorem dX1_ways_0 : decode cX1_ways 0 = .ok (.iconst 1, 1) := by decide +kernel
theorem dX1_ways_1 : decode cX1_ways 1 = .ok (.aload_n 0, 1) := by decide +kernel
theorem dX1_ways_2 : decode cX1_ways 2 = .ok (.getfield 21, 3) := by decide +kernel
theorem dX1_ways_5 : decode cX1_ways 5 = .ok (.ishl, 1) := by decide +kernel
theorem dX1_ways_6 : decode cX1_ways 6 = .ok (.iconst 1, 1) := by decide +kernel
theorem dX1_ways_7 : decode cX1_ways 7 = .ok (.isub, 1) := by decide +kernel
theorem dX1_ways_8 : decode cX1_ways 8 = .ok (.istore_n 1, 1) := by decide +kernel
theorem dX1_ways_9 : decode cX1_ways 9 = .ok (.aload_n 0, 1) := by decide +kernel
theorem dX1_ways_10 : decode cX1_ways 10 = .ok (.getfield 18, 3) := by decide +kernel
theorem dX1_ways_13 : decode cX1_ways 13 = .ok (.arraylength, 1) := by decide +kernel
theorem dX1_ways_14 : decode cX1_ways 14 = .ok (.iload_n 1, 1) := by decide +kernel
theorem dX1_ways_15 : decode cX1_ways 15 = .ok (.if_icmp .gt 12, 3) := by decide +kernel
theorem dX1_ways_18 : decode cX1_ways 18 = .ok (.aload_n 0, 1) := by decide +kernel
theorem dX1_ways_19 : decode cX1_ways 19 = .ok (.iload_n 1, 1) := by decide +kernel
theorem dX1_ways_20 : decode cX1_ways 20 = .ok (.iconst 1, 1) := by decide +kernel
theorem dX1_ways_21 : decode cX1_ways 21 = .ok (.iadd, 1) := by decide +kernel
theorem dX1_ways_22 : decode cX1_ways 22 = .ok (.newarray .int, 2) := by decide +kernel
theorem dX1_ways_24 : decode cX1_ways 24 = .ok (.putfield 18, 3) := by decide +kernel
theorem dX1_ways_27 : decode cX1_ways 27 = .ok (.iconst 0, 1) := by decide +kernel
theorem dX1_ways_28 : decode cX1_ways 28 = .ok (.istore_n 2, 1) := by decide +kernel
theorem dX1_ways_29 : decode cX1_ways 29 = .ok (.iload_n 2, 1) := by decide +kernel
theorem dX1_ways_30 : decode cX1_ways 30 = .ok (.iload_n 1, 1) := by decide +kernel
theorem dX1_ways_31 : decode cX1_ways 31 = .ok (.if_icmp .gt 16, 3) := by decide +kernel
theorem dX1_ways_34 : decode cX1_ways 34 = .ok (.aload_n 0, 1) := by decide +kernel
theorem dX1_ways_35 : decode cX1_ways 35 = .ok (.getfield 18, 3) := by decide +kernel
theorem dX1_ways_38 : decode cX1_ways 38 = .ok (.iload_n 2, 1) := by decide +kernel
theorem dX1_ways_39 : decode cX1_ways 39 = .ok (.iconst 0, 1) := by decide +kernel
theorem dX1_ways_40 : decode cX1_ways 40 = .ok (.iastore, 1) := by decide +kernel
theorem dX1_ways_41 : decode cX1_ways 41 = .ok (.iinc 2 1, 3) := by decide +kernel
theorem dX1_ways_44 : decode cX1_ways 44 = .ok (.goto (-15), 3) := by decide +kernel
theorem dX1_ways_47 : decode cX1_ways 47 = .ok (.aload_n 0, 1) := by decide +kernel
theorem dX1_ways_48 : decode cX1_ways 48 = .ok (.getfield 18, 3) := by decide +kernel
theorem dX1_ways_51 : decode cX1_ways 51 = .ok (.iconst 0, 1) := by decide +kernel
theorem dX1_ways_52 : decode cX1_ways 52 = .ok (.iconst 1, 1) := by decide +kernel
theorem dX1_ways_53 : decode cX1_ways 53 = .ok (.iastore, 1) := by decide +kernel
theorem dX1_ways_54 : decode cX1_ways 54 = .ok (.iconst 0, 1) := by decide +kernel
theorem dX1_ways_55 : decode cX1_ways 55 = .ok (.istore_n 2, 1) := by decide +kernel
theorem dX1_ways_56 : decode cX1_ways 56 = .ok (.iload_n 2, 1) := by decide +kernel
theorem dX1_ways_57 : decode cX1_ways 57 = .ok (.iload_n 1, 1) := by decide +kernel
theorem dX1_ways_58 : decode cX1_ways 58 = .ok (.if_icmp .ge 23, 3) := by decide +kernel
theorem dX1_ways_61 : decode cX1_ways 61 = .ok (.aload_n 0, 1) := by decide +kernel
theorem dX1_ways_62 : decode cX1_ways 62 = .ok (.getfield 18, 3) := by decide +kernel
theorem dX1_ways_65 : decode cX1_ways 65 = .ok (.iload_n 2, 1) := by decide +kernel
theorem dX1_ways_66 : decode cX1_ways 66 = .ok (.iaload, 1) := by decide +kernel
theorem dX1_ways_67 : decode cX1_ways 67 = .ok (.ifCond .eq 8, 3) := by decide +kernel
theorem dX1_ways_70 : decode cX1_ways 70 = .ok (.aload_n 0, 1) := by decide +kernel
theorem dX1_ways_71 : decode cX1_ways 71 = .ok (.iload_n 2, 1) := by decide +kernel
theorem dX1_ways_72 : decode cX1_ways 72 = .ok (.invokevirtual 45, 3) := by decide +kernel
theorem dX1_ways_75 : decode cX1_ways 75 = .ok (.iinc 2 1, 3) := by decide +kernel
theorem dX1_ways_78 : decode cX1_ways 78 = .ok (.goto (-22), 3) := by decide +kernel
theorem dX1_ways_81 : decode cX1_ways 81 = .ok (.aload_n 0, 1) := by decide +kernel
theorem dX1_ways_82 : decode cX1_ways 82 = .ok (.getfield 18, 3) := by decide +kernel
theorem dX1_ways_85 : decode cX1_ways 85 = .ok (.iload_n 1, 1) := by decide +kernel
theorem dX1_ways_86 : decode cX1_ways 86 = .ok (.iaload, 1) := by decide +kernel
theorem dX1_ways_87 : decode cX1_ways 87 = .ok (.ireturn, 1) := by decide +kernel
def c_X1_ways_L29 (F : Nat) (a6 : Nat) (x7 : Int32) (k47 : z_Hp → Option (Int32 × z_Hp)) : Nat → Int32 → z_Hp → Option (Int32 × z_Hp)
  | 0, _, _ => none
  | n + 1, x8, h9 => (if x7 < x8 then (k47 h9) else (if hT h9 a6 = 1 then (lt_ (hR h9 a6 2) (fun o11 => (nn o11 (fun a12 => (if okA h9 a12 20 x8 = true then (lt_ (sI h9 a12 (ix x8) 0) (fun h13 => (lt_ (x8 + 1) (fun x14 => (c_X1_ways_L29 F a6 x7 k47 n x14 h13))))) else none))))) else none))
def c_X1_ways_L56 (F : Nat) (a19 : Nat) (x20 : Int32) : Nat → Int32 → z_Hp → Option (Int32 × z_Hp)
  | 0, _, _ => none
  | n + 1, x21, h22 => (if x20 ≤ x21 then (if hT h22 a19 = 1 then (lt_ (hR h22 a19 2) (fun o23 => (nn o23 (fun a24 => (if okA h22 a24 20 x20 = true then (some (hI h22 a24 (ix x20), h22)) else none))))) else none) else (if hT h22 a19 = 1 then (lt_ (hR h22 a19 2) (fun o25 => (nn o25 (fun a26 => (if okA h22 a26 20 x21 = true then (lt_ (fun (h28 : z_Hp) => (lt_ (x21 + 1) (fun x29 => (c_X1_ways_L56 F a19 x20 n x29 h28)))) (fun (j75_27 : z_Hp → Option (Int32 × z_Hp)) => (if (hI h22 a26 (ix x21)) = 0 then (j75_27 h22) else (if hT h22 a19 = 1 then (bV (c_X1_goOnFrom F a19 x21 h22) (fun h30 => (j75_27 h30))) else none)))) else none))))) else none))
def c_X1_ways (F : Nat) (a0 : Nat) (h0 : z_Hp) : Option (Int32 × z_Hp) := (if hT h0 a0 = 1 then (lt_ ((1 <<< ((hI h0 a0 3) &&& 31)) - 1) (fun x1 => (if hT h0 a0 = 1 then (lt_ (hR h0 a0 2) (fun o2 => (nn o2 (fun a3 => (if okL h0 a3 = true then (lt_ (fun (h5 : z_Hp) => (c_X1_ways_L29 F a0 x1 (fun h15 => (if hT h15 a0 = 1 then (lt_ (hR h15 a0 2) (fun o16 => (nn o16 (fun a17 => (if okA h15 a17 20 0 = true then (lt_ (sI h15 a17 (ix 0) 1) (fun h18 => (c_X1_ways_L56 F a0 x1 F 0 h18))) else none))))) else none)) F 0 h5)) (fun (j27_4 : z_Hp → Option (Int32 × z_Hp)) => (if x1 < (nI (hN h0 a3)) then (j27_4 h0) else (if inb (x1 + 1) 100000 = true then (nwo h0 20 (ix (x1 + 1)) (fun a31 h32 => (if hT h32 a0 = 1 then (lt_ (sR h32 a0 2 (some a31)) (fun h33 => (j27_4 h33))) else none))) else none)))) else none))))) else none))) else none)
set_option maxRecDepth 20000 in
set_option maxHeartbeats 4000000 in
theorem g_X1_ways_L29 (F : Nat) (a6 : Nat) (x7 : Int32) (k47 : z_Hp → Option (Int32 × z_Hp)) (qk47 : ∀ (h10 : z_Hp), z_G zi mi_X1_ways 47 [(0, vr (some a6)), (1, vi x7)] [] h10 (k47 h10)) : ∀ (n : Nat) (x8 : Int32) (h9 : z_Hp), z_G zi mi_X1_ways 29 [(0, vr (some a6)), (1, vi x7), (2, vi x8)] [] h9 (c_X1_ways_L29 F a6 x7 k47 n x8 h9) := by
  intro n
  induction n with
  | zero => intro x8 h9; rw [c_X1_ways_L29]; exact z_none
  | succ n ih =>
    intro x8 h9
    rw [c_X1_ways_L29]
    refine z_iload_n (pc := 29) dX1_ways_29 rfl 2 rfl (z_iload_n (pc := 30) dX1_ways_30 rfl 1 rfl (?_))
    refine z_icmp_gt (pc := 31) (tgt := 47) dX1_ways_31 (by decide) ?_ ?_
    · exact z_sub [0, 1] rfl (qk47 h9)
    · refine z_aload_n (pc := 34) dX1_ways_34 rfl 0 rfl (z_getRl (pc := 35) fl_RX1_18 rfl dX1_ways_35 (fun o11 => (z_iload_n (pc := 38) dX1_ways_38 rfl 2 rfl (z_iconst (pc := 39) dX1_ways_39 ic_0 (?_)))))
      refine z_nn (fun a12 ea12 => ?_)
      subst ea12
      refine z_iastorel (pc := 40) dX1_ways_40 (fun h13 => (z_iincl (pc := 41) (L' := fun x14 => [(0, vr (some a6)), (1, vi x7), (2, vi x14)]) dX1_ways_41 2 rfl ic_1 (Nat.le_of_ble_eq_true rfl) (fun _ => rfl) (fun x14 => (z_goto (pc := 44) (tgt := 29) dX1_ways_44 (by decide) (?_)))))
      exact ih x14 h13
set_option maxRecDepth 20000 in
set_option maxHeartbeats 4000000 in
theorem g_X1_ways_L56 (F : Nat) (a19 : Nat) (x20 : Int32) : ∀ (n : Nat) (x21 : Int32) (h22 : z_Hp), z_G zi mi_X1_ways 56 [(0, vr (some a19)), (1, vi x20), (2, vi x21)] [] h22 (c_X1_ways_L56 F a19 x20 n x21 h22) := by
  intro n
  induction n with
  | zero => intro x21 h22; rw [c_X1_ways_L56]; exact z_none
  | succ n ih =>
    intro x21 h22
    rw [c_X1_ways_L56]
    refine z_iload_n (pc := 56) dX1_ways_56 rfl 2 rfl (z_iload_n (pc := 57) dX1_ways_57 rfl 1 rfl (?_))
    refine z_icmp_ge (pc := 58) (tgt := 81) dX1_ways_58 (by decide) ?_ ?_
    · refine z_aload_n (pc := 81) dX1_ways_81 rfl 0 rfl (z_getRl (pc := 82) fl_RX1_18 rfl dX1_ways_82 (fun o23 => (z_iload_n (pc := 85) dX1_ways_85 rfl 1 rfl (?_))))
      refine z_nn (fun a24 ea24 => ?_)
      subst ea24
      refine z_iaload (pc := 86) dX1_ways_86 (?_)
      exact z_iret (pc := 87) dX1_ways_87 rfl rfl
    · refine z_aload_n (pc := 61) dX1_ways_61 rfl 0 rfl (z_getRl (pc := 62) fl_RX1_18 rfl dX1_ways_62 (fun o25 => (z_iload_n (pc := 65) dX1_ways_65 rfl 2 rfl (?_))))
      refine z_nn (fun a26 ea26 => ?_)
      subst ea26
      refine z_iaload (pc := 66) dX1_ways_66 (?_)
      refine z_jn (P := fun (j : z_Hp → Option (Int32 × z_Hp)) => ∀ (h28 : z_Hp), z_G zi mi_X1_ways 75 [(0, vr (some a19)), (1, vi x20), (2, vi x21)] [] h28 (j h28)) (fun h28 => ?_) (fun j75_27 qj75_27 => ?_)
      · refine z_iincl (pc := 75) (L' := fun x29 => [(0, vr (some a19)), (1, vi x20), (2, vi x29)]) dX1_ways_75 2 rfl ic_1 (Nat.le_of_ble_eq_true rfl) (fun _ => rfl) (fun x29 => (z_goto (pc := 78) (tgt := 56) dX1_ways_78 (by decide) (?_)))
        exact ih x29 h28
      refine z_if_eq (pc := 67) (tgt := 75) dX1_ways_67 (by decide) ?_ ?_
      · exact qj75_27 h22
      · refine z_aload_n (pc := 70) dX1_ways_70 rfl 0 rfl (z_iload_n (pc := 71) dX1_ways_71 rfl 2 rfl (z_callV_V (pc := 72) (avs := [vi x21]) (st := []) rfl (q := (RX1, TX1, 4)) rfl rfl (t_X1_goOnFrom F a19 x21 h22) ky_X1_goOnFrom wm_X1_goOnFrom we_X1_goOnFrom wz_RX1_45 (rm_X1_ways_X1_goOnFrom) (Nat.le_of_ble_eq_true rfl) dX1_ways_72 (fun h30 => (?_))))
        exact qj75_27 h30
set_option maxRecDepth 20000 in
set_option maxHeartbeats 4000000 in
theorem t_X1_ways (F : Nat) (a0 : Nat) (h0 : z_Hp) : z_Ct zi mi_X1_ways [vr (some a0)] h0 (c_X1_ways F a0 h0) := by
  refine z_entry (by decide) (Nat.le_of_ble_eq_true rfl) [(0, vr (some a0))] rfl ?_
  unfold c_X1_ways
  refine z_iconst (pc := 0) dX1_ways_0 ic_1 (z_aload_n (pc := 1) dX1_ways_1 rfl 0 rfl (z_getI (pc := 2) fl_RX1_21 rfl dX1_ways_2 (z_ishl (pc := 5) dX1_ways_5 (z_iconst (pc := 6) dX1_ways_6 ic_1 (z_isub (pc := 7) dX1_ways_7 (z_istorel_n (pc := 8) (L' := fun x1 => [(0, vr (some a0)), (1, vi x1)]) dX1_ways_8 rfl (Nat.le_of_ble_eq_true rfl) (fun _ => rfl) (fun x1 => (z_aload_n (pc := 9) dX1_ways_9 rfl 0 rfl (?_)))))))))
  refine z_getRl (pc := 10) fl_RX1_18 rfl dX1_ways_10 (fun o2 => (?_))
  refine z_nn (fun a3 ea3 => ?_)
  subst ea3
  refine z_alen (pc := 13) dX1_ways_13 (z_iload_n (pc := 14) dX1_ways_14 rfl 1 rfl (?_))
  refine z_jn (P := fun (j : z_Hp → Option (Int32 × z_Hp)) => ∀ (h5 : z_Hp), z_G zi mi_X1_ways 27 [(0, vr (some a0)), (1, vi x1)] [] h5 (j h5)) (fun h5 => ?_) (fun j27_4 qj27_4 => ?_)
  · refine z_iconst (pc := 27) dX1_ways_27 ic_0 (z_istore_n (pc := 28) (L' := [(0, vr (some a0)), (1, vi x1), (2, vi 0)]) dX1_ways_28 rfl (Nat.le_of_ble_eq_true rfl) rfl (?_))
    refine g_X1_ways_L29 F a0 x1 _ (fun h15 => ?_) F 0 h5
    refine z_aload_n (pc := 47) dX1_ways_47 rfl 0 rfl (z_getRl (pc := 48) fl_RX1_18 rfl dX1_ways_48 (fun o16 => (z_iconst (pc := 51) dX1_ways_51 ic_0 (z_iconst (pc := 52) dX1_ways_52 ic_1 (?_)))))
    refine z_nn (fun a17 ea17 => ?_)
    subst ea17
    refine z_iastorel (pc := 53) dX1_ways_53 (fun h18 => (z_iconst (pc := 54) dX1_ways_54 ic_0 (z_istore_n (pc := 55) (L' := [(0, vr (some a0)), (1, vi x1), (2, vi 0)]) dX1_ways_55 rfl (Nat.le_of_ble_eq_true rfl) rfl (?_))))
    refine g_X1_ways_L56 F a0 x1 F 0 h18
  refine z_icmp_gt (pc := 15) (tgt := 27) dX1_ways_15 (by decide) ?_ ?_
  · exact qj27_4 h0
  · refine z_aload_n (pc := 18) dX1_ways_18 rfl 0 rfl (z_iload_n (pc := 19) dX1_ways_19 rfl 1 rfl (z_iconst (pc := 20) dX1_ways_20 ic_1 (z_iadd (pc := 21) dX1_ways_21 (z_newarrl (pc := 22) 20 (by decide) rfl wa_20 dX1_ways_22 (fun a31 h32 => (z_putRl (pc := 24) fl_RX1_18 (fin_X_1_2 _) rfl dX1_ways_24 (fun h33 => (?_))))))))
    exact qj27_4 h33
theorem dX2_init_0 : decode cX2_init 0 = .ok (.aload_n 0, 1) := by decide +kernel
theorem dX2_init_1 : decode cX2_init 1 = .ok (.invokespecial 3, 3) := by decide +kernel
theorem dX2_init_4 : decode cX2_init 4 = .ok (.aload_n 0, 1) := by decide +kernel
theorem dX2_init_5 : decode cX2_init 5 = .ok (.bipush 40, 2) := by decide +kernel
theorem dX2_init_7 : decode cX2_init 7 = .ok (.newarray .int, 2) := by decide +kernel
theorem dX2_init_9 : decode cX2_init 9 = .ok (.putfield 9, 3) := by decide +kernel
theorem dX2_init_12 : decode cX2_init 12 = .ok (.aload_n 0, 1) := by decide +kernel
theorem dX2_init_13 : decode cX2_init 13 = .ok (.bipush 40, 2) := by decide +kernel
theorem dX2_init_15 : decode cX2_init 15 = .ok (.newarray .int, 2) := by decide +kernel
theorem dX2_init_17 : decode cX2_init 17 = .ok (.putfield 15, 3) := by decide +kernel
theorem dX2_init_20 : decode cX2_init 20 = .ok (.aload_n 0, 1) := by decide +kernel
theorem dX2_init_21 : decode cX2_init 21 = .ok (.bipush 40, 2) := by decide +kernel
theorem dX2_init_23 : decode cX2_init 23 = .ok (.newarray .int, 2) := by decide +kernel
theorem dX2_init_25 : decode cX2_init 25 = .ok (.putfield 18, 3) := by decide +kernel
theorem dX2_init_28 : decode cX2_init 28 = .ok (.aload_n 0, 1) := by decide +kernel
theorem dX2_init_29 : decode cX2_init 29 = .ok (.bipush 40, 2) := by decide +kernel
theorem dX2_init_31 : decode cX2_init 31 = .ok (.newarray .int, 2) := by decide +kernel
theorem dX2_init_33 : decode cX2_init 33 = .ok (.putfield 21, 3) := by decide +kernel
theorem dX2_init_36 : decode cX2_init 36 = .ok (.return_, 1) := by decide +kernel
def c_X2_init (F : Nat) (a0 : Nat) (h0 : z_Hp) : Option (z_Hp) := (if inb 40 100000 = true then (nwo h0 20 (ix 40) (fun a1 h2 => (if hT h2 a0 = 2 then (lt_ (sR h2 a0 0 (some a1)) (fun h3 => (if inb 40 100000 = true then (nwo h3 20 (ix 40) (fun a4 h5 => (if hT h5 a0 = 2 then (lt_ (sR h5 a0 1 (some a4)) (fun h6 => (if inb 40 100000 = true then (nwo h6 20 (ix 40) (fun a7 h8 => (if hT h8 a0 = 2 then (lt_ (sR h8 a0 2 (some a7)) (fun h9 => (if inb 40 100000 = true then (nwo h9 20 (ix 40) (fun a10 h11 => (if hT h11 a0 = 2 then (lt_ (sR h11 a0 3 (some a10)) (fun h12 => (some h12))) else none))) else none))) else none))) else none))) else none))) else none))) else none))) else none)
set_option maxRecDepth 20000 in
set_option maxHeartbeats 4000000 in
theorem t_X2_init (F : Nat) (a0 : Nat) (h0 : z_Hp) : z_Ct zv mi_X2_init [vr (some a0)] h0 (c_X2_init F a0 h0) := by
  refine z_entry (by decide) (Nat.le_of_ble_eq_true rfl) [(0, vr (some a0))] rfl ?_
  unfold c_X2_init
  refine z_aload_n (pc := 0) dX2_init_0 rfl 0 rfl (z_objinit (pc := 1) wo_RX2_3 wo_im wo_cd (Nat.le_of_ble_eq_true rfl) (Nat.le_of_ble_eq_true rfl) (Nat.le_of_ble_eq_true rfl) dX2_init_1 (z_aload_n (pc := 4) dX2_init_4 rfl 0 rfl (z_bipush (pc := 5) dX2_init_5 bp_40 (z_newarrl (pc := 7) 20 (by decide) rfl wa_20 dX2_init_7 (fun a1 h2 => (z_putRl (pc := 9) fl_RX2_9 fin_X2_init_2_0 rfl dX2_init_9 (fun h3 => (z_aload_n (pc := 12) dX2_init_12 rfl 0 rfl (z_bipush (pc := 13) dX2_init_13 bp_40 (?_))))))))))
  refine z_newarrl (pc := 15) 20 (by decide) rfl wa_20 dX2_init_15 (fun a4 h5 => (z_putRl (pc := 17) fl_RX2_15 fin_X2_init_2_1 rfl dX2_init_17 (fun h6 => (z_aload_n (pc := 20) dX2_init_20 rfl 0 rfl (z_bipush (pc := 21) dX2_init_21 bp_40 (z_newarrl (pc := 23) 20 (by decide) rfl wa_20 dX2_init_23 (fun a7 h8 => (z_putRl (pc := 25) fl_RX2_18 fin_X2_init_2_2 rfl dX2_init_25 (fun h9 => (z_aload_n (pc := 28) dX2_init_28 rfl 0 rfl (z_bipush (pc := 29) dX2_init_29 bp_40 (?_))))))))))))
  refine z_newarrl (pc := 31) 20 (by decide) rfl wa_20 dX2_init_31 (fun a10 h11 => (z_putRl (pc := 33) fl_RX2_21 fin_X2_init_2_3 rfl dX2_init_33 (fun h12 => (?_))))
  exact z_vret (pc := 36) dX2_init_36 rfl
theorem dX2_add_0 : decode cX2_add 0 = .ok (.aload_n 0, 1) := by decide +kernel
theorem dX2_add_1 : decode cX2_add 1 = .ok (.getfield 9, 3) := by decide +kernel
theorem dX2_add_4 : decode cX2_add 4 = .ok (.aload_n 0, 1) := by decide +kernel
theorem dX2_add_5 : decode cX2_add 5 = .ok (.getfield 24, 3) := by decide +kernel
theorem dX2_add_8 : decode cX2_add 8 = .ok (.iload_n 1, 1) := by decide +kernel
theorem dX2_add_9 : decode cX2_add 9 = .ok (.iastore, 1) := by decide +kernel
theorem dX2_add_10 : decode cX2_add 10 = .ok (.aload_n 0, 1) := by decide +kernel
theorem dX2_add_11 : decode cX2_add 11 = .ok (.getfield 15, 3) := by decide +kernel
theorem dX2_add_14 : decode cX2_add 14 = .ok (.aload_n 0, 1) := by decide +kernel
theorem dX2_add_15 : decode cX2_add 15 = .ok (.getfield 24, 3) := by decide +kernel
theorem dX2_add_18 : decode cX2_add 18 = .ok (.iload_n 2, 1) := by decide +kernel
theorem dX2_add_19 : decode cX2_add 19 = .ok (.iastore, 1) := by decide +kernel
theorem dX2_add_20 : decode cX2_add 20 = .ok (.aload_n 0, 1) := by decide +kernel
theorem dX2_add_21 : decode cX2_add 21 = .ok (.getfield 18, 3) := by decide +kernel
theorem dX2_add_24 : decode cX2_add 24 = .ok (.aload_n 0, 1) := by decide +kernel
theorem dX2_add_25 : decode cX2_add 25 = .ok (.getfield 24, 3) := by decide +kernel
theorem dX2_add_28 : decode cX2_add 28 = .ok (.iload_n 3, 1) := by decide +kernel
theorem dX2_add_29 : decode cX2_add 29 = .ok (.iastore, 1) := by decide +kernel
theorem dX2_add_30 : decode cX2_add 30 = .ok (.aload_n 0, 1) := by decide +kernel
theorem dX2_add_31 : decode cX2_add 31 = .ok (.getfield 24, 3) := by decide +kernel
theorem dX2_add_34 : decode cX2_add 34 = .ok (.istore 4, 2) := by decide +kernel
theorem dX2_add_36 : decode cX2_add 36 = .ok (.iload 4, 2) := by decide +kernel
theorem dX2_add_38 : decode cX2_add 38 = .ok (.ifCond .le 43, 3) := by decide +kernel
theorem dX2_add_41 : decode cX2_add 41 = .ok (.aload_n 0, 1) := by decide +kernel
theorem dX2_add_42 : decode cX2_add 42 = .ok (.getfield 18, 3) := by decide +kernel
theorem dX2_add_45 : decode cX2_add 45 = .ok (.aload_n 0, 1) := by decide +kernel
theorem dX2_add_46 : decode cX2_add 46 = .ok (.getfield 21, 3) := by decide +kernel
theorem dX2_add_49 : decode cX2_add 49 = .ok (.iload 4, 2) := by decide +kernel
theorem dX2_add_51 : decode cX2_add 51 = .ok (.iconst 1, 1) := by decide +kernel
theorem dX2_add_52 : decode cX2_add 52 = .ok (.isub, 1) := by decide +kernel
theorem dX2_add_53 : decode cX2_add 53 = .ok (.iaload, 1) := by decide +kernel
theorem dX2_add_54 : decode cX2_add 54 = .ok (.iaload, 1) := by decide +kernel
theorem dX2_add_55 : decode cX2_add 55 = .ok (.iload_n 3, 1) := by decide +kernel
theorem dX2_add_56 : decode cX2_add 56 = .ok (.if_icmp .le 25, 3) := by decide +kernel
theorem dX2_add_59 : decode cX2_add 59 = .ok (.aload_n 0, 1) := by decide +kernel
theorem dX2_add_60 : decode cX2_add 60 = .ok (.getfield 21, 3) := by decide +kernel
theorem dX2_add_63 : decode cX2_add 63 = .ok (.iload 4, 2) := by decide +kernel
theorem dX2_add_65 : decode cX2_add 65 = .ok (.aload_n 0, 1) := by decide +kernel
theorem dX2_add_66 : decode cX2_add 66 = .ok (.getfield 21, 3) := by decide +kernel
theorem dX2_add_69 : decode cX2_add 69 = .ok (.iload 4, 2) := by decide +kernel
theorem dX2_add_71 : decode cX2_add 71 = .ok (.iconst 1, 1) := by decide +kernel
theorem dX2_add_72 : decode cX2_add 72 = .ok (.isub, 1) := by decide +kernel
theorem dX2_add_73 : decode cX2_add 73 = .ok (.iaload, 1) := by decide +kernel
theorem dX2_add_74 : decode cX2_add 74 = .ok (.iastore, 1) := by decide +kernel
theorem dX2_add_75 : decode cX2_add 75 = .ok (.iinc 4 (-1), 3) := by decide +kernel
theorem dX2_add_78 : decode cX2_add 78 = .ok (.goto (-42), 3) := by decide +kernel
theorem dX2_add_81 : decode cX2_add 81 = .ok (.aload_n 0, 1) := by decide +kernel
theorem dX2_add_82 : decode cX2_add 82 = .ok (.getfield 21, 3) := by decide +kernel
theorem dX2_add_85 : decode cX2_add 85 = .ok (.iload 4, 2) := by decide +kernel
theorem dX2_add_87 : decode cX2_add 87 = .ok (.aload_n 0, 1) := by decide +kernel
theorem dX2_add_88 : decode cX2_add 88 = .ok (.getfield 24, 3) := by decide +kernel
theorem dX2_add_91 : decode cX2_add 91 = .ok (.iastore, 1) := by decide +kernel
theorem dX2_add_92 : decode cX2_add 92 = .ok (.aload_n 0, 1) := by decide +kernel
theorem dX2_add_93 : decode cX2_add 93 = .ok (.dup, 1) := by decide +kernel
theorem dX2_add_94 : decode cX2_add 94 = .ok (.getfield 24, 3) := by decide +kernel
theorem dX2_add_97 : decode cX2_add 97 = .ok (.iconst 1, 1) := by decide +kernel
theorem dX2_add_98 : decode cX2_add 98 = .ok (.iadd, 1) := by decide +kernel
theorem dX2_add_99 : decode cX2_add 99 = .ok (.putfield 24, 3) := by decide +kernel
theorem dX2_add_102 : decode cX2_add 102 = .ok (.return_, 1) := by decide +kernel
def c_X2_add_L36 (F : Nat) (a14 : Nat) (x15 : Int32) (k81 : Int32 → z_Hp → Option (z_Hp)) : Nat → Int32 → z_Hp → Option (z_Hp)
  | 0, _, _ => none
  | n + 1, x16, h17 => (if x16 ≤ 0 then (k81 x16 h17) else (if hT h17 a14 = 2 then (lt_ (hR h17 a14 2) (fun o20 => (if hT h17 a14 = 2 then (lt_ (hR h17 a14 3) (fun o21 => (nn o21 (fun a22 => (if okA h17 a22 20 (x16 - 1) = true then (nn o20 (fun a23 => (if okA h17 a23 20 (hI h17 a22 (ix (x16 - 1))) = true then (if (hI h17 a23 (ix (hI h17 a22 (ix (x16 - 1))))) ≤ x15 then (k81 x16 h17) else (if hT h17 a14 = 2 then (lt_ (hR h17 a14 3) (fun o24 => (if hT h17 a14 = 2 then (lt_ (hR h17 a14 3) (fun o25 => (nn o25 (fun a26 => (if okA h17 a26 20 (x16 - 1) = true then (nn o24 (fun a27 => (if okA h17 a27 20 x16 = true then (lt_ (sI h17 a27 (ix x16) (hI h17 a26 (ix (x16 - 1)))) (fun h28 => (lt_ (x16 + (-1)) (fun x29 => (c_X2_add_L36 F a14 x15 k81 n x29 h28))))) else none))) else none))))) else none))) else none)) else none))) else none))))) else none))) else none))
def c_X2_add (F : Nat) (a0 : Nat) (x1 : Int32) (x2 : Int32) (x3 : Int32) (h0 : z_Hp) : Option (z_Hp) := (if hT h0 a0 = 2 then (lt_ (hR h0 a0 0) (fun o4 => (if hT h0 a0 = 2 then (nn o4 (fun a5 => (if okA h0 a5 20 (hI h0 a0 4) = true then (lt_ (sI h0 a5 (ix (hI h0 a0 4)) x1) (fun h6 => (if hT h6 a0 = 2 then (lt_ (hR h6 a0 1) (fun o7 => (if hT h6 a0 = 2 then (nn o7 (fun a8 => (if okA h6 a8 20 (hI h6 a0 4) = true then (lt_ (sI h6 a8 (ix (hI h6 a0 4)) x2) (fun h9 => (if hT h9 a0 = 2 then (lt_ (hR h9 a0 2) (fun o10 => (if hT h9 a0 = 2 then (nn o10 (fun a11 => (if okA h9 a11 20 (hI h9 a0 4) = true then (lt_ (sI h9 a11 (ix (hI h9 a0 4)) x3) (fun h12 => (if hT h12 a0 = 2 then (lt_ (hI h12 a0 4) (fun x13 => (c_X2_add_L36 F a0 x3 (fun x30 h31 => (if hT h31 a0 = 2 then (lt_ (hR h31 a0 3) (fun o32 => (if hT h31 a0 = 2 then (nn o32 (fun a33 => (if okA h31 a33 20 x30 = true then (lt_ (sI h31 a33 (ix x30) (hI h31 a0 4)) (fun h34 => (if hT h34 a0 = 2 then (if hT h34 a0 = 2 then (lt_ (sI h34 a0 4 ((hI h34 a0 4) + 1)) (fun h35 => (some h35))) else none) else none))) else none))) else none))) else none)) F x13 h12))) else none))) else none))) else none))) else none))) else none))) else none))) else none))) else none))) else none))) else none)
set_option maxRecDepth 20000 in
set_option maxHeartbeats 4000000 in
theorem g_X2_add_L36 (F : Nat) (a14 : Nat) (x15 : Int32) (k81 : Int32 → z_Hp → Option (z_Hp)) (qk81 : ∀ (x18 : Int32) (h19 : z_Hp), z_G zv mi_X2_add 81 [(0, vr (some a14)), (4, vi x18)] [] h19 (k81 x18 h19)) : ∀ (n : Nat) (x16 : Int32) (h17 : z_Hp), z_G zv mi_X2_add 36 [(0, vr (some a14)), (3, vi x15), (4, vi x16)] [] h17 (c_X2_add_L36 F a14 x15 k81 n x16 h17) := by
  intro n
  induction n with
  | zero => intro x16 h17; rw [c_X2_add_L36]; exact z_none
  | succ n ih =>
    intro x16 h17
    rw [c_X2_add_L36]
    refine z_iload (pc := 36) dX2_add_36 2 rfl (?_)
    refine z_if_le (pc := 38) (tgt := 81) dX2_add_38 (by decide) ?_ ?_
    · exact z_sub [0, 2] rfl (qk81 x16 h17)
    · refine z_aload_n (pc := 41) dX2_add_41 rfl 0 rfl (z_getRl (pc := 42) fl_RX2_18 rfl dX2_add_42 (fun o20 => (z_aload_n (pc := 45) dX2_add_45 rfl 0 rfl (z_getRl (pc := 46) fl_RX2_21 rfl dX2_add_46 (fun o21 => (z_iload (pc := 49) dX2_add_49 2 rfl (z_iconst (pc := 51) dX2_add_51 ic_1 (z_isub (pc := 52) dX2_add_52 (?_)))))))))
      refine z_nn (fun a22 ea22 => ?_)
      subst ea22
      refine z_iaload (pc := 53) dX2_add_53 (?_)
      refine z_nn (fun a23 ea23 => ?_)
      subst ea23
      refine z_iaload (pc := 54) dX2_add_54 (z_iload_n (pc := 55) dX2_add_55 rfl 1 rfl (?_))
      refine z_icmp_le (pc := 56) (tgt := 81) dX2_add_56 (by decide) ?_ ?_
      · exact z_sub [0, 2] rfl (qk81 x16 h17)
      · refine z_aload_n (pc := 59) dX2_add_59 rfl 0 rfl (z_getRl (pc := 60) fl_RX2_21 rfl dX2_add_60 (fun o24 => (z_iload (pc := 63) dX2_add_63 2 rfl (z_aload_n (pc := 65) dX2_add_65 rfl 0 rfl (z_getRl (pc := 66) fl_RX2_21 rfl dX2_add_66 (fun o25 => (z_iload (pc := 69) dX2_add_69 2 rfl (z_iconst (pc := 71) dX2_add_71 ic_1 (z_isub (pc := 72) dX2_add_72 (?_))))))))))
        refine z_nn (fun a26 ea26 => ?_)
        subst ea26
        refine z_iaload (pc := 73) dX2_add_73 (?_)
        refine z_nn (fun a27 ea27 => ?_)
        subst ea27
        refine z_iastorel (pc := 74) dX2_add_74 (fun h28 => (z_iincl (pc := 75) (L' := fun x29 => [(0, vr (some a14)), (3, vi x15), (4, vi x29)]) dX2_add_75 2 rfl ic_m1 (Nat.le_of_ble_eq_true rfl) (fun _ => rfl) (fun x29 => (z_goto (pc := 78) (tgt := 36) dX2_add_78 (by decide) (?_)))))
        exact ih x29 h28
set_option maxRecDepth 20000 in
set_option maxHeartbeats 4000000 in
theorem t_X2_add (F : Nat) (a0 : Nat) (x1 : Int32) (x2 : Int32) (x3 : Int32) (h0 : z_Hp) : z_Ct zv mi_X2_add [vr (some a0), vi x1, vi x2, vi x3] h0 (c_X2_add F a0 x1 x2 x3 h0) := by
  refine z_entry (by decide) (Nat.le_of_ble_eq_true rfl) [(0, vr (some a0)), (1, vi x1), (2, vi x2), (3, vi x3)] rfl ?_
  unfold c_X2_add
  refine z_aload_n (pc := 0) dX2_add_0 rfl 0 rfl (z_getRl (pc := 1) fl_RX2_9 rfl dX2_add_1 (fun o4 => (z_aload_n (pc := 4) dX2_add_4 rfl 0 rfl (z_getI (pc := 5) fl_RX2_24 rfl dX2_add_5 (z_iload_n (pc := 8) dX2_add_8 rfl 1 rfl (?_))))))
  refine z_nn (fun a5 ea5 => ?_)
  subst ea5
  refine z_iastorel (pc := 9) dX2_add_9 (fun h6 => (z_aload_n (pc := 10) dX2_add_10 rfl 0 rfl (z_getRl (pc := 11) fl_RX2_15 rfl dX2_add_11 (fun o7 => (z_aload_n (pc := 14) dX2_add_14 rfl 0 rfl (z_getI (pc := 15) fl_RX2_24 rfl dX2_add_15 (z_iload_n (pc := 18) dX2_add_18 rfl 2 rfl (?_))))))))
  refine z_nn (fun a8 ea8 => ?_)
  subst ea8
  refine z_iastorel (pc := 19) dX2_add_19 (fun h9 => (z_aload_n (pc := 20) dX2_add_20 rfl 0 rfl (z_getRl (pc := 21) fl_RX2_18 rfl dX2_add_21 (fun o10 => (z_aload_n (pc := 24) dX2_add_24 rfl 0 rfl (z_getI (pc := 25) fl_RX2_24 rfl dX2_add_25 (z_iload_n (pc := 28) dX2_add_28 rfl 3 rfl (?_))))))))
  refine z_nn (fun a11 ea11 => ?_)
  subst ea11
  refine z_iastorel (pc := 29) dX2_add_29 (fun h12 => (z_aload_n (pc := 30) dX2_add_30 rfl 0 rfl (z_getI (pc := 31) fl_RX2_24 rfl dX2_add_31 (z_istorel (pc := 34) (L' := fun x13 => [(0, vr (some a0)), (1, vi x1), (2, vi x2), (3, vi x3), (4, vi x13)]) dX2_add_34 (Nat.le_of_ble_eq_true rfl) (fun _ => rfl) (fun x13 => (?_))))))
  refine z_sub [0, 3, 4] rfl (g_X2_add_L36 F a0 x3 _ (fun x30 h31 => ?_) F x13 h12)
  refine z_aload_n (pc := 81) dX2_add_81 rfl 0 rfl (z_getRl (pc := 82) fl_RX2_21 rfl dX2_add_82 (fun o32 => (z_iload (pc := 85) dX2_add_85 1 rfl (z_aload_n (pc := 87) dX2_add_87 rfl 0 rfl (z_getI (pc := 88) fl_RX2_24 rfl dX2_add_88 (?_))))))
  refine z_nn (fun a33 ea33 => ?_)
  subst ea33
  refine z_iastorel (pc := 91) dX2_add_91 (fun h34 => (z_aload_n (pc := 92) dX2_add_92 rfl 0 rfl (z_dup (pc := 93) dX2_add_93 rfl (z_getI (pc := 94) fl_RX2_24 rfl dX2_add_94 (z_iconst (pc := 97) dX2_add_97 ic_1 (z_iadd (pc := 98) dX2_add_98 (z_putIl (pc := 99) fl_RX2_24 (fin_X_2_4 _) rfl dX2_add_99 (fun h35 => (?_)))))))))
  exact z_vret (pc := 102) dX2_add_102 rfl
theorem dX2_entriesOf_0 : decode cX2_entriesOf 0 = .ok (.iconst 0, 1) := by decide +kernel
theorem dX2_entriesOf_1 : decode cX2_entriesOf 1 = .ok (.istore_n 3, 1) := by decide +kernel
theorem dX2_entriesOf_2 : decode cX2_entriesOf 2 = .ok (.iconst 0, 1) := by decide +kernel
theorem dX2_entriesOf_3 : decode cX2_entriesOf 3 = .ok (.istore 4, 2) := by decide +kernel
theorem dX2_entriesOf_5 : decode cX2_entriesOf 5 = .ok (.iload 4, 2) := by decide +kernel
theorem dX2_entriesOf_7 : decode cX2_entriesOf 7 = .ok (.aload_n 0, 1) := by decide +kernel
theorem dX2_entriesOf_8 : decode cX2_entriesOf 8 = .ok (.getfield 24, 3) := by decide +kernel
theorem dX2_entriesOf_11 : decode cX2_entriesOf 11 = .ok (.if_icmp .ge 34, 3) := by decide +kernel
theorem dX2_entriesOf_14 : decode cX2_entriesOf 14 = .ok (.aload_n 0, 1) := by decide +kernel
theorem dX2_entriesOf_15 : decode cX2_entriesOf 15 = .ok (.getfield 9, 3) := by decide +kernel
theorem dX2_entriesOf_18 : decode cX2_entriesOf 18 = .ok (.iload 4, 2) := by decide +kernel
theorem dX2_entriesOf_20 : decode cX2_entriesOf 20 = .ok (.iaload, 1) := by decide +kernel
theorem dX2_entriesOf_21 : decode cX2_entriesOf 21 = .ok (.iload_n 1, 1) := by decide +kernel
theorem dX2_entriesOf_22 : decode cX2_entriesOf 22 = .ok (.if_icmp .ne 17, 3) := by decide +kernel
theorem dX2_entriesOf_25 : decode cX2_entriesOf 25 = .ok (.aload_n 0, 1) := by decide +kernel
theorem dX2_entriesOf_26 : decode cX2_entriesOf 26 = .ok (.getfield 15, 3) := by decide +kernel
theorem dX2_entriesOf_29 : decode cX2_entriesOf 29 = .ok (.iload 4, 2) := by decide +kernel
theorem dX2_entriesOf_31 : decode cX2_entriesOf 31 = .ok (.iaload, 1) := by decide +kernel
theorem dX2_entriesOf_32 : decode cX2_entriesOf 32 = .ok (.iload_n 2, 1) := by decide +kernel
theorem dX2_entriesOf_33 : decode cX2_entriesOf 33 = .ok (.if_icmp .ne 6, 3) := by decide +kernel
theorem dX2_entriesOf_36 : decode cX2_entriesOf 36 = .ok (.iinc 3 1, 3) := by decide +kernel
theorem dX2_entriesOf_39 : decode cX2_entriesOf 39 = .ok (.iinc 4 1, 3) := by decide +kernel
theorem dX2_entriesOf_42 : decode cX2_entriesOf 42 = .ok (.goto (-37), 3) := by decide +kernel
theorem dX2_entriesOf_45 : decode cX2_entriesOf 45 = .ok (.iload_n 3, 1) := by decide +kernel
theorem dX2_entriesOf_46 : decode cX2_entriesOf 46 = .ok (.ireturn, 1) := by decide +kernel
def c_X2_entriesOf_L5 (F : Nat) (a3 : Nat) (x4 : Int32) (x5 : Int32) : Nat → Int32 → Int32 → z_Hp → Option (Int32 × z_Hp)
  | 0, _, _, _ => none
  | n + 1, x6, x7, h8 => (if hT h8 a3 = 2 then (if (hI h8 a3 4) ≤ x7 then (some (x6, h8)) else (if hT h8 a3 = 2 then (lt_ (hR h8 a3 0) (fun o9 => (nn o9 (fun a10 => (if okA h8 a10 20 x7 = true then (lt_ (fun (x12 : Int32) (h13 : z_Hp) => (lt_ (x7 + 1) (fun x14 => (c_X2_entriesOf_L5 F a3 x4 x5 n x12 x14 h13)))) (fun (j39_11 : Int32 → z_Hp → Option (Int32 × z_Hp)) => (if (hI h8 a10 (ix x7)) = x4 then (if hT h8 a3 = 2 then (lt_ (hR h8 a3 1) (fun o15 => (nn o15 (fun a16 => (if okA h8 a16 20 x7 = true then (if (hI h8 a16 (ix x7)) = x5 then (lt_ (x6 + 1) (fun x17 => (j39_11 x17 h8))) else (j39_11 x6 h8)) else none))))) else none) else (j39_11 x6 h8)))) else none))))) else none)) else none)
def c_X2_entriesOf (F : Nat) (a0 : Nat) (x1 : Int32) (x2 : Int32) (h0 : z_Hp) : Option (Int32 × z_Hp) := (c_X2_entriesOf_L5 F a0 x1 x2 F 0 0 h0)
set_option maxRecDepth 20000 in
set_option maxHeartbeats 4000000 in
theorem g_X2_entriesOf_L5 (F : Nat) (a3 : Nat) (x4 : Int32) (x5 : Int32) : ∀ (n : Nat) (x6 : Int32) (x7 : Int32) (h8 : z_Hp), z_G zi mi_X2_entriesOf 5 [(0, vr (some a3)), (1, vi x4), (2, vi x5), (3, vi x6), (4, vi x7)] [] h8 (c_X2_entriesOf_L5 F a3 x4 x5 n x6 x7 h8) := by
  intro n
  induction n with
  | zero => intro x6 x7 h8; rw [c_X2_entriesOf_L5]; exact z_none
  | succ n ih =>
    intro x6 x7 h8
    rw [c_X2_entriesOf_L5]
    refine z_iload (pc := 5) dX2_entriesOf_5 4 rfl (z_aload_n (pc := 7) dX2_entriesOf_7 rfl 0 rfl (z_getI (pc := 8) fl_RX2_24 rfl dX2_entriesOf_8 (?_)))
    refine z_icmp_ge (pc := 11) (tgt := 45) dX2_entriesOf_11 (by decide) ?_ ?_
    · refine z_iload_n (pc := 45) dX2_entriesOf_45 rfl 3 rfl (?_)
      exact z_iret (pc := 46) dX2_entriesOf_46 rfl rfl
    · refine z_aload_n (pc := 14) dX2_entriesOf_14 rfl 0 rfl (z_getRl (pc := 15) fl_RX2_9 rfl dX2_entriesOf_15 (fun o9 => (z_iload (pc := 18) dX2_entriesOf_18 4 rfl (?_))))
      refine z_nn (fun a10 ea10 => ?_)
      subst ea10
      refine z_iaload (pc := 20) dX2_entriesOf_20 (z_iload_n (pc := 21) dX2_entriesOf_21 rfl 1 rfl (?_))
      refine z_jn (P := fun (j : Int32 → z_Hp → Option (Int32 × z_Hp)) => ∀ (x12 : Int32) (h13 : z_Hp), z_G zi mi_X2_entriesOf 39 [(0, vr (some a3)), (1, vi x4), (2, vi x5), (3, vi x12), (4, vi x7)] [] h13 (j x12 h13)) (fun x12 h13 => ?_) (fun j39_11 qj39_11 => ?_)
      · refine z_iincl (pc := 39) (L' := fun x14 => [(0, vr (some a3)), (1, vi x4), (2, vi x5), (3, vi x12), (4, vi x14)]) dX2_entriesOf_39 4 rfl ic_1 (Nat.le_of_ble_eq_true rfl) (fun _ => rfl) (fun x14 => (z_goto (pc := 42) (tgt := 5) dX2_entriesOf_42 (by decide) (?_)))
        exact ih x12 x14 h13
      refine z_icmp_ne (pc := 22) (tgt := 39) dX2_entriesOf_22 (by decide) ?_ ?_
      · exact qj39_11 x6 h8
      · refine z_aload_n (pc := 25) dX2_entriesOf_25 rfl 0 rfl (z_getRl (pc := 26) fl_RX2_15 rfl dX2_entriesOf_26 (fun o15 => (z_iload (pc := 29) dX2_entriesOf_29 4 rfl (?_))))
        refine z_nn (fun a16 ea16 => ?_)
        subst ea16
        refine z_iaload (pc := 31) dX2_entriesOf_31 (z_iload_n (pc := 32) dX2_entriesOf_32 rfl 2 rfl (?_))
        refine z_icmp_ne (pc := 33) (tgt := 39) dX2_entriesOf_33 (by decide) ?_ ?_
        · exact qj39_11 x6 h8
        · refine z_iincl (pc := 36) (L' := fun x17 => [(0, vr (some a3)), (1, vi x4), (2, vi x5), (3, vi x17), (4, vi x7)]) dX2_entriesOf_36 3 rfl ic_1 (Nat.le_of_ble_eq_true rfl) (fun _ => rfl) (fun x17 => (?_))
          exact qj39_11 x17 h8
set_option maxRecDepth 20000 in
set_option maxHeartbeats 4000000 in
theorem t_X2_entriesOf (F : Nat) (a0 : Nat) (x1 : Int32) (x2 : Int32) (h0 : z_Hp) : z_Ct zi mi_X2_entriesOf [vr (some a0), vi x1, vi x2] h0 (c_X2_entriesOf F a0 x1 x2 h0) := by
  refine z_entry (by decide) (Nat.le_of_ble_eq_true rfl) [(0, vr (some a0)), (1, vi x1), (2, vi x2)] rfl ?_
  unfold c_X2_entriesOf
  refine z_iconst (pc := 0) dX2_entriesOf_0 ic_0 (z_istore_n (pc := 1) (L' := [(0, vr (some a0)), (1, vi x1), (2, vi x2), (3, vi 0)]) dX2_entriesOf_1 rfl (Nat.le_of_ble_eq_true rfl) rfl (z_iconst (pc := 2) dX2_entriesOf_2 ic_0 (z_istore (pc := 3) (L' := [(0, vr (some a0)), (1, vi x1), (2, vi x2), (3, vi 0), (4, vi 0)]) dX2_entriesOf_3 (Nat.le_of_ble_eq_true rfl) rfl (?_))))
  refine g_X2_entriesOf_L5 F a0 x1 x2 F 0 0 h0
theorem dX2_holder_0 : decode cX2_holder 0 = .ok (.bipush (-9), 2) := by decide +kernel
theorem dX2_holder_2 : decode cX2_holder 2 = .ok (.istore 4, 2) := by decide +kernel
theorem dX2_holder_4 : decode cX2_holder 4 = .ok (.sipush 1500, 3) := by decide +kernel
theorem dX2_holder_7 : decode cX2_holder 7 = .ok (.istore 5, 2) := by decide +kernel
theorem dX2_holder_9 : decode cX2_holder 9 = .ok (.iconst 0, 1) := by decide +kernel
theorem dX2_holder_10 : decode cX2_holder 10 = .ok (.istore 6, 2) := by decide +kernel
theorem dX2_holder_12 : decode cX2_holder 12 = .ok (.iload 6, 2) := by decide +kernel
theorem dX2_holder_14 : decode cX2_holder 14 = .ok (.aload_n 0, 1) := by decide +kernel
theorem dX2_holder_15 : decode cX2_holder 15 = .ok (.getfield 24, 3) := by decide +kernel
theorem dX2_holder_18 : decode cX2_holder 18 = .ok (.if_icmp .ge 90, 3) := by decide +kernel
theorem dX2_holder_21 : decode cX2_holder 21 = .ok (.aload_n 0, 1) := by decide +kernel
theorem dX2_holder_22 : decode cX2_holder 22 = .ok (.getfield 21, 3) := by decide +kernel
theorem dX2_holder_25 : decode cX2_holder 25 = .ok (.iload 6, 2) := by decide +kernel
theorem dX2_holder_27 : decode cX2_holder 27 = .ok (.iaload, 1) := by decide +kernel
theorem dX2_holder_28 : decode cX2_holder 28 = .ok (.istore 7, 2) := by decide +kernel
theorem dX2_holder_30 : decode cX2_holder 30 = .ok (.aload_n 0, 1) := by decide +kernel
theorem dX2_holder_31 : decode cX2_holder 31 = .ok (.getfield 9, 3) := by decide +kernel
theorem dX2_holder_34 : decode cX2_holder 34 = .ok (.iload 7, 2) := by decide +kernel
theorem dX2_holder_36 : decode cX2_holder 36 = .ok (.iaload, 1) := by decide +kernel
theorem dX2_holder_37 : decode cX2_holder 37 = .ok (.iload_n 1, 1) := by decide +kernel
theorem dX2_holder_38 : decode cX2_holder 38 = .ok (.if_icmp .ne 64, 3) := by decide +kernel
theorem dX2_holder_41 : decode cX2_holder 41 = .ok (.aload_n 0, 1) := by decide +kernel
theorem dX2_holder_42 : decode cX2_holder 42 = .ok (.getfield 18, 3) := by decide +kernel
theorem dX2_holder_45 : decode cX2_holder 45 = .ok (.iload 7, 2) := by decide +kernel
theorem dX2_holder_47 : decode cX2_holder 47 = .ok (.iaload, 1) := by decide +kernel
theorem dX2_holder_48 : decode cX2_holder 48 = .ok (.iload_n 2, 1) := by decide +kernel
theorem dX2_holder_49 : decode cX2_holder 49 = .ok (.if_icmp .le 6, 3) := by decide +kernel
theorem dX2_holder_52 : decode cX2_holder 52 = .ok (.goto 50, 3) := by decide +kernel
theorem dX2_holder_55 : decode cX2_holder 55 = .ok (.aload_n 0, 1) := by decide +kernel
theorem dX2_holder_56 : decode cX2_holder 56 = .ok (.getfield 18, 3) := by decide +kernel
theorem dX2_holder_59 : decode cX2_holder 59 = .ok (.iload 7, 2) := by decide +kernel
theorem dX2_holder_61 : decode cX2_holder 61 = .ok (.iaload, 1) := by decide +kernel
theorem dX2_holder_62 : decode cX2_holder 62 = .ok (.iload 5, 2) := by decide +kernel
theorem dX2_holder_64 : decode cX2_holder 64 = .ok (.if_icmp .ge 18, 3) := by decide +kernel
theorem dX2_holder_67 : decode cX2_holder 67 = .ok (.aload_n 0, 1) := by decide +kernel
theorem dX2_holder_68 : decode cX2_holder 68 = .ok (.getfield 15, 3) := by decide +kernel
theorem dX2_holder_71 : decode cX2_holder 71 = .ok (.iload 7, 2) := by decide +kernel
theorem dX2_holder_73 : decode cX2_holder 73 = .ok (.iaload, 1) := by decide +kernel
theorem dX2_holder_74 : decode cX2_holder 74 = .ok (.iload 4, 2) := by decide +kernel
theorem dX2_holder_76 : decode cX2_holder 76 = .ok (.if_icmp .eq 6, 3) := by decide +kernel
theorem dX2_holder_79 : decode cX2_holder 79 = .ok (.goto 23, 3) := by decide +kernel
theorem dX2_holder_82 : decode cX2_holder 82 = .ok (.aload_n 0, 1) := by decide +kernel
theorem dX2_holder_83 : decode cX2_holder 83 = .ok (.getfield 15, 3) := by decide +kernel
theorem dX2_holder_86 : decode cX2_holder 86 = .ok (.iload 7, 2) := by decide +kernel
theorem dX2_holder_88 : decode cX2_holder 88 = .ok (.iaload, 1) := by decide +kernel
theorem dX2_holder_89 : decode cX2_holder 89 = .ok (.istore 4, 2) := by decide +kernel
theorem dX2_holder_91 : decode cX2_holder 91 = .ok (.aload_n 0, 1) := by decide +kernel
theorem dX2_holder_92 : decode cX2_holder 92 = .ok (.getfield 18, 3) := by decide +kernel
theorem dX2_holder_95 : decode cX2_holder 95 = .ok (.iload 7, 2) := by decide +kernel
theorem dX2_holder_97 : decode cX2_holder 97 = .ok (.iaload, 1) := by decide +kernel
theorem dX2_holder_98 : decode cX2_holder 98 = .ok (.iload_n 3, 1) := by decide +kernel
theorem dX2_holder_99 : decode cX2_holder 99 = .ok (.iadd, 1) := by decide +kernel
theorem dX2_holder_100 : decode cX2_holder 100 = .ok (.istore 5, 2) := by decide +kernel
theorem dX2_holder_102 : decode cX2_holder 102 = .ok (.iinc 6 1, 3) := by decide +kernel
theorem dX2_holder_105 : decode cX2_holder 105 = .ok (.goto (-93), 3) := by decide +kernel
theorem dX2_holder_108 : decode cX2_holder 108 = .ok (.iload_n 2, 1) := by decide +kernel
theorem dX2_holder_109 : decode cX2_holder 109 = .ok (.iload 5, 2) := by decide +kernel
theorem dX2_holder_111 : decode cX2_holder 111 = .ok (.if_icmp .ge 8, 3) := by decide +kernel
theorem dX2_holder_114 : decode cX2_holder 114 = .ok (.iload 4, 2) := by decide +kernel
theorem dX2_holder_116 : decode cX2_holder 116 = .ok (.goto 5, 3) := by decide +kernel
theorem dX2_holder_119 : decode cX2_holder 119 = .ok (.bipush (-9), 2) := by decide +kernel
theorem dX2_holder_121 : decode cX2_holder 121 = .ok (.ireturn, 1) := by decide +kernel
def c_X2_holder_L12 (F : Nat) (a4 : Nat) (x5 : Int32) (x6 : Int32) (x7 : Int32) (k108 : Int32 → Int32 → z_Hp → Option (Int32 × z_Hp)) : Nat → Int32 → Int32 → Int32 → z_Hp → Option (Int32 × z_Hp)
  | 0, _, _, _, _ => none
  | n + 1, x8, x9, x10, h11 => (if hT h11 a4 = 2 then (if (hI h11 a4 4) ≤ x10 then (k108 x8 x9 h11) else (if hT h11 a4 = 2 then (lt_ (hR h11 a4 3) (fun o15 => (nn o15 (fun a16 => (if okA h11 a16 20 x10 = true then (lt_ (hI h11 a16 (ix x10)) (fun x17 => (if hT h11 a4 = 2 then (lt_ (hR h11 a4 0) (fun o18 => (nn o18 (fun a19 => (if okA h11 a19 20 x17 = true then (lt_ (fun (x21 : Int32) (x22 : Int32) (h23 : z_Hp) => (lt_ (x10 + 1) (fun x24 => (c_X2_holder_L12 F a4 x5 x6 x7 k108 n x21 x22 x24 h23)))) (fun (j102_20 : Int32 → Int32 → z_Hp → Option (Int32 × z_Hp)) => (if (hI h11 a19 (ix x17)) = x5 then (if hT h11 a4 = 2 then (lt_ (hR h11 a4 2) (fun o25 => (nn o25 (fun a26 => (if okA h11 a26 20 x17 = true then (if (hI h11 a26 (ix x17)) ≤ x6 then (if hT h11 a4 = 2 then (lt_ (hR h11 a4 2) (fun o27 => (nn o27 (fun a28 => (if okA h11 a28 20 x17 = true then (lt_ (fun (h30 : z_Hp) => (if hT h30 a4 = 2 then (lt_ (hR h30 a4 1) (fun o31 => (nn o31 (fun a32 => (if okA h30 a32 20 x17 = true then (lt_ (hI h30 a32 (ix x17)) (fun x33 => (if hT h30 a4 = 2 then (lt_ (hR h30 a4 2) (fun o34 => (nn o34 (fun a35 => (if okA h30 a35 20 x17 = true then (lt_ ((hI h30 a35 (ix x17)) + x7) (fun x36 => (j102_20 x33 x36 h30))) else none))))) else none))) else none))))) else none)) (fun (j82_29 : z_Hp → Option (Int32 × z_Hp)) => (if x9 ≤ (hI h11 a28 (ix x17)) then (j82_29 h11) else (if hT h11 a4 = 2 then (lt_ (hR h11 a4 1) (fun o37 => (nn o37 (fun a38 => (if okA h11 a38 20 x17 = true then (if (hI h11 a38 (ix x17)) = x8 then (j82_29 h11) else (j102_20 x8 x9 h11)) else none))))) else none)))) else none))))) else none) else (j102_20 x8 x9 h11)) else none))))) else none) else (j102_20 x8 x9 h11)))) else none))))) else none))) else none))))) else none)) else none)
def c_X2_holder (F : Nat) (a0 : Nat) (x1 : Int32) (x2 : Int32) (x3 : Int32) (h0 : z_Hp) : Option (Int32 × z_Hp) := (c_X2_holder_L12 F a0 x1 x2 x3 (fun x39 x40 h41 => (if x40 ≤ x2 then (some ((-9), h41)) else (some (x39, h41)))) F (-9) 1500 0 h0)
set_option maxRecDepth 20000 in
set_option maxHeartbeats 4000000 in
theorem g_X2_holder_L12 (F : Nat) (a4 : Nat) (x5 : Int32) (x6 : Int32) (x7 : Int32) (k108 : Int32 → Int32 → z_Hp → Option (Int32 × z_Hp)) (qk108 : ∀ (x12 : Int32) (x13 : Int32) (h14 : z_Hp), z_G zi mi_X2_holder 108 [(2, vi x6), (4, vi x12), (5, vi x13)] [] h14 (k108 x12 x13 h14)) : ∀ (n : Nat) (x8 : Int32) (x9 : Int32) (x10 : Int32) (h11 : z_Hp), z_G zi mi_X2_holder 12 [(0, vr (some a4)), (1, vi x5), (2, vi x6), (3, vi x7), (4, vi x8), (5, vi x9), (6, vi x10)] [] h11 (c_X2_holder_L12 F a4 x5 x6 x7 k108 n x8 x9 x10 h11) := by
  intro n
  induction n with
  | zero => intro x8 x9 x10 h11; rw [c_X2_holder_L12]; exact z_none
  | succ n ih =>
    intro x8 x9 x10 h11
    rw [c_X2_holder_L12]
    refine z_iload (pc := 12) dX2_holder_12 6 rfl (z_aload_n (pc := 14) dX2_holder_14 rfl 0 rfl (z_getI (pc := 15) fl_RX2_24 rfl dX2_holder_15 (?_)))
    refine z_icmp_ge (pc := 18) (tgt := 108) dX2_holder_18 (by decide) ?_ ?_
    · exact z_sub [2, 4, 5] rfl (qk108 x8 x9 h11)
    · refine z_aload_n (pc := 21) dX2_holder_21 rfl 0 rfl (z_getRl (pc := 22) fl_RX2_21 rfl dX2_holder_22 (fun o15 => (z_iload (pc := 25) dX2_holder_25 6 rfl (?_))))
      refine z_nn (fun a16 ea16 => ?_)
      subst ea16
      refine z_iaload (pc := 27) dX2_holder_27 (z_istorel (pc := 28) (L' := fun x17 => [(0, vr (some a4)), (1, vi x5), (2, vi x6), (3, vi x7), (4, vi x8), (5, vi x9), (6, vi x10), (7, vi x17)]) dX2_holder_28 (Nat.le_of_ble_eq_true rfl) (fun _ => rfl) (fun x17 => (z_aload_n (pc := 30) dX2_holder_30 rfl 0 rfl (z_getRl (pc := 31) fl_RX2_9 rfl dX2_holder_31 (fun o18 => (z_iload (pc := 34) dX2_holder_34 7 rfl (?_)))))))
      refine z_nn (fun a19 ea19 => ?_)
      subst ea19
      refine z_iaload (pc := 36) dX2_holder_36 (z_iload_n (pc := 37) dX2_holder_37 rfl 1 rfl (?_))
      refine z_jn (P := fun (j : Int32 → Int32 → z_Hp → Option (Int32 × z_Hp)) => ∀ (x21 : Int32) (x22 : Int32) (h23 : z_Hp), z_G zi mi_X2_holder 102 [(0, vr (some a4)), (1, vi x5), (2, vi x6), (3, vi x7), (4, vi x21), (5, vi x22), (6, vi x10)] [] h23 (j x21 x22 h23)) (fun x21 x22 h23 => ?_) (fun j102_20 qj102_20 => ?_)
      · refine z_iincl (pc := 102) (L' := fun x24 => [(0, vr (some a4)), (1, vi x5), (2, vi x6), (3, vi x7), (4, vi x21), (5, vi x22), (6, vi x24)]) dX2_holder_102 6 rfl ic_1 (Nat.le_of_ble_eq_true rfl) (fun _ => rfl) (fun x24 => (z_goto (pc := 105) (tgt := 12) dX2_holder_105 (by decide) (?_)))
        exact ih x21 x22 x24 h23
      refine z_icmp_ne (pc := 38) (tgt := 102) dX2_holder_38 (by decide) ?_ ?_
      · exact z_sub [0, 1, 2, 3, 4, 5, 6] rfl (qj102_20 x8 x9 h11)
      · refine z_aload_n (pc := 41) dX2_holder_41 rfl 0 rfl (z_getRl (pc := 42) fl_RX2_18 rfl dX2_holder_42 (fun o25 => (z_iload (pc := 45) dX2_holder_45 7 rfl (?_))))
        refine z_nn (fun a26 ea26 => ?_)
        subst ea26
        refine z_iaload (pc := 47) dX2_holder_47 (z_iload_n (pc := 48) dX2_holder_48 rfl 2 rfl (?_))
        refine z_icmp_le (pc := 49) (tgt := 55) dX2_holder_49 (by decide) ?_ ?_
        · refine z_aload_n (pc := 55) dX2_holder_55 rfl 0 rfl (z_getRl (pc := 56) fl_RX2_18 rfl dX2_holder_56 (fun o27 => (z_iload (pc := 59) dX2_holder_59 7 rfl (?_))))
          refine z_nn (fun a28 ea28 => ?_)
          subst ea28
          refine z_iaload (pc := 61) dX2_holder_61 (z_iload (pc := 62) dX2_holder_62 5 rfl (?_))
          refine z_jn (P := fun (j : z_Hp → Option (Int32 × z_Hp)) => ∀ (h30 : z_Hp), z_G zi mi_X2_holder 82 [(0, vr (some a4)), (1, vi x5), (2, vi x6), (3, vi x7), (6, vi x10), (7, vi x17)] [] h30 (j h30)) (fun h30 => ?_) (fun j82_29 qj82_29 => ?_)
          · refine z_aload_n (pc := 82) dX2_holder_82 rfl 0 rfl (z_getRl (pc := 83) fl_RX2_15 rfl dX2_holder_83 (fun o31 => (z_iload (pc := 86) dX2_holder_86 5 rfl (?_))))
            refine z_nn (fun a32 ea32 => ?_)
            subst ea32
            refine z_iaload (pc := 88) dX2_holder_88 (z_istorel (pc := 89) (L' := fun x33 => [(0, vr (some a4)), (1, vi x5), (2, vi x6), (3, vi x7), (4, vi x33), (6, vi x10), (7, vi x17)]) dX2_holder_89 (Nat.le_of_ble_eq_true rfl) (fun _ => rfl) (fun x33 => (z_aload_n (pc := 91) dX2_holder_91 rfl 0 rfl (z_getRl (pc := 92) fl_RX2_18 rfl dX2_holder_92 (fun o34 => (z_iload (pc := 95) dX2_holder_95 6 rfl (?_)))))))
            refine z_nn (fun a35 ea35 => ?_)
            subst ea35
            refine z_iaload (pc := 97) dX2_holder_97 (z_iload_n (pc := 98) dX2_holder_98 rfl 3 rfl (z_iadd (pc := 99) dX2_holder_99 (z_istorel (pc := 100) (L' := fun x36 => [(0, vr (some a4)), (1, vi x5), (2, vi x6), (3, vi x7), (4, vi x33), (5, vi x36), (6, vi x10), (7, vi x17)]) dX2_holder_100 (Nat.le_of_ble_eq_true rfl) (fun _ => rfl) (fun x36 => (?_)))))
            exact z_sub [0, 1, 2, 3, 4, 5, 6] rfl (qj102_20 x33 x36 h30)
          refine z_icmp_ge (pc := 64) (tgt := 82) dX2_holder_64 (by decide) ?_ ?_
          · exact z_sub [0, 1, 2, 3, 6, 7] rfl (qj82_29 h11)
          · refine z_aload_n (pc := 67) dX2_holder_67 rfl 0 rfl (z_getRl (pc := 68) fl_RX2_15 rfl dX2_holder_68 (fun o37 => (z_iload (pc := 71) dX2_holder_71 7 rfl (?_))))
            refine z_nn (fun a38 ea38 => ?_)
            subst ea38
            refine z_iaload (pc := 73) dX2_holder_73 (z_iload (pc := 74) dX2_holder_74 4 rfl (?_))
            refine z_icmp_eq (pc := 76) (tgt := 82) dX2_holder_76 (by decide) ?_ ?_
            · exact z_sub [0, 1, 2, 3, 6, 7] rfl (qj82_29 h11)
            · refine z_goto (pc := 79) (tgt := 102) dX2_holder_79 (by decide) (?_)
              exact z_sub [0, 1, 2, 3, 4, 5, 6] rfl (qj102_20 x8 x9 h11)
        · refine z_goto (pc := 52) (tgt := 102) dX2_holder_52 (by decide) (?_)
          exact z_sub [0, 1, 2, 3, 4, 5, 6] rfl (qj102_20 x8 x9 h11)
set_option maxRecDepth 20000 in
set_option maxHeartbeats 4000000 in
theorem t_X2_holder (F : Nat) (a0 : Nat) (x1 : Int32) (x2 : Int32) (x3 : Int32) (h0 : z_Hp) : z_Ct zi mi_X2_holder [vr (some a0), vi x1, vi x2, vi x3] h0 (c_X2_holder F a0 x1 x2 x3 h0) := by
  refine z_entry (by decide) (Nat.le_of_ble_eq_true rfl) [(0, vr (some a0)), (1, vi x1), (2, vi x2), (3, vi x3)] rfl ?_
  unfold c_X2_holder
  refine z_bipush (pc := 0) dX2_holder_0 bp_m9 (z_istore (pc := 2) (L' := [(0, vr (some a0)), (1, vi x1), (2, vi x2), (3, vi x3), (4, vi (-9))]) dX2_holder_2 (Nat.le_of_ble_eq_true rfl) rfl (z_sipush (pc := 4) dX2_holder_4 sp_1500 (z_istore (pc := 7) (L' := [(0, vr (some a0)), (1, vi x1), (2, vi x2), (3, vi x3), (4, vi (-9)), (5, vi 1500)]) dX2_holder_7 (Nat.le_of_ble_eq_true rfl) rfl (z_iconst (pc := 9) dX2_holder_9 ic_0 (z_istore (pc := 10) (L' := [(0, vr (some a0)), (1, vi x1), (2, vi x2), (3, vi x3), (4, vi (-9)), (5, vi 1500), (6, vi 0)]) dX2_holder_10 (Nat.le_of_ble_eq_true rfl) rfl (?_))))))
  refine g_X2_holder_L12 F a0 x1 x2 x3 _ (fun x39 x40 h41 => ?_) F (-9) 1500 0 h0
  refine z_iload_n (pc := 108) dX2_holder_108 rfl 0 rfl (z_iload (pc := 109) dX2_holder_109 2 rfl (?_))
  refine z_icmp_ge (pc := 111) (tgt := 119) dX2_holder_111 (by decide) ?_ ?_
  · refine z_bipush (pc := 119) dX2_holder_119 bp_m9 (?_)
    exact z_iret (pc := 121) dX2_holder_121 rfl rfl
  · refine z_iload (pc := 114) dX2_holder_114 1 rfl (z_goto (pc := 116) (tgt := 121) dX2_holder_116 (by decide) (?_))
    exact z_iret (pc := 121) dX2_holder_121 rfl rfl
theorem dX9_mix_0 : decode cX9_mix 0 = .ok (.ldc2_w 458, 3) := by decide +kernel
theorem dX9_mix_3 : decode cX9_mix 3 = .ok (.lload_n 0, 1) := by decide +kernel
theorem dX9_mix_4 : decode cX9_mix 4 = .ok (.lmul, 1) := by decide +kernel
theorem dX9_mix_5 : decode cX9_mix 5 = .ok (.iload_n 2, 1) := by decide +kernel
theorem dX9_mix_6 : decode cX9_mix 6 = .ok (.i2l, 1) := by decide +kernel
theorem dX9_mix_7 : decode cX9_mix 7 = .ok (.ladd, 1) := by decide +kernel
theorem dX9_mix_8 : decode cX9_mix 8 = .ok (.lreturn, 1) := by decide +kernel
def c_X9_mix (F : Nat) (y1 : Int64) (x2 : Int32) (h0 : z_Hp) : Option (Int64 × z_Hp) := (some ((31 * y1) + ((x2 : Int32).toInt64), h0))
set_option maxRecDepth 20000 in
set_option maxHeartbeats 4000000 in
theorem t_X9_mix (F : Nat) (y1 : Int64) (x2 : Int32) (h0 : z_Hp) : z_Ct zl mi_X9_mix [vl y1, vi x2] h0 (c_X9_mix F y1 x2 h0) := by
  refine z_entry (by decide) (Nat.le_of_ble_eq_true rfl) [(0, vl y1), (2, vi x2)] rfl ?_
  unfold c_X9_mix
  refine z_ldc2 (pc := 0) dX9_mix_0 wj_RX9_458 (z_lload_n (pc := 3) dX9_mix_3 rfl 0 rfl (z_lmul (pc := 4) dX9_mix_4 (z_iload_n (pc := 5) dX9_mix_5 rfl 1 rfl (z_i2l (pc := 6) dX9_mix_6 (z_ladd (pc := 7) dX9_mix_7 (?_))))))
  exact z_lret (pc := 8) dX9_mix_8 rfl
theorem dX2_mixAll_0 : decode cX2_mixAll 0 = .ok (.lload_n 1, 1) := by decide +kernel
theorem dX2_mixAll_1 : decode cX2_mixAll 1 = .ok (.lstore_n 3, 1) := by decide +kernel
theorem dX2_mixAll_2 : decode cX2_mixAll 2 = .ok (.iconst 0, 1) := by decide +kernel
theorem dX2_mixAll_3 : decode cX2_mixAll 3 = .ok (.istore 5, 2) := by decide +kernel
theorem dX2_mixAll_5 : decode cX2_mixAll 5 = .ok (.iload 5, 2) := by decide +kernel
theorem dX2_mixAll_7 : decode cX2_mixAll 7 = .ok (.aload_n 0, 1) := by decide +kernel
theorem dX2_mixAll_8 : decode cX2_mixAll 8 = .ok (.getfield 24, 3) := by decide +kernel
theorem dX2_mixAll_11 : decode cX2_mixAll 11 = .ok (.if_icmp .ge 41, 3) := by decide +kernel
theorem dX2_mixAll_14 : decode cX2_mixAll 14 = .ok (.lload_n 3, 1) := by decide +kernel
theorem dX2_mixAll_15 : decode cX2_mixAll 15 = .ok (.aload_n 0, 1) := by decide +kernel
theorem dX2_mixAll_16 : decode cX2_mixAll 16 = .ok (.getfield 9, 3) := by decide +kernel
theorem dX2_mixAll_19 : decode cX2_mixAll 19 = .ok (.iload 5, 2) := by decide +kernel
theorem dX2_mixAll_21 : decode cX2_mixAll 21 = .ok (.iaload, 1) := by decide +kernel
theorem dX2_mixAll_22 : decode cX2_mixAll 22 = .ok (.invokestatic 28, 3) := by decide +kernel
theorem dX2_mixAll_25 : decode cX2_mixAll 25 = .ok (.aload_n 0, 1) := by decide +kernel
theorem dX2_mixAll_26 : decode cX2_mixAll 26 = .ok (.getfield 15, 3) := by decide +kernel
theorem dX2_mixAll_29 : decode cX2_mixAll 29 = .ok (.iload 5, 2) := by decide +kernel
theorem dX2_mixAll_31 : decode cX2_mixAll 31 = .ok (.iaload, 1) := by decide +kernel
theorem dX2_mixAll_32 : decode cX2_mixAll 32 = .ok (.invokestatic 28, 3) := by decide +kernel
theorem dX2_mixAll_35 : decode cX2_mixAll 35 = .ok (.aload_n 0, 1) := by decide +kernel
theorem dX2_mixAll_36 : decode cX2_mixAll 36 = .ok (.getfield 18, 3) := by decide +kernel
theorem dX2_mixAll_39 : decode cX2_mixAll 39 = .ok (.iload 5, 2) := by decide +kernel
theorem dX2_mixAll_41 : decode cX2_mixAll 41 = .ok (.iaload, 1) := by decide +kernel
theorem dX2_mixAll_42 : decode cX2_mixAll 42 = .ok (.invokestatic 28, 3) := by decide +kernel
theorem dX2_mixAll_45 : decode cX2_mixAll 45 = .ok (.lstore_n 3, 1) := by decide +kernel
theorem dX2_mixAll_46 : decode cX2_mixAll 46 = .ok (.iinc 5 1, 3) := by decide +kernel
theorem dX2_mixAll_49 : decode cX2_mixAll 49 = .ok (.goto (-44), 3) := by decide +kernel
theorem dX2_mixAll_52 : decode cX2_mixAll 52 = .ok (.lload_n 3, 1) := by decide +kernel
theorem dX2_mixAll_53 : decode cX2_mixAll 53 = .ok (.lreturn, 1) := by decide +kernel
def c_X2_mixAll_L5 (F : Nat) (a2 : Nat) : Nat → Int64 → Int32 → z_Hp → Option (Int64 × z_Hp)
  | 0, _, _, _ => none
  | n + 1, y3, x4, h5 => (if hT h5 a2 = 2 then (if (hI h5 a2 4) ≤ x4 then (some (y3, h5)) else (if hT h5 a2 = 2 then (lt_ (hR h5 a2 0) (fun o6 => (nn o6 (fun a7 => (if okA h5 a7 20 x4 = true then (bL (c_X9_mix F y3 (hI h5 a7 (ix x4)) h5) (fun y9 h8 => (if hT h8 a2 = 2 then (lt_ (hR h8 a2 1) (fun o10 => (nn o10 (fun a11 => (if okA h8 a11 20 x4 = true then (bL (c_X9_mix F y9 (hI h8 a11 (ix x4)) h8) (fun y13 h12 => (if hT h12 a2 = 2 then (lt_ (hR h12 a2 2) (fun o14 => (nn o14 (fun a15 => (if okA h12 a15 20 x4 = true then (bL (c_X9_mix F y13 (hI h12 a15 (ix x4)) h12) (fun y17 h16 => (lt_ (x4 + 1) (fun x18 => (c_X2_mixAll_L5 F a2 n y17 x18 h16))))) else none))))) else none))) else none))))) else none))) else none))))) else none)) else none)
def c_X2_mixAll (F : Nat) (a0 : Nat) (y1 : Int64) (h0 : z_Hp) : Option (Int64 × z_Hp) := (c_X2_mixAll_L5 F a0 F y1 0 h0)
set_option maxRecDepth 20000 in
set_option maxHeartbeats 4000000 in
theorem g_X2_mixAll_L5 (F : Nat) (a2 : Nat) : ∀ (n : Nat) (y3 : Int64) (x4 : Int32) (h5 : z_Hp), z_G zl mi_X2_mixAll 5 [(0, vr (some a2)), (3, vl y3), (5, vi x4)] [] h5 (c_X2_mixAll_L5 F a2 n y3 x4 h5) := by
  intro n
  induction n with
  | zero => intro y3 x4 h5; rw [c_X2_mixAll_L5]; exact z_none
  | succ n ih =>
    intro y3 x4 h5
    rw [c_X2_mixAll_L5]
    refine z_iload (pc := 5) dX2_mixAll_5 2 rfl (z_aload_n (pc := 7) dX2_mixAll_7 rfl 0 rfl (z_getI (pc := 8) fl_RX2_24 rfl dX2_mixAll_8 (?_)))
    refine z_icmp_ge (pc := 11) (tgt := 52) dX2_mixAll_11 (by decide) ?_ ?_
    · refine z_lload_n (pc := 52) dX2_mixAll_52 rfl 1 rfl (?_)
      exact z_lret (pc := 53) dX2_mixAll_53 rfl
    · refine z_lload_n (pc := 14) dX2_mixAll_14 rfl 1 rfl (z_aload_n (pc := 15) dX2_mixAll_15 rfl 0 rfl (z_getRl (pc := 16) fl_RX2_9 rfl dX2_mixAll_16 (fun o6 => (z_iload (pc := 19) dX2_mixAll_19 2 rfl (?_)))))
      refine z_nn (fun a7 ea7 => ?_)
      subst ea7
      refine z_iaload (pc := 21) dX2_mixAll_21 (z_callSN_L (pc := 22) (host := "BalladSheets") (avs := [vl y3, vi (hI h5 a7 (ix x4))]) (st := []) rfl (t_X9_mix F y3 (hI h5 a7 (ix x4)) h5) ky_X9_mix ws_X9_mix (by decide +kernel) (rm_X2_mixAll_X9_mix) (Nat.le_of_ble_eq_true rfl) dX2_mixAll_22 (fun y9 h8 => (?_)))
      refine z_aload_n (pc := 25) dX2_mixAll_25 rfl 0 rfl (z_getRl (pc := 26) fl_RX2_15 rfl dX2_mixAll_26 (fun o10 => (z_iload (pc := 29) dX2_mixAll_29 2 rfl (?_))))
      refine z_nn (fun a11 ea11 => ?_)
      subst ea11
      refine z_iaload (pc := 31) dX2_mixAll_31 (z_callSN_L (pc := 32) (host := "BalladSheets") (avs := [vl y9, vi (hI h8 a11 (ix x4))]) (st := []) rfl (t_X9_mix F y9 (hI h8 a11 (ix x4)) h8) ky_X9_mix ws_X9_mix (by decide +kernel) (rm_X2_mixAll_X9_mix) (Nat.le_of_ble_eq_true rfl) dX2_mixAll_32 (fun y13 h12 => (?_)))
      refine z_aload_n (pc := 35) dX2_mixAll_35 rfl 0 rfl (z_getRl (pc := 36) fl_RX2_18 rfl dX2_mixAll_36 (fun o14 => (z_iload (pc := 39) dX2_mixAll_39 2 rfl (?_))))
      refine z_nn (fun a15 ea15 => ?_)
      subst ea15
      refine z_iaload (pc := 41) dX2_mixAll_41 (z_callSN_L (pc := 42) (host := "BalladSheets") (avs := [vl y13, vi (hI h12 a15 (ix x4))]) (st := []) rfl (t_X9_mix F y13 (hI h12 a15 (ix x4)) h12) ky_X9_mix ws_X9_mix (by decide +kernel) (rm_X2_mixAll_X9_mix) (Nat.le_of_ble_eq_true rfl) dX2_mixAll_42 (fun y17 h16 => (?_)))
      refine z_lstore_n (pc := 45) (L' := [(0, vr (some a2)), (3, vl y17), (5, vi x4)]) dX2_mixAll_45 rfl (Nat.le_of_ble_eq_true rfl) rfl (z_iincl (pc := 46) (L' := fun x18 => [(0, vr (some a2)), (3, vl y17), (5, vi x18)]) dX2_mixAll_46 2 rfl ic_1 (Nat.le_of_ble_eq_true rfl) (fun _ => rfl) (fun x18 => (z_goto (pc := 49) (tgt := 5) dX2_mixAll_49 (by decide) (?_))))
      exact ih y17 x18 h16
set_option maxRecDepth 20000 in
set_option maxHeartbeats 4000000 in
theorem t_X2_mixAll (F : Nat) (a0 : Nat) (y1 : Int64) (h0 : z_Hp) : z_Ct zl mi_X2_mixAll [vr (some a0), vl y1] h0 (c_X2_mixAll F a0 y1 h0) := by
  refine z_entry (by decide) (Nat.le_of_ble_eq_true rfl) [(0, vr (some a0)), (1, vl y1)] rfl ?_
  unfold c_X2_mixAll
  refine z_lload_n (pc := 0) dX2_mixAll_0 rfl 1 rfl (z_lstore_n (pc := 1) (L' := [(0, vr (some a0)), (1, vl y1), (3, vl y1)]) dX2_mixAll_1 rfl (Nat.le_of_ble_eq_true rfl) rfl (z_iconst (pc := 2) dX2_mixAll_2 ic_0 (z_istore (pc := 3) (L' := [(0, vr (some a0)), (1, vl y1), (3, vl y1), (5, vi 0)]) dX2_mixAll_3 (Nat.le_of_ble_eq_true rfl) rfl (?_))))
  refine z_sub [0, 2, 3] rfl (g_X2_mixAll_L5 F a0 F y1 0 h0)
theorem dX3_init_0 : decode cX3_init 0 = .ok (.aload_n 0, 1) := by decide +kernel
theorem dX3_init_1 : decode cX3_init 1 = .ok (.invokespecial 3, 3) := by decide +kernel
theorem dX3_init_4 : decode cX3_init 4 = .ok (.aload_n 0, 1) := by decide +kernel
theorem dX3_init_5 : decode cX3_init 5 = .ok (.bipush 16, 2) := by decide +kernel
theorem dX3_init_7 : decode cX3_init 7 = .ok (.newarray .int, 2) := by decide +kernel
theorem dX3_init_9 : decode cX3_init 9 = .ok (.putfield 9, 3) := by decide +kernel
theorem dX3_init_12 : decode cX3_init 12 = .ok (.aload_n 0, 1) := by decide +kernel
theorem dX3_init_13 : decode cX3_init 13 = .ok (.bipush 16, 2) := by decide +kernel
theorem dX3_init_15 : decode cX3_init 15 = .ok (.newarray .int, 2) := by decide +kernel
theorem dX3_init_17 : decode cX3_init 17 = .ok (.putfield 15, 3) := by decide +kernel
theorem dX3_init_20 : decode cX3_init 20 = .ok (.aload_n 0, 1) := by decide +kernel
theorem dX3_init_21 : decode cX3_init 21 = .ok (.bipush 16, 2) := by decide +kernel
theorem dX3_init_23 : decode cX3_init 23 = .ok (.getstatic 18, 3) := by decide +kernel
theorem dX3_init_26 : decode cX3_init 26 = .ok (.arraylength, 1) := by decide +kernel
theorem dX3_init_27 : decode cX3_init 27 = .ok (.imul, 1) := by decide +kernel
theorem dX3_init_28 : decode cX3_init 28 = .ok (.newarray .int, 2) := by decide +kernel
theorem dX3_init_30 : decode cX3_init 30 = .ok (.putfield 21, 3) := by decide +kernel
theorem dX3_init_33 : decode cX3_init 33 = .ok (.return_, 1) := by decide +kernel
def c_X3_init (F : Nat) (a0 : Nat) (h0 : z_Hp) : Option (z_Hp) := (if inb 16 100000 = true then (nwo h0 20 (ix 16) (fun a1 h2 => (if hT h2 a0 = 3 then (lt_ (sR h2 a0 0 (some a1)) (fun h3 => (if inb 16 100000 = true then (nwo h3 20 (ix 16) (fun a4 h5 => (if hT h5 a0 = 3 then (lt_ (sR h5 a0 1 (some a4)) (fun h6 => (if okL h6 2 = true then (if inb (16 * (nI (hN h6 2))) 100000 = true then (nwo h6 20 (ix (16 * (nI (hN h6 2)))) (fun a7 h8 => (if hT h8 a0 = 3 then (lt_ (sR h8 a0 2 (some a7)) (fun h9 => (some h9))) else none))) else none) else none))) else none))) else none))) else none))) else none)
set_option maxRecDepth 20000 in
set_option maxHeartbeats 4000000 in
theorem t_X3_init (F : Nat) (a0 : Nat) (h0 : z_Hp) : z_Ct zv mi_X3_init [vr (some a0)] h0 (c_X3_init F a0 h0) := by
  refine z_entry (by decide) (Nat.le_of_ble_eq_true rfl) [(0, vr (some a0))] rfl ?_
  unfold c_X3_init
  refine z_aload_n (pc := 0) dX3_init_0 rfl 0 rfl (z_objinit (pc := 1) wo_RX3_3 wo_im wo_cd (Nat.le_of_ble_eq_true rfl) (Nat.le_of_ble_eq_true rfl) (Nat.le_of_ble_eq_true rfl) dX3_init_1 (z_aload_n (pc := 4) dX3_init_4 rfl 0 rfl (z_bipush (pc := 5) dX3_init_5 bp_16 (z_newarrl (pc := 7) 20 (by decide) rfl wa_20 dX3_init_7 (fun a1 h2 => (z_putRl (pc := 9) fl_RX3_9 fin_X3_init_3_0 rfl dX3_init_9 (fun h3 => (z_aload_n (pc := 12) dX3_init_12 rfl 0 rfl (z_bipush (pc := 13) dX3_init_13 bp_16 (?_))))))))))
  refine z_newarrl (pc := 15) 20 (by decide) rfl wa_20 dX3_init_15 (fun a4 h5 => (z_putRl (pc := 17) fl_RX3_15 fin_X3_init_3_1 rfl dX3_init_17 (fun h6 => (z_aload_n (pc := 20) dX3_init_20 rfl 0 rfl (z_bipush (pc := 21) dX3_init_21 bp_16 (z_getsN (pc := 23) (k := 2) (by decide) (by decide +kernel) dX3_init_23 (z_alen (pc := 26) dX3_init_26 (z_imul (pc := 27) dX3_init_27 (z_newarrl (pc := 28) 20 (by decide) rfl wa_20 dX3_init_28 (fun a7 h8 => (?_)))))))))))
  refine z_putRl (pc := 30) fl_RX3_21 fin_X3_init_3_2 rfl dX3_init_30 (fun h9 => (?_))
  exact z_vret (pc := 33) dX3_init_33 rfl
theorem dX3_isDigit_0 : decode cX3_isDigit 0 = .ok (.iload_n 0, 1) := by decide +kernel
theorem dX3_isDigit_1 : decode cX3_isDigit 1 = .ok (.bipush 48, 2) := by decide +kernel
theorem dX3_isDigit_3 : decode cX3_isDigit 3 = .ok (.if_icmp .lt 13, 3) := by decide +kernel
theorem dX3_isDigit_6 : decode cX3_isDigit 6 = .ok (.iload_n 0, 1) := by decide +kernel
theorem dX3_isDigit_7 : decode cX3_isDigit 7 = .ok (.bipush 57, 2) := by decide +kernel
theorem dX3_isDigit_9 : decode cX3_isDigit 9 = .ok (.if_icmp .gt 7, 3) := by decide +kernel
theorem dX3_isDigit_12 : decode cX3_isDigit 12 = .ok (.iconst 1, 1) := by decide +kernel
theorem dX3_isDigit_13 : decode cX3_isDigit 13 = .ok (.goto 4, 3) := by decide +kernel
theorem dX3_isDigit_16 : decode cX3_isDigit 16 = .ok (.iconst 0, 1) := by decide +kernel
theorem dX3_isDigit_17 : decode cX3_isDigit 17 = .ok (.ireturn, 1) := by decide +kernel
def c_X3_isDigit (F : Nat) (x1 : Int32) (h0 : z_Hp) : Option (Int32 × z_Hp) := (if x1 < 48 then (some (0, h0)) else (if 57 < x1 then (some (0, h0)) else (some (1, h0))))
set_option maxRecDepth 20000 in
set_option maxHeartbeats 4000000 in
theorem t_X3_isDigit (F : Nat) (x1 : Int32) (h0 : z_Hp) : z_Ct zi mi_X3_isDigit [vi x1] h0 (c_X3_isDigit F x1 h0) := by
  refine z_entry (by decide) (Nat.le_of_ble_eq_true rfl) [(0, vi x1)] rfl ?_
  unfold c_X3_isDigit
  refine z_iload_n (pc := 0) dX3_isDigit_0 rfl 0 rfl (z_bipush (pc := 1) dX3_isDigit_1 bp_48 (?_))
  refine z_icmp_lt (pc := 3) (tgt := 16) dX3_isDigit_3 (by decide) ?_ ?_
  · refine z_iconst (pc := 16) dX3_isDigit_16 ic_0 (?_)
    exact z_iret (pc := 17) dX3_isDigit_17 rfl rfl
  · refine z_iload_n (pc := 6) dX3_isDigit_6 rfl 0 rfl (z_bipush (pc := 7) dX3_isDigit_7 bp_57 (?_))
    refine z_icmp_gt (pc := 9) (tgt := 16) dX3_isDigit_9 (by decide) ?_ ?_
    · refine z_iconst (pc := 16) dX3_isDigit_16 ic_0 (?_)
      exact z_iret (pc := 17) dX3_isDigit_17 rfl rfl
    · refine z_iconst (pc := 12) dX3_isDigit_12 ic_1 (z_goto (pc := 13) (tgt := 17) dX3_isDigit_13 (by decide) (?_))
      exact z_iret (pc := 17) dX3_isDigit_17 rfl rfl
theorem dX3_letterOf_0 : decode cX3_letterOf 0 = .ok (.iconst 0, 1) := by decide +kernel
theorem dX3_letterOf_1 : decode cX3_letterOf 1 = .ok (.istore_n 1, 1) := by decide +kernel
theorem dX3_letterOf_2 : decode cX3_letterOf 2 = .ok (.iload_n 1, 1) := by decide +kernel
theorem dX3_letterOf_3 : decode cX3_letterOf 3 = .ok (.getstatic 18, 3) := by decide +kernel
theorem dX3_letterOf_6 : decode cX3_letterOf 6 = .ok (.arraylength, 1) := by decide +kernel
theorem dX3_letterOf_7 : decode cX3_letterOf 7 = .ok (.if_icmp .ge 20, 3) := by decide +kernel
theorem dX3_letterOf_10 : decode cX3_letterOf 10 = .ok (.getstatic 18, 3) := by decide +kernel
theorem dX3_letterOf_13 : decode cX3_letterOf 13 = .ok (.iload_n 1, 1) := by decide +kernel
theorem dX3_letterOf_14 : decode cX3_letterOf 14 = .ok (.iaload, 1) := by decide +kernel
theorem dX3_letterOf_15 : decode cX3_letterOf 15 = .ok (.iload_n 0, 1) := by decide +kernel
theorem dX3_letterOf_16 : decode cX3_letterOf 16 = .ok (.if_icmp .ne 5, 3) := by decide +kernel
theorem dX3_letterOf_19 : decode cX3_letterOf 19 = .ok (.iload_n 1, 1) := by decide +kernel
theorem dX3_letterOf_20 : decode cX3_letterOf 20 = .ok (.ireturn, 1) := by decide +kernel
theorem dX3_letterOf_21 : decode cX3_letterOf 21 = .ok (.iinc 1 1, 3) := by decide +kernel
theorem dX3_letterOf_24 : decode cX3_letterOf 24 = .ok (.goto (-22), 3) := by decide +kernel
theorem dX3_letterOf_27 : decode cX3_letterOf 27 = .ok (.bipush (-9), 2) := by decide +kernel
theorem dX3_letterOf_29 : decode cX3_letterOf 29 = .ok (.ireturn, 1) := by decide +kernel
def c_X3_letterOf_L2 (F : Nat) (x2 : Int32) : Nat → Int32 → z_Hp → Option (Int32 × z_Hp)
  | 0, _, _ => none
  | n + 1, x3, h4 => (if okL h4 2 = true then (if (nI (hN h4 2)) ≤ x3 then (some ((-9), h4)) else (if inb x3 (hN h4 2) = true then (if (hI h4 2 (ix x3)) = x2 then (some (x3, h4)) else (lt_ (x3 + 1) (fun x5 => (c_X3_letterOf_L2 F x2 n x5 h4)))) else none)) else none)
def c_X3_letterOf (F : Nat) (x1 : Int32) (h0 : z_Hp) : Option (Int32 × z_Hp) := (c_X3_letterOf_L2 F x1 F 0 h0)
set_option maxRecDepth 20000 in
set_option maxHeartbeats 4000000 in
theorem g_X3_letterOf_L2 (F : Nat) (x2 : Int32) : ∀ (n : Nat) (x3 : Int32) (h4 : z_Hp), z_G zi mi_X3_letterOf 2 [(0, vi x2), (1, vi x3)] [] h4 (c_X3_letterOf_L2 F x2 n x3 h4) := by
  intro n
  induction n with
  | zero => intro x3 h4; rw [c_X3_letterOf_L2]; exact z_none
  | succ n ih =>
    intro x3 h4
    rw [c_X3_letterOf_L2]
    refine z_iload_n (pc := 2) dX3_letterOf_2 rfl 1 rfl (z_getsN (pc := 3) (k := 2) (by decide) (by decide +kernel) dX3_letterOf_3 (z_alen (pc := 6) dX3_letterOf_6 (?_)))
    refine z_icmp_ge (pc := 7) (tgt := 27) dX3_letterOf_7 (by decide) ?_ ?_
    · refine z_bipush (pc := 27) dX3_letterOf_27 bp_m9 (?_)
      exact z_iret (pc := 29) dX3_letterOf_29 rfl rfl
    · refine z_getsN (pc := 10) (k := 2) (by decide) (by decide +kernel) dX3_letterOf_10 (z_iload_n (pc := 13) dX3_letterOf_13 rfl 1 rfl (z_iald0 (pc := 14) (by decide) dX3_letterOf_14 (z_iload_n (pc := 15) dX3_letterOf_15 rfl 0 rfl (?_))))
      refine z_icmp_ne (pc := 16) (tgt := 21) dX3_letterOf_16 (by decide) ?_ ?_
      · refine z_iincl (pc := 21) (L' := fun x5 => [(0, vi x2), (1, vi x5)]) dX3_letterOf_21 1 rfl ic_1 (Nat.le_of_ble_eq_true rfl) (fun _ => rfl) (fun x5 => (z_goto (pc := 24) (tgt := 2) dX3_letterOf_24 (by decide) (?_)))
        exact ih x5 h4
      · refine z_iload_n (pc := 19) dX3_letterOf_19 rfl 1 rfl (?_)
        exact z_iret (pc := 20) dX3_letterOf_20 rfl rfl
set_option maxRecDepth 20000 in
set_option maxHeartbeats 4000000 in
theorem t_X3_letterOf (F : Nat) (x1 : Int32) (h0 : z_Hp) : z_Ct zi mi_X3_letterOf [vi x1] h0 (c_X3_letterOf F x1 h0) := by
  refine z_entry (by decide) (Nat.le_of_ble_eq_true rfl) [(0, vi x1)] rfl ?_
  unfold c_X3_letterOf
  refine z_iconst (pc := 0) dX3_letterOf_0 ic_0 (z_istore_n (pc := 1) (L' := [(0, vi x1), (1, vi 0)]) dX3_letterOf_1 rfl (Nat.le_of_ble_eq_true rfl) rfl (?_))
  refine g_X3_letterOf_L2 F x1 F 0 h0
theorem dX3_faultIn_0 : decode cX3_faultIn 0 = .ok (.iconst (-1), 1) := by decide +kernel
theorem dX3_faultIn_1 : decode cX3_faultIn 1 = .ok (.istore_n 1, 1) := by decide +kernel
theorem dX3_faultIn_2 : decode cX3_faultIn 2 = .ok (.iconst 0, 1) := by decide +kernel
theorem dX3_faultIn_3 : decode cX3_faultIn 3 = .ok (.istore_n 2, 1) := by decide +kernel
theorem dX3_faultIn_4 : decode cX3_faultIn 4 = .ok (.iload_n 2, 1) := by decide +kernel
theorem dX3_faultIn_5 : decode cX3_faultIn 5 = .ok (.aload_n 0, 1) := by decide +kernel
theorem dX3_faultIn_6 : decode cX3_faultIn 6 = .ok (.arraylength, 1) := by decide +kernel
theorem dX3_faultIn_7 : decode cX3_faultIn 7 = .ok (.if_icmp .ge 70, 3) := by decide +kernel
theorem dX3_faultIn_10 : decode cX3_faultIn 10 = .ok (.aload_n 0, 1) := by decide +kernel
theorem dX3_faultIn_11 : decode cX3_faultIn 11 = .ok (.iload_n 2, 1) := by decide +kernel
theorem dX3_faultIn_12 : decode cX3_faultIn 12 = .ok (.baload, 1) := by decide +kernel
theorem dX3_faultIn_13 : decode cX3_faultIn 13 = .ok (.invokestatic 24, 3) := by decide +kernel
theorem dX3_faultIn_16 : decode cX3_faultIn 16 = .ok (.ifCond .eq 21, 3) := by decide +kernel
theorem dX3_faultIn_19 : decode cX3_faultIn 19 = .ok (.iload_n 1, 1) := by decide +kernel
theorem dX3_faultIn_20 : decode cX3_faultIn 20 = .ok (.iconst (-1), 1) := by decide +kernel
theorem dX3_faultIn_21 : decode cX3_faultIn 21 = .ok (.if_icmp .eq 8, 3) := by decide +kernel
theorem dX3_faultIn_24 : decode cX3_faultIn 24 = .ok (.iload_n 1, 1) := by decide +kernel
theorem dX3_faultIn_25 : decode cX3_faultIn 25 = .ok (.iconst 3, 1) := by decide +kernel
theorem dX3_faultIn_26 : decode cX3_faultIn 26 = .ok (.if_icmp .ne 5, 3) := by decide +kernel
theorem dX3_faultIn_29 : decode cX3_faultIn 29 = .ok (.iload_n 2, 1) := by decide +kernel
theorem dX3_faultIn_30 : decode cX3_faultIn 30 = .ok (.ireturn, 1) := by decide +kernel
theorem dX3_faultIn_31 : decode cX3_faultIn 31 = .ok (.iinc 1 1, 3) := by decide +kernel
theorem dX3_faultIn_34 : decode cX3_faultIn 34 = .ok (.goto 37, 3) := by decide +kernel
theorem dX3_faultIn_37 : decode cX3_faultIn 37 = .ok (.iload_n 1, 1) := by decide +kernel
theorem dX3_faultIn_38 : decode cX3_faultIn 38 = .ok (.ifCond .ne 5, 3) := by decide +kernel
theorem dX3_faultIn_41 : decode cX3_faultIn 41 = .ok (.iload_n 2, 1) := by decide +kernel
theorem dX3_faultIn_42 : decode cX3_faultIn 42 = .ok (.ireturn, 1) := by decide +kernel
theorem dX3_faultIn_43 : decode cX3_faultIn 43 = .ok (.aload_n 0, 1) := by decide +kernel
theorem dX3_faultIn_44 : decode cX3_faultIn 44 = .ok (.iload_n 2, 1) := by decide +kernel
theorem dX3_faultIn_45 : decode cX3_faultIn 45 = .ok (.baload, 1) := by decide +kernel
theorem dX3_faultIn_46 : decode cX3_faultIn 46 = .ok (.bipush 32, 2) := by decide +kernel
theorem dX3_faultIn_48 : decode cX3_faultIn 48 = .ok (.if_icmp .ne 8, 3) := by decide +kernel
theorem dX3_faultIn_51 : decode cX3_faultIn 51 = .ok (.iconst (-1), 1) := by decide +kernel
theorem dX3_faultIn_52 : decode cX3_faultIn 52 = .ok (.istore_n 1, 1) := by decide +kernel
theorem dX3_faultIn_53 : decode cX3_faultIn 53 = .ok (.goto 18, 3) := by decide +kernel
theorem dX3_faultIn_56 : decode cX3_faultIn 56 = .ok (.aload_n 0, 1) := by decide +kernel
theorem dX3_faultIn_57 : decode cX3_faultIn 57 = .ok (.iload_n 2, 1) := by decide +kernel
theorem dX3_faultIn_58 : decode cX3_faultIn 58 = .ok (.baload, 1) := by decide +kernel
theorem dX3_faultIn_59 : decode cX3_faultIn 59 = .ok (.invokestatic 28, 3) := by decide +kernel
theorem dX3_faultIn_62 : decode cX3_faultIn 62 = .ok (.bipush (-9), 2) := by decide +kernel
theorem dX3_faultIn_64 : decode cX3_faultIn 64 = .ok (.if_icmp .ne 5, 3) := by decide +kernel
theorem dX3_faultIn_67 : decode cX3_faultIn 67 = .ok (.iload_n 2, 1) := by decide +kernel
theorem dX3_faultIn_68 : decode cX3_faultIn 68 = .ok (.ireturn, 1) := by decide +kernel
theorem dX3_faultIn_69 : decode cX3_faultIn 69 = .ok (.iconst 0, 1) := by decide +kernel
theorem dX3_faultIn_70 : decode cX3_faultIn 70 = .ok (.istore_n 1, 1) := by decide +kernel
theorem dX3_faultIn_71 : decode cX3_faultIn 71 = .ok (.iinc 2 1, 3) := by decide +kernel
theorem dX3_faultIn_74 : decode cX3_faultIn 74 = .ok (.goto (-70), 3) := by decide +kernel
theorem dX3_faultIn_77 : decode cX3_faultIn 77 = .ok (.iload_n 1, 1) := by decide +kernel
theorem dX3_faultIn_78 : decode cX3_faultIn 78 = .ok (.ifCond .ne 8, 3) := by decide +kernel
theorem dX3_faultIn_81 : decode cX3_faultIn 81 = .ok (.aload_n 0, 1) := by decide +kernel
theorem dX3_faultIn_82 : decode cX3_faultIn 82 = .ok (.arraylength, 1) := by decide +kernel
theorem dX3_faultIn_83 : decode cX3_faultIn 83 = .ok (.goto 5, 3) := by decide +kernel
theorem dX3_faultIn_86 : decode cX3_faultIn 86 = .ok (.bipush (-9), 2) := by decide +kernel
theorem dX3_faultIn_88 : decode cX3_faultIn 88 = .ok (.ireturn, 1) := by decide +kernel
def c_X3_faultIn_L4 (F : Nat) (o2 : Option Nat) (k77 : Int32 → z_Hp → Option (Int32 × z_Hp)) : Nat → Int32 → Int32 → z_Hp → Option (Int32 × z_Hp)
  | 0, _, _, _ => none
  | n + 1, x3, x4, h5 => (nn o2 (fun a8 => (if okL h5 a8 = true then (if (nI (hN h5 a8)) ≤ x4 then (k77 x3 h5) else (if okA h5 a8 21 x4 = true then (bI (c_X3_isDigit F (hI h5 a8 (ix x4)) h5) (fun x10 h9 => (lt_ (fun (x12 : Int32) (h13 : z_Hp) => (lt_ (x4 + 1) (fun x14 => (c_X3_faultIn_L4 F o2 k77 n x12 x14 h13)))) (fun (j71_11 : Int32 → z_Hp → Option (Int32 × z_Hp)) => (if x10 = 0 then (if x3 = 0 then (some (x4, h9)) else (if okA h9 a8 21 x4 = true then (if (hI h9 a8 (ix x4)) = 32 then (j71_11 (-1) h9) else (if okA h9 a8 21 x4 = true then (bI (c_X3_letterOf F (hI h9 a8 (ix x4)) h9) (fun x16 h15 => (if x16 = (-9) then (some (x4, h15)) else (j71_11 0 h15)))) else none)) else none)) else (if x3 = (-1) then (some (x4, h9)) else (if x3 = 3 then (some (x4, h9)) else (lt_ (x3 + 1) (fun x17 => (j71_11 x17 h9)))))))))) else none)) else none)))
def c_X3_faultIn (F : Nat) (o1 : Option Nat) (h0 : z_Hp) : Option (Int32 × z_Hp) := (c_X3_faultIn_L4 F o1 (fun x18 h19 => (if x18 = 0 then (nn o1 (fun a20 => (if okL h19 a20 = true then (some (nI (hN h19 a20), h19)) else none))) else (some ((-9), h19)))) F (-1) 0 h0)
set_option maxRecDepth 20000 in
set_option maxHeartbeats 4000000 in
theorem g_X3_faultIn_L4 (F : Nat) (o2 : Option Nat) (k77 : Int32 → z_Hp → Option (Int32 × z_Hp)) (qk77 : ∀ (x6 : Int32) (h7 : z_Hp), z_G zi mi_X3_faultIn 77 [(0, vr o2), (1, vi x6)] [] h7 (k77 x6 h7)) : ∀ (n : Nat) (x3 : Int32) (x4 : Int32) (h5 : z_Hp), z_G zi mi_X3_faultIn 4 [(0, vr o2), (1, vi x3), (2, vi x4)] [] h5 (c_X3_faultIn_L4 F o2 k77 n x3 x4 h5) := by
  intro n
  induction n with
  | zero => intro x3 x4 h5; rw [c_X3_faultIn_L4]; exact z_none
  | succ n ih =>
    intro x3 x4 h5
    rw [c_X3_faultIn_L4]
    refine z_iload_n (pc := 4) dX3_faultIn_4 rfl 2 rfl (z_aload_n (pc := 5) dX3_faultIn_5 rfl 0 rfl (?_))
    refine z_nn (fun a8 ea8 => ?_)
    subst ea8
    refine z_alen (pc := 6) dX3_faultIn_6 (?_)
    refine z_icmp_ge (pc := 7) (tgt := 77) dX3_faultIn_7 (by decide) ?_ ?_
    · exact z_sub [0, 1] rfl (qk77 x3 h5)
    · refine z_aload_n (pc := 10) dX3_faultIn_10 rfl 0 rfl (z_iload_n (pc := 11) dX3_faultIn_11 rfl 2 rfl (z_baload (pc := 12) dX3_faultIn_12 (z_callS_I (pc := 13) (avs := [vi (hI h5 a8 (ix x4))]) (st := []) rfl (t_X3_isDigit F (hI h5 a8 (ix x4)) h5) ky_X3_isDigit ws_X3_isDigit wz_RX3_24 (rm_X3_faultIn_X3_isDigit) (Nat.le_of_ble_eq_true rfl) dX3_faultIn_13 (fun x10 h9 => (?_)))))
      refine z_jn (P := fun (j : Int32 → z_Hp → Option (Int32 × z_Hp)) => ∀ (x12 : Int32) (h13 : z_Hp), z_G zi mi_X3_faultIn 71 [(0, vr (some a8)), (1, vi x12), (2, vi x4)] [] h13 (j x12 h13)) (fun x12 h13 => ?_) (fun j71_11 qj71_11 => ?_)
      · refine z_iincl (pc := 71) (L' := fun x14 => [(0, vr (some a8)), (1, vi x12), (2, vi x14)]) dX3_faultIn_71 2 rfl ic_1 (Nat.le_of_ble_eq_true rfl) (fun _ => rfl) (fun x14 => (z_goto (pc := 74) (tgt := 4) dX3_faultIn_74 (by decide) (?_)))
        exact ih x12 x14 h13
      refine z_if_eq (pc := 16) (tgt := 37) dX3_faultIn_16 (by decide) ?_ ?_
      · refine z_iload_n (pc := 37) dX3_faultIn_37 rfl 1 rfl (?_)
        refine z_if_ne (pc := 38) (tgt := 43) dX3_faultIn_38 (by decide) ?_ ?_
        · refine z_aload_n (pc := 43) dX3_faultIn_43 rfl 0 rfl (z_iload_n (pc := 44) dX3_faultIn_44 rfl 2 rfl (z_baload (pc := 45) dX3_faultIn_45 (z_bipush (pc := 46) dX3_faultIn_46 bp_32 (?_))))
          refine z_icmp_ne (pc := 48) (tgt := 56) dX3_faultIn_48 (by decide) ?_ ?_
          · refine z_aload_n (pc := 56) dX3_faultIn_56 rfl 0 rfl (z_iload_n (pc := 57) dX3_faultIn_57 rfl 2 rfl (z_baload (pc := 58) dX3_faultIn_58 (z_callS_I (pc := 59) (avs := [vi (hI h9 a8 (ix x4))]) (st := []) rfl (t_X3_letterOf F (hI h9 a8 (ix x4)) h9) ky_X3_letterOf ws_X3_letterOf wz_RX3_28 (rm_X3_faultIn_X3_letterOf) (Nat.le_of_ble_eq_true rfl) dX3_faultIn_59 (fun x16 h15 => (?_)))))
            refine z_bipush (pc := 62) dX3_faultIn_62 bp_m9 (?_)
            refine z_icmp_ne (pc := 64) (tgt := 69) dX3_faultIn_64 (by decide) ?_ ?_
            · refine z_iconst (pc := 69) dX3_faultIn_69 ic_0 (z_istore_n (pc := 70) (L' := [(0, vr (some a8)), (1, vi 0), (2, vi x4)]) dX3_faultIn_70 rfl (Nat.le_of_ble_eq_true rfl) rfl (?_))
              exact qj71_11 0 h15
            · refine z_iload_n (pc := 67) dX3_faultIn_67 rfl 2 rfl (?_)
              exact z_iret (pc := 68) dX3_faultIn_68 rfl rfl
          · refine z_iconst (pc := 51) dX3_faultIn_51 ic_m1 (z_istore_n (pc := 52) (L' := [(0, vr (some a8)), (1, vi (-1)), (2, vi x4)]) dX3_faultIn_52 rfl (Nat.le_of_ble_eq_true rfl) rfl (z_goto (pc := 53) (tgt := 71) dX3_faultIn_53 (by decide) (?_)))
            exact qj71_11 (-1) h9
        · refine z_iload_n (pc := 41) dX3_faultIn_41 rfl 2 rfl (?_)
          exact z_iret (pc := 42) dX3_faultIn_42 rfl rfl
      · refine z_iload_n (pc := 19) dX3_faultIn_19 rfl 1 rfl (z_iconst (pc := 20) dX3_faultIn_20 ic_m1 (?_))
        refine z_icmp_eq (pc := 21) (tgt := 29) dX3_faultIn_21 (by decide) ?_ ?_
        · refine z_iload_n (pc := 29) dX3_faultIn_29 rfl 2 rfl (?_)
          exact z_iret (pc := 30) dX3_faultIn_30 rfl rfl
        · refine z_iload_n (pc := 24) dX3_faultIn_24 rfl 1 rfl (z_iconst (pc := 25) dX3_faultIn_25 ic_3 (?_))
          refine z_icmp_ne (pc := 26) (tgt := 31) dX3_faultIn_26 (by decide) ?_ ?_
          · refine z_iincl (pc := 31) (L' := fun x17 => [(0, vr (some a8)), (1, vi x17), (2, vi x4)]) dX3_faultIn_31 1 rfl ic_1 (Nat.le_of_ble_eq_true rfl) (fun _ => rfl) (fun x17 => (z_goto (pc := 34) (tgt := 71) dX3_faultIn_34 (by decide) (?_)))
            exact qj71_11 x17 h9
          · refine z_iload_n (pc := 29) dX3_faultIn_29 rfl 2 rfl (?_)
            exact z_iret (pc := 30) dX3_faultIn_30 rfl rfl
set_option maxRecDepth 20000 in
set_option maxHeartbeats 4000000 in
theorem t_X3_faultIn (F : Nat) (o1 : Option Nat) (h0 : z_Hp) : z_Ct zi mi_X3_faultIn [vr o1] h0 (c_X3_faultIn F o1 h0) := by
  refine z_entry (by decide) (Nat.le_of_ble_eq_true rfl) [(0, vr o1)] rfl ?_
  unfold c_X3_faultIn
  refine z_iconst (pc := 0) dX3_faultIn_0 ic_m1 (z_istore_n (pc := 1) (L' := [(0, vr o1), (1, vi (-1))]) dX3_faultIn_1 rfl (Nat.le_of_ble_eq_true rfl) rfl (z_iconst (pc := 2) dX3_faultIn_2 ic_0 (z_istore_n (pc := 3) (L' := [(0, vr o1), (1, vi (-1)), (2, vi 0)]) dX3_faultIn_3 rfl (Nat.le_of_ble_eq_true rfl) rfl (?_))))
  refine g_X3_faultIn_L4 F o1 _ (fun x18 h19 => ?_) F (-1) 0 h0
  refine z_iload_n (pc := 77) dX3_faultIn_77 rfl 1 rfl (?_)
  refine z_if_ne (pc := 78) (tgt := 86) dX3_faultIn_78 (by decide) ?_ ?_
  · refine z_bipush (pc := 86) dX3_faultIn_86 bp_m9 (?_)
    exact z_iret (pc := 88) dX3_faultIn_88 rfl rfl
  · refine z_aload_n (pc := 81) dX3_faultIn_81 rfl 0 rfl (?_)
    refine z_nn (fun a20 ea20 => ?_)
    subst ea20
    refine z_alen (pc := 82) dX3_faultIn_82 (z_goto (pc := 83) (tgt := 88) dX3_faultIn_83 (by decide) (?_))
    exact z_iret (pc := 88) dX3_faultIn_88 rfl rfl
theorem dX3_add_0 : decode cX3_add 0 = .ok (.aload_n 0, 1) := by decide +kernel
theorem dX3_add_1 : decode cX3_add 1 = .ok (.getfield 32, 3) := by decide +kernel
theorem dX3_add_4 : decode cX3_add 4 = .ok (.getstatic 18, 3) := by decide +kernel
theorem dX3_add_7 : decode cX3_add 7 = .ok (.arraylength, 1) := by decide +kernel
theorem dX3_add_8 : decode cX3_add 8 = .ok (.imul, 1) := by decide +kernel
theorem dX3_add_9 : decode cX3_add 9 = .ok (.istore 4, 2) := by decide +kernel
theorem dX3_add_11 : decode cX3_add 11 = .ok (.iconst 0, 1) := by decide +kernel
theorem dX3_add_12 : decode cX3_add 12 = .ok (.istore 5, 2) := by decide +kernel
theorem dX3_add_14 : decode cX3_add 14 = .ok (.iload 5, 2) := by decide +kernel
theorem dX3_add_16 : decode cX3_add 16 = .ok (.getstatic 18, 3) := by decide +kernel
theorem dX3_add_19 : decode cX3_add 19 = .ok (.arraylength, 1) := by decide +kernel
theorem dX3_add_20 : decode cX3_add 20 = .ok (.if_icmp .ge 21, 3) := by decide +kernel
theorem dX3_add_23 : decode cX3_add 23 = .ok (.aload_n 0, 1) := by decide +kernel
theorem dX3_add_24 : decode cX3_add 24 = .ok (.getfield 21, 3) := by decide +kernel
theorem dX3_add_27 : decode cX3_add 27 = .ok (.iload 4, 2) := by decide +kernel
theorem dX3_add_29 : decode cX3_add 29 = .ok (.iload 5, 2) := by decide +kernel
theorem dX3_add_31 : decode cX3_add 31 = .ok (.iadd, 1) := by decide +kernel
theorem dX3_add_32 : decode cX3_add 32 = .ok (.bipush (-9), 2) := by decide +kernel
theorem dX3_add_34 : decode cX3_add 34 = .ok (.iastore, 1) := by decide +kernel
theorem dX3_add_35 : decode cX3_add 35 = .ok (.iinc 5 1, 3) := by decide +kernel
theorem dX3_add_38 : decode cX3_add 38 = .ok (.goto (-24), 3) := by decide +kernel
theorem dX3_add_41 : decode cX3_add 41 = .ok (.iload 4, 2) := by decide +kernel
theorem dX3_add_43 : decode cX3_add 43 = .ok (.istore 5, 2) := by decide +kernel
theorem dX3_add_45 : decode cX3_add 45 = .ok (.iconst 0, 1) := by decide +kernel
theorem dX3_add_46 : decode cX3_add 46 = .ok (.istore 6, 2) := by decide +kernel
theorem dX3_add_48 : decode cX3_add 48 = .ok (.iload 6, 2) := by decide +kernel
theorem dX3_add_50 : decode cX3_add 50 = .ok (.aload_n 1, 1) := by decide +kernel
theorem dX3_add_51 : decode cX3_add 51 = .ok (.arraylength, 1) := by decide +kernel
theorem dX3_add_52 : decode cX3_add 52 = .ok (.if_icmp .ge 78, 3) := by decide +kernel
theorem dX3_add_55 : decode cX3_add 55 = .ok (.aload_n 1, 1) := by decide +kernel
theorem dX3_add_56 : decode cX3_add 56 = .ok (.iload 6, 2) := by decide +kernel
theorem dX3_add_58 : decode cX3_add 58 = .ok (.baload, 1) := by decide +kernel
theorem dX3_add_59 : decode cX3_add 59 = .ok (.invokestatic 28, 3) := by decide +kernel
theorem dX3_add_62 : decode cX3_add 62 = .ok (.istore 7, 2) := by decide +kernel
theorem dX3_add_64 : decode cX3_add 64 = .ok (.iload 7, 2) := by decide +kernel
theorem dX3_add_66 : decode cX3_add 66 = .ok (.bipush (-9), 2) := by decide +kernel
theorem dX3_add_68 : decode cX3_add 68 = .ok (.if_icmp .eq 21, 3) := by decide +kernel
theorem dX3_add_71 : decode cX3_add 71 = .ok (.iload 4, 2) := by decide +kernel
theorem dX3_add_73 : decode cX3_add 73 = .ok (.iload 7, 2) := by decide +kernel
theorem dX3_add_75 : decode cX3_add 75 = .ok (.iadd, 1) := by decide +kernel
theorem dX3_add_76 : decode cX3_add 76 = .ok (.istore 5, 2) := by decide +kernel
theorem dX3_add_78 : decode cX3_add 78 = .ok (.aload_n 0, 1) := by decide +kernel
theorem dX3_add_79 : decode cX3_add 79 = .ok (.getfield 21, 3) := by decide +kernel
theorem dX3_add_82 : decode cX3_add 82 = .ok (.iload 5, 2) := by decide +kernel
theorem dX3_add_84 : decode cX3_add 84 = .ok (.iconst 0, 1) := by decide +kernel
theorem dX3_add_85 : decode cX3_add 85 = .ok (.iastore, 1) := by decide +kernel
theorem dX3_add_86 : decode cX3_add 86 = .ok (.goto 38, 3) := by decide +kernel
theorem dX3_add_89 : decode cX3_add 89 = .ok (.aload_n 1, 1) := by decide +kernel
theorem dX3_add_90 : decode cX3_add 90 = .ok (.iload 6, 2) := by decide +kernel
theorem dX3_add_92 : decode cX3_add 92 = .ok (.baload, 1) := by decide +kernel
theorem dX3_add_93 : decode cX3_add 93 = .ok (.invokestatic 24, 3) := by decide +kernel
theorem dX3_add_96 : decode cX3_add 96 = .ok (.ifCond .eq 28, 3) := by decide +kernel
theorem dX3_add_99 : decode cX3_add 99 = .ok (.aload_n 0, 1) := by decide +kernel
theorem dX3_add_100 : decode cX3_add 100 = .ok (.getfield 21, 3) := by decide +kernel
theorem dX3_add_103 : decode cX3_add 103 = .ok (.iload 5, 2) := by decide +kernel
theorem dX3_add_105 : decode cX3_add 105 = .ok (.aload_n 0, 1) := by decide +kernel
theorem dX3_add_106 : decode cX3_add 106 = .ok (.getfield 21, 3) := by decide +kernel
theorem dX3_add_109 : decode cX3_add 109 = .ok (.iload 5, 2) := by decide +kernel
theorem dX3_add_111 : decode cX3_add 111 = .ok (.iaload, 1) := by decide +kernel
theorem dX3_add_112 : decode cX3_add 112 = .ok (.bipush 10, 2) := by decide +kernel
theorem dX3_add_114 : decode cX3_add 114 = .ok (.imul, 1) := by decide +kernel
theorem dX3_add_115 : decode cX3_add 115 = .ok (.aload_n 1, 1) := by decide +kernel
theorem dX3_add_116 : decode cX3_add 116 = .ok (.iload 6, 2) := by decide +kernel
theorem dX3_add_118 : decode cX3_add 118 = .ok (.baload, 1) := by decide +kernel
theorem dX3_add_119 : decode cX3_add 119 = .ok (.bipush 48, 2) := by decide +kernel
theorem dX3_add_121 : decode cX3_add 121 = .ok (.isub, 1) := by decide +kernel
theorem dX3_add_122 : decode cX3_add 122 = .ok (.iadd, 1) := by decide +kernel
theorem dX3_add_123 : decode cX3_add 123 = .ok (.iastore, 1) := by decide +kernel
theorem dX3_add_124 : decode cX3_add 124 = .ok (.iinc 6 1, 3) := by decide +kernel
theorem dX3_add_127 : decode cX3_add 127 = .ok (.goto (-79), 3) := by decide +kernel
theorem dX3_add_130 : decode cX3_add 130 = .ok (.aload_n 0, 1) := by decide +kernel
theorem dX3_add_131 : decode cX3_add 131 = .ok (.getfield 9, 3) := by decide +kernel
theorem dX3_add_134 : decode cX3_add 134 = .ok (.aload_n 0, 1) := by decide +kernel
theorem dX3_add_135 : decode cX3_add 135 = .ok (.getfield 32, 3) := by decide +kernel
theorem dX3_add_138 : decode cX3_add 138 = .ok (.iload_n 2, 1) := by decide +kernel
theorem dX3_add_139 : decode cX3_add 139 = .ok (.iastore, 1) := by decide +kernel
theorem dX3_add_140 : decode cX3_add 140 = .ok (.aload_n 0, 1) := by decide +kernel
theorem dX3_add_141 : decode cX3_add 141 = .ok (.getfield 15, 3) := by decide +kernel
theorem dX3_add_144 : decode cX3_add 144 = .ok (.aload_n 0, 1) := by decide +kernel
theorem dX3_add_145 : decode cX3_add 145 = .ok (.getfield 32, 3) := by decide +kernel
theorem dX3_add_148 : decode cX3_add 148 = .ok (.iload_n 3, 1) := by decide +kernel
theorem dX3_add_149 : decode cX3_add 149 = .ok (.iastore, 1) := by decide +kernel
theorem dX3_add_150 : decode cX3_add 150 = .ok (.aload_n 0, 1) := by decide +kernel
theorem dX3_add_151 : decode cX3_add 151 = .ok (.dup, 1) := by decide +kernel
theorem dX3_add_152 : decode cX3_add 152 = .ok (.getfield 32, 3) := by decide +kernel
theorem dX3_add_155 : decode cX3_add 155 = .ok (.dup_x1, 1) := by decide +kernel
theorem dX3_add_156 : decode cX3_add 156 = .ok (.iconst 1, 1) := by decide +kernel
theorem dX3_add_157 : decode cX3_add 157 = .ok (.iadd, 1) := by decide +kernel
theorem dX3_add_158 : decode cX3_add 158 = .ok (.putfield 32, 3) := by decide +kernel
theorem dX3_add_161 : decode cX3_add 161 = .ok (.ireturn, 1) := by decide +kernel
def c_X3_add_L14 (F : Nat) (a5 : Nat) (o6 : Option Nat) (x7 : Int32) (x8 : Int32) (x9 : Int32) (k41 : z_Hp → Option (Int32 × z_Hp)) : Nat → Int32 → z_Hp → Option (Int32 × z_Hp)
  | 0, _, _ => none
  | n + 1, x10, h11 => (if okL h11 2 = true then (if (nI (hN h11 2)) ≤ x10 then (k41 h11) else (if hT h11 a5 = 3 then (lt_ (hR h11 a5 2) (fun o13 => (nn o13 (fun a14 => (if okA h11 a14 20 (x9 + x10) = true then (lt_ (sI h11 a14 (ix (x9 + x10)) (-9)) (fun h15 => (lt_ (x10 + 1) (fun x16 => (c_X3_add_L14 F a5 o6 x7 x8 x9 k41 n x16 h15))))) else none))))) else none)) else none)
def c_X3_add_L48 (F : Nat) (a18 : Nat) (o19 : Option Nat) (x20 : Int32) (x21 : Int32) (x22 : Int32) (k130 : z_Hp → Option (Int32 × z_Hp)) : Nat → Int32 → Int32 → z_Hp → Option (Int32 × z_Hp)
  | 0, _, _, _ => none
  | n + 1, x23, x24, h25 => (nn o19 (fun a27 => (if okL h25 a27 = true then (if (nI (hN h25 a27)) ≤ x24 then (k130 h25) else (if okA h25 a27 21 x24 = true then (bI (c_X3_letterOf F (hI h25 a27 (ix x24)) h25) (fun x29 h28 => (lt_ (fun (x31 : Int32) (h32 : z_Hp) => (lt_ (x24 + 1) (fun x33 => (c_X3_add_L48 F a18 o19 x20 x21 x22 k130 n x31 x33 h32)))) (fun (j124_30 : Int32 → z_Hp → Option (Int32 × z_Hp)) => (if x29 = (-9) then (if okA h28 a27 21 x24 = true then (bI (c_X3_isDigit F (hI h28 a27 (ix x24)) h28) (fun x35 h34 => (if x35 = 0 then (j124_30 x23 h34) else (if hT h34 a18 = 3 then (lt_ (hR h34 a18 2) (fun o36 => (if hT h34 a18 = 3 then (lt_ (hR h34 a18 2) (fun o37 => (nn o37 (fun a38 => (if okA h34 a38 20 x23 = true then (if okA h34 a27 21 x24 = true then (nn o36 (fun a39 => (if okA h34 a39 20 x23 = true then (lt_ (sI h34 a39 (ix x23) (((hI h34 a38 (ix x23)) * 10) + ((hI h34 a27 (ix x24)) - 48))) (fun h40 => (j124_30 x23 h40))) else none))) else none) else none))))) else none))) else none)))) else none) else (lt_ (x22 + x29) (fun x41 => (if hT h28 a18 = 3 then (lt_ (hR h28 a18 2) (fun o42 => (nn o42 (fun a43 => (if okA h28 a43 20 x41 = true then (lt_ (sI h28 a43 (ix x41) 0) (fun h44 => (j124_30 x41 h44))) else none))))) else none)))))))) else none)) else none)))
def c_X3_add (F : Nat) (a0 : Nat) (o1 : Option Nat) (x2 : Int32) (x3 : Int32) (h0 : z_Hp) : Option (Int32 × z_Hp) := (if hT h0 a0 = 3 then (if okL h0 2 = true then (lt_ ((hI h0 a0 3) * (nI (hN h0 2))) (fun x4 => (c_X3_add_L14 F a0 o1 x2 x3 x4 (fun h17 => (c_X3_add_L48 F a0 o1 x2 x3 x4 (fun h45 => (if hT h45 a0 = 3 then (lt_ (hR h45 a0 0) (fun o46 => (if hT h45 a0 = 3 then (nn o46 (fun a47 => (if okA h45 a47 20 (hI h45 a0 3) = true then (lt_ (sI h45 a47 (ix (hI h45 a0 3)) x2) (fun h48 => (if hT h48 a0 = 3 then (lt_ (hR h48 a0 1) (fun o49 => (if hT h48 a0 = 3 then (nn o49 (fun a50 => (if okA h48 a50 20 (hI h48 a0 3) = true then (lt_ (sI h48 a50 (ix (hI h48 a0 3)) x3) (fun h51 => (if hT h51 a0 = 3 then (if hT h51 a0 = 3 then (lt_ (sI h51 a0 3 ((hI h51 a0 3) + 1)) (fun h52 => (some (hI h51 a0 3, h52)))) else none) else none))) else none))) else none))) else none))) else none))) else none))) else none)) F x4 0 h17)) F 0 h0))) else none) else none)
set_option maxRecDepth 20000 in
set_option maxHeartbeats 4000000 in
theorem g_X3_add_L14 (F : Nat) (a5 : Nat) (o6 : Option Nat) (x7 : Int32) (x8 : Int32) (x9 : Int32) (k41 : z_Hp → Option (Int32 × z_Hp)) (qk41 : ∀ (h12 : z_Hp), z_G zi mi_X3_add 41 [(0, vr (some a5)), (1, vr o6), (2, vi x7), (3, vi x8), (4, vi x9)] [] h12 (k41 h12)) : ∀ (n : Nat) (x10 : Int32) (h11 : z_Hp), z_G zi mi_X3_add 14 [(0, vr (some a5)), (1, vr o6), (2, vi x7), (3, vi x8), (4, vi x9), (5, vi x10)] [] h11 (c_X3_add_L14 F a5 o6 x7 x8 x9 k41 n x10 h11) := by
  intro n
  induction n with
  | zero => intro x10 h11; rw [c_X3_add_L14]; exact z_none
  | succ n ih =>
    intro x10 h11
    rw [c_X3_add_L14]
    refine z_iload (pc := 14) dX3_add_14 5 rfl (z_getsN (pc := 16) (k := 2) (by decide) (by decide +kernel) dX3_add_16 (z_alen (pc := 19) dX3_add_19 (?_)))
    refine z_icmp_ge (pc := 20) (tgt := 41) dX3_add_20 (by decide) ?_ ?_
    · exact z_sub [0, 1, 2, 3, 4] rfl (qk41 h11)
    · refine z_aload_n (pc := 23) dX3_add_23 rfl 0 rfl (z_getRl (pc := 24) fl_RX3_21 rfl dX3_add_24 (fun o13 => (z_iload (pc := 27) dX3_add_27 4 rfl (z_iload (pc := 29) dX3_add_29 5 rfl (z_iadd (pc := 31) dX3_add_31 (z_bipush (pc := 32) dX3_add_32 bp_m9 (?_)))))))
      refine z_nn (fun a14 ea14 => ?_)
      subst ea14
      refine z_iastorel (pc := 34) dX3_add_34 (fun h15 => (z_iincl (pc := 35) (L' := fun x16 => [(0, vr (some a5)), (1, vr o6), (2, vi x7), (3, vi x8), (4, vi x9), (5, vi x16)]) dX3_add_35 5 rfl ic_1 (Nat.le_of_ble_eq_true rfl) (fun _ => rfl) (fun x16 => (z_goto (pc := 38) (tgt := 14) dX3_add_38 (by decide) (?_)))))
      exact ih x16 h15
set_option maxRecDepth 20000 in
set_option maxHeartbeats 4000000 in
theorem g_X3_add_L48 (F : Nat) (a18 : Nat) (o19 : Option Nat) (x20 : Int32) (x21 : Int32) (x22 : Int32) (k130 : z_Hp → Option (Int32 × z_Hp)) (qk130 : ∀ (h26 : z_Hp), z_G zi mi_X3_add 130 [(0, vr (some a18)), (2, vi x20), (3, vi x21)] [] h26 (k130 h26)) : ∀ (n : Nat) (x23 : Int32) (x24 : Int32) (h25 : z_Hp), z_G zi mi_X3_add 48 [(0, vr (some a18)), (1, vr o19), (2, vi x20), (3, vi x21), (4, vi x22), (5, vi x23), (6, vi x24)] [] h25 (c_X3_add_L48 F a18 o19 x20 x21 x22 k130 n x23 x24 h25) := by
  intro n
  induction n with
  | zero => intro x23 x24 h25; rw [c_X3_add_L48]; exact z_none
  | succ n ih =>
    intro x23 x24 h25
    rw [c_X3_add_L48]
    refine z_iload (pc := 48) dX3_add_48 6 rfl (z_aload_n (pc := 50) dX3_add_50 rfl 1 rfl (?_))
    refine z_nn (fun a27 ea27 => ?_)
    subst ea27
    refine z_alen (pc := 51) dX3_add_51 (?_)
    refine z_icmp_ge (pc := 52) (tgt := 130) dX3_add_52 (by decide) ?_ ?_
    · exact z_sub [0, 2, 3] rfl (qk130 h25)
    · refine z_aload_n (pc := 55) dX3_add_55 rfl 1 rfl (z_iload (pc := 56) dX3_add_56 6 rfl (z_baload (pc := 58) dX3_add_58 (z_callS_I (pc := 59) (avs := [vi (hI h25 a27 (ix x24))]) (st := []) rfl (t_X3_letterOf F (hI h25 a27 (ix x24)) h25) ky_X3_letterOf ws_X3_letterOf wz_RX3_28 (rm_X3_add_X3_letterOf) (Nat.le_of_ble_eq_true rfl) dX3_add_59 (fun x29 h28 => (?_)))))
      refine z_istore (pc := 62) (L' := [(0, vr (some a18)), (1, vr (some a27)), (2, vi x20), (3, vi x21), (4, vi x22), (5, vi x23), (6, vi x24), (7, vi x29)]) dX3_add_62 (Nat.le_of_ble_eq_true rfl) rfl (z_iload (pc := 64) dX3_add_64 7 rfl (z_bipush (pc := 66) dX3_add_66 bp_m9 (?_)))
      refine z_jn (P := fun (j : Int32 → z_Hp → Option (Int32 × z_Hp)) => ∀ (x31 : Int32) (h32 : z_Hp), z_G zi mi_X3_add 124 [(0, vr (some a18)), (1, vr (some a27)), (2, vi x20), (3, vi x21), (4, vi x22), (5, vi x31), (6, vi x24)] [] h32 (j x31 h32)) (fun x31 h32 => ?_) (fun j124_30 qj124_30 => ?_)
      · refine z_iincl (pc := 124) (L' := fun x33 => [(0, vr (some a18)), (1, vr (some a27)), (2, vi x20), (3, vi x21), (4, vi x22), (5, vi x31), (6, vi x33)]) dX3_add_124 6 rfl ic_1 (Nat.le_of_ble_eq_true rfl) (fun _ => rfl) (fun x33 => (z_goto (pc := 127) (tgt := 48) dX3_add_127 (by decide) (?_)))
        exact ih x31 x33 h32
      refine z_icmp_eq (pc := 68) (tgt := 89) dX3_add_68 (by decide) ?_ ?_
      · refine z_aload_n (pc := 89) dX3_add_89 rfl 1 rfl (z_iload (pc := 90) dX3_add_90 6 rfl (z_baload (pc := 92) dX3_add_92 (z_callS_I (pc := 93) (avs := [vi (hI h28 a27 (ix x24))]) (st := []) rfl (t_X3_isDigit F (hI h28 a27 (ix x24)) h28) ky_X3_isDigit ws_X3_isDigit wz_RX3_24 (rm_X3_add_X3_isDigit) (Nat.le_of_ble_eq_true rfl) dX3_add_93 (fun x35 h34 => (?_)))))
        refine z_if_eq (pc := 96) (tgt := 124) dX3_add_96 (by decide) ?_ ?_
        · exact z_sub [0, 1, 2, 3, 4, 5, 6] rfl (qj124_30 x23 h34)
        · refine z_aload_n (pc := 99) dX3_add_99 rfl 0 rfl (z_getRl (pc := 100) fl_RX3_21 rfl dX3_add_100 (fun o36 => (z_iload (pc := 103) dX3_add_103 5 rfl (z_aload_n (pc := 105) dX3_add_105 rfl 0 rfl (z_getRl (pc := 106) fl_RX3_21 rfl dX3_add_106 (fun o37 => (z_iload (pc := 109) dX3_add_109 5 rfl (?_))))))))
          refine z_nn (fun a38 ea38 => ?_)
          subst ea38
          refine z_iaload (pc := 111) dX3_add_111 (z_bipush (pc := 112) dX3_add_112 bp_10 (z_imul (pc := 114) dX3_add_114 (z_aload_n (pc := 115) dX3_add_115 rfl 1 rfl (z_iload (pc := 116) dX3_add_116 6 rfl (z_baload (pc := 118) dX3_add_118 (z_bipush (pc := 119) dX3_add_119 bp_48 (z_isub (pc := 121) dX3_add_121 (?_))))))))
          refine z_iadd (pc := 122) dX3_add_122 (?_)
          refine z_nn (fun a39 ea39 => ?_)
          subst ea39
          refine z_iastorel (pc := 123) dX3_add_123 (fun h40 => (?_))
          exact z_sub [0, 1, 2, 3, 4, 5, 6] rfl (qj124_30 x23 h40)
      · refine z_iload (pc := 71) dX3_add_71 4 rfl (z_iload (pc := 73) dX3_add_73 7 rfl (z_iadd (pc := 75) dX3_add_75 (z_istorel (pc := 76) (L' := fun x41 => [(0, vr (some a18)), (1, vr (some a27)), (2, vi x20), (3, vi x21), (4, vi x22), (5, vi x41), (6, vi x24), (7, vi x29)]) dX3_add_76 (Nat.le_of_ble_eq_true rfl) (fun _ => rfl) (fun x41 => (z_aload_n (pc := 78) dX3_add_78 rfl 0 rfl (z_getRl (pc := 79) fl_RX3_21 rfl dX3_add_79 (fun o42 => (z_iload (pc := 82) dX3_add_82 5 rfl (z_iconst (pc := 84) dX3_add_84 ic_0 (?_))))))))))
        refine z_nn (fun a43 ea43 => ?_)
        subst ea43
        refine z_iastorel (pc := 85) dX3_add_85 (fun h44 => (z_goto (pc := 86) (tgt := 124) dX3_add_86 (by decide) (?_)))
        exact z_sub [0, 1, 2, 3, 4, 5, 6] rfl (qj124_30 x41 h44)
set_option maxRecDepth 20000 in
set_option maxHeartbeats 4000000 in
theorem t_X3_add (F : Nat) (a0 : Nat) (o1 : Option Nat) (x2 : Int32) (x3 : Int32) (h0 : z_Hp) : z_Ct zi mi_X3_add [vr (some a0), vr o1, vi x2, vi x3] h0 (c_X3_add F a0 o1 x2 x3 h0) := by
  refine z_entry (by decide) (Nat.le_of_ble_eq_true rfl) [(0, vr (some a0)), (1, vr o1), (2, vi x2), (3, vi x3)] rfl ?_
  unfold c_X3_add
  refine z_aload_n (pc := 0) dX3_add_0 rfl 0 rfl (z_getI (pc := 1) fl_RX3_32 rfl dX3_add_1 (z_getsN (pc := 4) (k := 2) (by decide) (by decide +kernel) dX3_add_4 (z_alen (pc := 7) dX3_add_7 (z_imul (pc := 8) dX3_add_8 (z_istorel (pc := 9) (L' := fun x4 => [(0, vr (some a0)), (1, vr o1), (2, vi x2), (3, vi x3), (4, vi x4)]) dX3_add_9 (Nat.le_of_ble_eq_true rfl) (fun _ => rfl) (fun x4 => (z_iconst (pc := 11) dX3_add_11 ic_0 (z_istore (pc := 12) (L' := [(0, vr (some a0)), (1, vr o1), (2, vi x2), (3, vi x3), (4, vi x4), (5, vi 0)]) dX3_add_12 (Nat.le_of_ble_eq_true rfl) rfl (?_)))))))))
  refine g_X3_add_L14 F a0 o1 x2 x3 x4 _ (fun h17 => ?_) F 0 h0
  refine z_iload (pc := 41) dX3_add_41 4 rfl (z_istore (pc := 43) (L' := [(0, vr (some a0)), (1, vr o1), (2, vi x2), (3, vi x3), (4, vi x4), (5, vi x4)]) dX3_add_43 (Nat.le_of_ble_eq_true rfl) rfl (z_iconst (pc := 45) dX3_add_45 ic_0 (z_istore (pc := 46) (L' := [(0, vr (some a0)), (1, vr o1), (2, vi x2), (3, vi x3), (4, vi x4), (5, vi x4), (6, vi 0)]) dX3_add_46 (Nat.le_of_ble_eq_true rfl) rfl (?_))))
  refine g_X3_add_L48 F a0 o1 x2 x3 x4 _ (fun h45 => ?_) F x4 0 h17
  refine z_aload_n (pc := 130) dX3_add_130 rfl 0 rfl (z_getRl (pc := 131) fl_RX3_9 rfl dX3_add_131 (fun o46 => (z_aload_n (pc := 134) dX3_add_134 rfl 0 rfl (z_getI (pc := 135) fl_RX3_32 rfl dX3_add_135 (z_iload_n (pc := 138) dX3_add_138 rfl 1 rfl (?_))))))
  refine z_nn (fun a47 ea47 => ?_)
  subst ea47
  refine z_iastorel (pc := 139) dX3_add_139 (fun h48 => (z_aload_n (pc := 140) dX3_add_140 rfl 0 rfl (z_getRl (pc := 141) fl_RX3_15 rfl dX3_add_141 (fun o49 => (z_aload_n (pc := 144) dX3_add_144 rfl 0 rfl (z_getI (pc := 145) fl_RX3_32 rfl dX3_add_145 (z_iload_n (pc := 148) dX3_add_148 rfl 2 rfl (?_))))))))
  refine z_nn (fun a50 ea50 => ?_)
  subst ea50
  refine z_iastorel (pc := 149) dX3_add_149 (fun h51 => (z_aload_n (pc := 150) dX3_add_150 rfl 0 rfl (z_dup (pc := 151) dX3_add_151 rfl (z_getI (pc := 152) fl_RX3_32 rfl dX3_add_152 (z_dup_x1 (pc := 155) dX3_add_155 rfl rfl (z_iconst (pc := 156) dX3_add_156 ic_1 (z_iadd (pc := 157) dX3_add_157 (z_putIl (pc := 158) fl_RX3_32 (fin_X_3_3 _) rfl dX3_add_158 (fun h52 => (?_))))))))))
  exact z_iret (pc := 161) dX3_add_161 rfl rfl
