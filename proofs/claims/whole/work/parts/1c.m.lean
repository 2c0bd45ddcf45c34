theorem dX7_isVowel_0 : decode cX7_isVowel 0 = .ok (.iload_n 0, 1) := by decide +kernel
theorem dX7_isVowel_1 : decode cX7_isVowel 1 = .ok (.bipush 97, 2) := by decide +kernel
theorem dX7_isVowel_3 : decode cX7_isVowel 3 = .ok (.if_icmp .eq 33, 3) := by decide +kernel
theorem dX7_isVowel_6 : decode cX7_isVowel 6 = .ok (.iload_n 0, 1) := by decide +kernel
theorem dX7_isVowel_7 : decode cX7_isVowel 7 = .ok (.bipush 101, 2) := by decide +kernel
theorem dX7_isVowel_9 : decode cX7_isVowel 9 = .ok (.if_icmp .eq 27, 3) := by decide +kernel
theorem dX7_isVowel_12 : decode cX7_isVowel 12 = .ok (.iload_n 0, 1) := by decide +kernel
theorem dX7_isVowel_13 : decode cX7_isVowel 13 = .ok (.bipush 105, 2) := by decide +kernel
theorem dX7_isVowel_15 : decode cX7_isVowel 15 = .ok (.if_icmp .eq 21, 3) := by decide +kernel
theorem dX7_isVowel_18 : decode cX7_isVowel 18 = .ok (.iload_n 0, 1) := by decide +kernel
theorem dX7_isVowel_19 : decode cX7_isVowel 19 = .ok (.bipush 111, 2) := by decide +kernel
theorem dX7_isVowel_21 : decode cX7_isVowel 21 = .ok (.if_icmp .eq 15, 3) := by decide +kernel
theorem dX7_isVowel_24 : decode cX7_isVowel 24 = .ok (.iload_n 0, 1) := by decide +kernel
theorem dX7_isVowel_25 : decode cX7_isVowel 25 = .ok (.bipush 117, 2) := by decide +kernel
theorem dX7_isVowel_27 : decode cX7_isVowel 27 = .ok (.if_icmp .eq 9, 3) := by decide +kernel
theorem dX7_isVowel_30 : decode cX7_isVowel 30 = .ok (.iload_n 0, 1) := by decide +kernel
theorem dX7_isVowel_31 : decode cX7_isVowel 31 = .ok (.bipush 121, 2) := by decide +kernel
theorem dX7_isVowel_33 : decode cX7_isVowel 33 = .ok (.if_icmp .ne 7, 3) := by decide +kernel
theorem dX7_isVowel_36 : decode cX7_isVowel 36 = .ok (.iconst 1, 1) := by decide +kernel
theorem dX7_isVowel_37 : decode cX7_isVowel 37 = .ok (.goto 4, 3) := by decide +kernel
theorem dX7_isVowel_40 : decode cX7_isVowel 40 = .ok (.iconst 0, 1) := by decide +kernel
theorem dX7_isVowel_41 : decode cX7_isVowel 41 = .ok (.ireturn, 1) := by decide +kernel
def c_X7_isVowel (F : Nat) (x1 : Int32) (h0 : z_Hp) : Option (Int32 × z_Hp) := (if x1 = 97 then (some (1, h0)) else (if x1 = 101 then (some (1, h0)) else (if x1 = 105 then (some (1, h0)) else (if x1 = 111 then (some (1, h0)) else (if x1 = 117 then (some (1, h0)) else (if x1 = 121 then (some (1, h0)) else (some (0, h0))))))))
set_option maxRecDepth 20000 in
set_option maxHeartbeats 4000000 in
theorem t_X7_isVowel (F : Nat) (x1 : Int32) (h0 : z_Hp) : z_Ct zi mi_X7_isVowel [vi x1] h0 (c_X7_isVowel F x1 h0) := by
  refine z_entry (by decide) (Nat.le_of_ble_eq_true rfl) [(0, vi x1)] rfl ?_
  unfold c_X7_isVowel
  refine z_iload_n (pc := 0) dX7_isVowel_0 rfl 0 rfl (z_bipush (pc := 1) dX7_isVowel_1 bp_97 (?_))
  refine z_icmp_eq (pc := 3) (tgt := 36) dX7_isVowel_3 (by decide) ?_ ?_
  · refine z_iconst (pc := 36) dX7_isVowel_36 ic_1 (z_goto (pc := 37) (tgt := 41) dX7_isVowel_37 (by decide) (?_))
    exact z_iret (pc := 41) dX7_isVowel_41 rfl rfl
  · refine z_iload_n (pc := 6) dX7_isVowel_6 rfl 0 rfl (z_bipush (pc := 7) dX7_isVowel_7 bp_101 (?_))
    refine z_icmp_eq (pc := 9) (tgt := 36) dX7_isVowel_9 (by decide) ?_ ?_
    · refine z_iconst (pc := 36) dX7_isVowel_36 ic_1 (z_goto (pc := 37) (tgt := 41) dX7_isVowel_37 (by decide) (?_))
      exact z_iret (pc := 41) dX7_isVowel_41 rfl rfl
    · refine z_iload_n (pc := 12) dX7_isVowel_12 rfl 0 rfl (z_bipush (pc := 13) dX7_isVowel_13 bp_105 (?_))
      refine z_icmp_eq (pc := 15) (tgt := 36) dX7_isVowel_15 (by decide) ?_ ?_
      · refine z_iconst (pc := 36) dX7_isVowel_36 ic_1 (z_goto (pc := 37) (tgt := 41) dX7_isVowel_37 (by decide) (?_))
        exact z_iret (pc := 41) dX7_isVowel_41 rfl rfl
      · refine z_iload_n (pc := 18) dX7_isVowel_18 rfl 0 rfl (z_bipush (pc := 19) dX7_isVowel_19 bp_111 (?_))
        refine z_icmp_eq (pc := 21) (tgt := 36) dX7_isVowel_21 (by decide) ?_ ?_
        · refine z_iconst (pc := 36) dX7_isVowel_36 ic_1 (z_goto (pc := 37) (tgt := 41) dX7_isVowel_37 (by decide) (?_))
          exact z_iret (pc := 41) dX7_isVowel_41 rfl rfl
        · refine z_iload_n (pc := 24) dX7_isVowel_24 rfl 0 rfl (z_bipush (pc := 25) dX7_isVowel_25 bp_117 (?_))
          refine z_icmp_eq (pc := 27) (tgt := 36) dX7_isVowel_27 (by decide) ?_ ?_
          · refine z_iconst (pc := 36) dX7_isVowel_36 ic_1 (z_goto (pc := 37) (tgt := 41) dX7_isVowel_37 (by decide) (?_))
            exact z_iret (pc := 41) dX7_isVowel_41 rfl rfl
          · refine z_iload_n (pc := 30) dX7_isVowel_30 rfl 0 rfl (z_bipush (pc := 31) dX7_isVowel_31 bp_121 (?_))
            refine z_icmp_ne (pc := 33) (tgt := 40) dX7_isVowel_33 (by decide) ?_ ?_
            · refine z_iconst (pc := 40) dX7_isVowel_40 ic_0 (?_)
              exact z_iret (pc := 41) dX7_isVowel_41 rfl rfl
            · refine z_iconst (pc := 36) dX7_isVowel_36 ic_1 (z_goto (pc := 37) (tgt := 41) dX7_isVowel_37 (by decide) (?_))
              exact z_iret (pc := 41) dX7_isVowel_41 rfl rfl
theorem dX7_hasLine_0 : decode cX7_hasLine 0 = .ok (.iload_n 1, 1) := by decide +kernel
theorem dX7_hasLine_1 : decode cX7_hasLine 1 = .ok (.ifCond .lt 15, 3) := by decide +kernel
theorem dX7_hasLine_4 : decode cX7_hasLine 4 = .ok (.iload_n 1, 1) := by decide +kernel
theorem dX7_hasLine_5 : decode cX7_hasLine 5 = .ok (.aload_n 0, 1) := by decide +kernel
theorem dX7_hasLine_6 : decode cX7_hasLine 6 = .ok (.getfield 21, 3) := by decide +kernel
theorem dX7_hasLine_9 : decode cX7_hasLine 9 = .ok (.if_icmp .ge 7, 3) := by decide +kernel
theorem dX7_hasLine_12 : decode cX7_hasLine 12 = .ok (.iconst 1, 1) := by decide +kernel
theorem dX7_hasLine_13 : decode cX7_hasLine 13 = .ok (.goto 4, 3) := by decide +kernel
theorem dX7_hasLine_16 : decode cX7_hasLine 16 = .ok (.iconst 0, 1) := by decide +kernel
theorem dX7_hasLine_17 : decode cX7_hasLine 17 = .ok (.ireturn, 1) := by decide +kernel
def c_X7_hasLine (F : Nat) (a0 : Nat) (x1 : Int32) (h0 : z_Hp) : Option (Int32 × z_Hp) := (if x1 < 0 then (some (0, h0)) else (if hT h0 a0 = 7 then (if (hI h0 a0 1) ≤ x1 then (some (0, h0)) else (some (1, h0))) else none))
set_option maxRecDepth 20000 in
set_option maxHeartbeats 4000000 in
theorem t_X7_hasLine (F : Nat) (a0 : Nat) (x1 : Int32) (h0 : z_Hp) : z_Ct zi mi_X7_hasLine [vr (some a0), vi x1] h0 (c_X7_hasLine F a0 x1 h0) := by
  refine z_entry (by decide) (Nat.le_of_ble_eq_true rfl) [(0, vr (some a0)), (1, vi x1)] rfl ?_
  unfold c_X7_hasLine
  refine z_iload_n (pc := 0) dX7_hasLine_0 rfl 1 rfl (?_)
  refine z_if_lt (pc := 1) (tgt := 16) dX7_hasLine_1 (by decide) ?_ ?_
  · refine z_iconst (pc := 16) dX7_hasLine_16 ic_0 (?_)
    exact z_iret (pc := 17) dX7_hasLine_17 rfl rfl
  · refine z_iload_n (pc := 4) dX7_hasLine_4 rfl 1 rfl (z_aload_n (pc := 5) dX7_hasLine_5 rfl 0 rfl (z_getI (pc := 6) fl_RX7_21 rfl dX7_hasLine_6 (?_)))
    refine z_icmp_ge (pc := 9) (tgt := 16) dX7_hasLine_9 (by decide) ?_ ?_
    · refine z_iconst (pc := 16) dX7_hasLine_16 ic_0 (?_)
      exact z_iret (pc := 17) dX7_hasLine_17 rfl rfl
    · refine z_iconst (pc := 12) dX7_hasLine_12 ic_1 (z_goto (pc := 13) (tgt := 17) dX7_hasLine_13 (by decide) (?_))
      exact z_iret (pc := 17) dX7_hasLine_17 rfl rfl
theorem dX7_words_0 : decode cX7_words 0 = .ok (.aload_n 0, 1) := by decide +kernel
theorem dX7_words_1 : decode cX7_words 1 = .ok (.getfield 36, 3) := by decide +kernel
theorem dX7_words_4 : decode cX7_words 4 = .ok (.aload_n 0, 1) := by decide +kernel
theorem dX7_words_5 : decode cX7_words 5 = .ok (.getfield 21, 3) := by decide +kernel
theorem dX7_words_8 : decode cX7_words 8 = .ok (.iconst 1, 1) := by decide +kernel
theorem dX7_words_9 : decode cX7_words 9 = .ok (.isub, 1) := by decide +kernel
theorem dX7_words_10 : decode cX7_words 10 = .ok (.isub, 1) := by decide +kernel
theorem dX7_words_11 : decode cX7_words 11 = .ok (.ireturn, 1) := by decide +kernel
def c_X7_words (F : Nat) (a0 : Nat) (h0 : z_Hp) : Option (Int32 × z_Hp) := (if hT h0 a0 = 7 then (if hT h0 a0 = 7 then (some ((hI h0 a0 4) - ((hI h0 a0 1) - 1), h0)) else none) else none)
set_option maxRecDepth 20000 in
set_option maxHeartbeats 4000000 in
theorem t_X7_words (F : Nat) (a0 : Nat) (h0 : z_Hp) : z_Ct zi mi_X7_words [vr (some a0)] h0 (c_X7_words F a0 h0) := by
  refine z_entry (by decide) (Nat.le_of_ble_eq_true rfl) [(0, vr (some a0))] rfl ?_
  unfold c_X7_words
  refine z_aload_n (pc := 0) dX7_words_0 rfl 0 rfl (z_getI (pc := 1) fl_RX7_36 rfl dX7_words_1 (z_aload_n (pc := 4) dX7_words_4 rfl 0 rfl (z_getI (pc := 5) fl_RX7_21 rfl dX7_words_5 (z_iconst (pc := 8) dX7_words_8 ic_1 (z_isub (pc := 9) dX7_words_9 (z_isub (pc := 10) dX7_words_10 (?_)))))))
  exact z_iret (pc := 11) dX7_words_11 rfl rfl
theorem dX7_letters_0 : decode cX7_letters 0 = .ok (.iconst 0, 1) := by decide +kernel
theorem dX7_letters_1 : decode cX7_letters 1 = .ok (.istore_n 1, 1) := by decide +kernel
theorem dX7_letters_2 : decode cX7_letters 2 = .ok (.iconst 0, 1) := by decide +kernel
theorem dX7_letters_3 : decode cX7_letters 3 = .ok (.istore_n 2, 1) := by decide +kernel
theorem dX7_letters_4 : decode cX7_letters 4 = .ok (.iload_n 2, 1) := by decide +kernel
theorem dX7_letters_5 : decode cX7_letters 5 = .ok (.aload_n 0, 1) := by decide +kernel
theorem dX7_letters_6 : decode cX7_letters 6 = .ok (.getfield 15, 3) := by decide +kernel
theorem dX7_letters_9 : decode cX7_letters 9 = .ok (.arraylength, 1) := by decide +kernel
theorem dX7_letters_10 : decode cX7_letters 10 = .ok (.if_icmp .ge 24, 3) := by decide +kernel
theorem dX7_letters_13 : decode cX7_letters 13 = .ok (.aload_n 0, 1) := by decide +kernel
theorem dX7_letters_14 : decode cX7_letters 14 = .ok (.getfield 15, 3) := by decide +kernel
theorem dX7_letters_17 : decode cX7_letters 17 = .ok (.iload_n 2, 1) := by decide +kernel
theorem dX7_letters_18 : decode cX7_letters 18 = .ok (.baload, 1) := by decide +kernel
theorem dX7_letters_19 : decode cX7_letters 19 = .ok (.invokestatic 32, 3) := by decide +kernel
theorem dX7_letters_22 : decode cX7_letters 22 = .ok (.ifCond .eq 6, 3) := by decide +kernel
theorem dX7_letters_25 : decode cX7_letters 25 = .ok (.iinc 1 1, 3) := by decide +kernel
theorem dX7_letters_28 : decode cX7_letters 28 = .ok (.iinc 2 1, 3) := by decide +kernel
theorem dX7_letters_31 : decode cX7_letters 31 = .ok (.goto (-27), 3) := by decide +kernel
theorem dX7_letters_34 : decode cX7_letters 34 = .ok (.iload_n 1, 1) := by decide +kernel
theorem dX7_letters_35 : decode cX7_letters 35 = .ok (.ireturn, 1) := by decide +kernel
def c_X7_letters_L4 (F : Nat) (a1 : Nat) : Nat → Int32 → Int32 → z_Hp → Option (Int32 × z_Hp)
  | 0, _, _, _ => none
  | n + 1, x2, x3, h4 => (if hT h4 a1 = 7 then (lt_ (hR h4 a1 0) (fun o5 => (nn o5 (fun a6 => (if okL h4 a6 = true then (if (nI (hN h4 a6)) ≤ x3 then (some (x2, h4)) else (if hT h4 a1 = 7 then (lt_ (hR h4 a1 0) (fun o7 => (nn o7 (fun a8 => (if okA h4 a8 21 x3 = true then (bI (c_X7_isLetter F (hI h4 a8 (ix x3)) h4) (fun x10 h9 => (lt_ (fun (x12 : Int32) (h13 : z_Hp) => (lt_ (x3 + 1) (fun x14 => (c_X7_letters_L4 F a1 n x12 x14 h13)))) (fun (j28_11 : Int32 → z_Hp → Option (Int32 × z_Hp)) => (if x10 = 0 then (j28_11 x2 h9) else (lt_ (x2 + 1) (fun x15 => (j28_11 x15 h9)))))))) else none))))) else none)) else none))))) else none)
def c_X7_letters (F : Nat) (a0 : Nat) (h0 : z_Hp) : Option (Int32 × z_Hp) := (c_X7_letters_L4 F a0 F 0 0 h0)
set_option maxRecDepth 20000 in
set_option maxHeartbeats 4000000 in
theorem g_X7_letters_L4 (F : Nat) (a1 : Nat) : ∀ (n : Nat) (x2 : Int32) (x3 : Int32) (h4 : z_Hp), z_G zi mi_X7_letters 4 [(0, vr (some a1)), (1, vi x2), (2, vi x3)] [] h4 (c_X7_letters_L4 F a1 n x2 x3 h4) := by
  intro n
  induction n with
  | zero => intro x2 x3 h4; rw [c_X7_letters_L4]; exact z_none
  | succ n ih =>
    intro x2 x3 h4
    rw [c_X7_letters_L4]
    refine z_iload_n (pc := 4) dX7_letters_4 rfl 2 rfl (z_aload_n (pc := 5) dX7_letters_5 rfl 0 rfl (z_getRl (pc := 6) fl_RX7_15 rfl dX7_letters_6 (fun o5 => (?_))))
    refine z_nn (fun a6 ea6 => ?_)
    subst ea6
    refine z_alen (pc := 9) dX7_letters_9 (?_)
    refine z_icmp_ge (pc := 10) (tgt := 34) dX7_letters_10 (by decide) ?_ ?_
    · refine z_iload_n (pc := 34) dX7_letters_34 rfl 1 rfl (?_)
      exact z_iret (pc := 35) dX7_letters_35 rfl rfl
    · refine z_aload_n (pc := 13) dX7_letters_13 rfl 0 rfl (z_getRl (pc := 14) fl_RX7_15 rfl dX7_letters_14 (fun o7 => (z_iload_n (pc := 17) dX7_letters_17 rfl 2 rfl (?_))))
      refine z_nn (fun a8 ea8 => ?_)
      subst ea8
      refine z_baload (pc := 18) dX7_letters_18 (z_callS_I (pc := 19) (avs := [vi (hI h4 a8 (ix x3))]) (st := []) rfl (t_X7_isLetter F (hI h4 a8 (ix x3)) h4) ky_X7_isLetter ws_X7_isLetter wz_RX7_32 (rm_X7_letters_X7_isLetter) (Nat.le_of_ble_eq_true rfl) dX7_letters_19 (fun x10 h9 => (?_)))
      refine z_jn (P := fun (j : Int32 → z_Hp → Option (Int32 × z_Hp)) => ∀ (x12 : Int32) (h13 : z_Hp), z_G zi mi_X7_letters 28 [(0, vr (some a1)), (1, vi x12), (2, vi x3)] [] h13 (j x12 h13)) (fun x12 h13 => ?_) (fun j28_11 qj28_11 => ?_)
      · refine z_iincl (pc := 28) (L' := fun x14 => [(0, vr (some a1)), (1, vi x12), (2, vi x14)]) dX7_letters_28 2 rfl ic_1 (Nat.le_of_ble_eq_true rfl) (fun _ => rfl) (fun x14 => (z_goto (pc := 31) (tgt := 4) dX7_letters_31 (by decide) (?_)))
        exact ih x12 x14 h13
      refine z_if_eq (pc := 22) (tgt := 28) dX7_letters_22 (by decide) ?_ ?_
      · exact qj28_11 x2 h9
      · refine z_iincl (pc := 25) (L' := fun x15 => [(0, vr (some a1)), (1, vi x15), (2, vi x3)]) dX7_letters_25 1 rfl ic_1 (Nat.le_of_ble_eq_true rfl) (fun _ => rfl) (fun x15 => (?_))
        exact qj28_11 x15 h9
set_option maxRecDepth 20000 in
set_option maxHeartbeats 4000000 in
theorem t_X7_letters (F : Nat) (a0 : Nat) (h0 : z_Hp) : z_Ct zi mi_X7_letters [vr (some a0)] h0 (c_X7_letters F a0 h0) := by
  refine z_entry (by decide) (Nat.le_of_ble_eq_true rfl) [(0, vr (some a0))] rfl ?_
  unfold c_X7_letters
  refine z_iconst (pc := 0) dX7_letters_0 ic_0 (z_istore_n (pc := 1) (L' := [(0, vr (some a0)), (1, vi 0)]) dX7_letters_1 rfl (Nat.le_of_ble_eq_true rfl) rfl (z_iconst (pc := 2) dX7_letters_2 ic_0 (z_istore_n (pc := 3) (L' := [(0, vr (some a0)), (1, vi 0), (2, vi 0)]) dX7_letters_3 rfl (Nat.le_of_ble_eq_true rfl) rfl (?_))))
  refine g_X7_letters_L4 F a0 F 0 0 h0
theorem dX7_beats_0 : decode cX7_beats 0 = .ok (.iconst 0, 1) := by decide +kernel
theorem dX7_beats_1 : decode cX7_beats 1 = .ok (.istore_n 2, 1) := by decide +kernel
theorem dX7_beats_2 : decode cX7_beats 2 = .ok (.iconst 0, 1) := by decide +kernel
theorem dX7_beats_3 : decode cX7_beats 3 = .ok (.istore_n 3, 1) := by decide +kernel
theorem dX7_beats_4 : decode cX7_beats 4 = .ok (.iconst 0, 1) := by decide +kernel
theorem dX7_beats_5 : decode cX7_beats 5 = .ok (.istore 4, 2) := by decide +kernel
theorem dX7_beats_7 : decode cX7_beats 7 = .ok (.iconst 0, 1) := by decide +kernel
theorem dX7_beats_8 : decode cX7_beats 8 = .ok (.istore 5, 2) := by decide +kernel
theorem dX7_beats_10 : decode cX7_beats 10 = .ok (.iload 5, 2) := by decide +kernel
theorem dX7_beats_12 : decode cX7_beats 12 = .ok (.aload_n 0, 1) := by decide +kernel
theorem dX7_beats_13 : decode cX7_beats 13 = .ok (.getfield 15, 3) := by decide +kernel
theorem dX7_beats_16 : decode cX7_beats 16 = .ok (.arraylength, 1) := by decide +kernel
theorem dX7_beats_17 : decode cX7_beats 17 = .ok (.if_icmp .ge 63, 3) := by decide +kernel
theorem dX7_beats_20 : decode cX7_beats 20 = .ok (.iload_n 2, 1) := by decide +kernel
theorem dX7_beats_21 : decode cX7_beats 21 = .ok (.iload_n 1, 1) := by decide +kernel
theorem dX7_beats_22 : decode cX7_beats 22 = .ok (.if_icmp .gt 58, 3) := by decide +kernel
theorem dX7_beats_25 : decode cX7_beats 25 = .ok (.aload_n 0, 1) := by decide +kernel
theorem dX7_beats_26 : decode cX7_beats 26 = .ok (.getfield 15, 3) := by decide +kernel
theorem dX7_beats_29 : decode cX7_beats 29 = .ok (.iload 5, 2) := by decide +kernel
theorem dX7_beats_31 : decode cX7_beats 31 = .ok (.baload, 1) := by decide +kernel
theorem dX7_beats_32 : decode cX7_beats 32 = .ok (.invokestatic 39, 3) := by decide +kernel
theorem dX7_beats_35 : decode cX7_beats 35 = .ok (.istore 6, 2) := by decide +kernel
theorem dX7_beats_37 : decode cX7_beats 37 = .ok (.iload 6, 2) := by decide +kernel
theorem dX7_beats_39 : decode cX7_beats 39 = .ok (.ifCond .eq 16, 3) := by decide +kernel
theorem dX7_beats_42 : decode cX7_beats 42 = .ok (.iload 4, 2) := by decide +kernel
theorem dX7_beats_44 : decode cX7_beats 44 = .ok (.ifCond .ne 11, 3) := by decide +kernel
theorem dX7_beats_47 : decode cX7_beats 47 = .ok (.iload_n 2, 1) := by decide +kernel
theorem dX7_beats_48 : decode cX7_beats 48 = .ok (.iload_n 1, 1) := by decide +kernel
theorem dX7_beats_49 : decode cX7_beats 49 = .ok (.if_icmp .ne 6, 3) := by decide +kernel
theorem dX7_beats_52 : decode cX7_beats 52 = .ok (.iinc 3 1, 3) := by decide +kernel
theorem dX7_beats_55 : decode cX7_beats 55 = .ok (.aload_n 0, 1) := by decide +kernel
theorem dX7_beats_56 : decode cX7_beats 56 = .ok (.getfield 15, 3) := by decide +kernel
theorem dX7_beats_59 : decode cX7_beats 59 = .ok (.iload 5, 2) := by decide +kernel
theorem dX7_beats_61 : decode cX7_beats 61 = .ok (.baload, 1) := by decide +kernel
theorem dX7_beats_62 : decode cX7_beats 62 = .ok (.bipush 47, 2) := by decide +kernel
theorem dX7_beats_64 : decode cX7_beats 64 = .ok (.if_icmp .ne 6, 3) := by decide +kernel
theorem dX7_beats_67 : decode cX7_beats 67 = .ok (.iinc 2 1, 3) := by decide +kernel
theorem dX7_beats_70 : decode cX7_beats 70 = .ok (.iload 6, 2) := by decide +kernel
theorem dX7_beats_72 : decode cX7_beats 72 = .ok (.istore 4, 2) := by decide +kernel
theorem dX7_beats_74 : decode cX7_beats 74 = .ok (.iinc 5 1, 3) := by decide +kernel
theorem dX7_beats_77 : decode cX7_beats 77 = .ok (.goto (-67), 3) := by decide +kernel
theorem dX7_beats_80 : decode cX7_beats 80 = .ok (.iload_n 3, 1) := by decide +kernel
theorem dX7_beats_81 : decode cX7_beats 81 = .ok (.ireturn, 1) := by decide +kernel
def c_X7_beats_L10 (F : Nat) (a2 : Nat) (x3 : Int32) : Nat → Int32 → Int32 → Int32 → Int32 → z_Hp → Option (Int32 × z_Hp)
  | 0, _, _, _, _, _ => none
  | n + 1, x4, x5, x6, x7, h8 => (if hT h8 a2 = 7 then (lt_ (hR h8 a2 0) (fun o9 => (nn o9 (fun a10 => (if okL h8 a10 = true then (if (nI (hN h8 a10)) ≤ x7 then (some (x5, h8)) else (if x3 < x4 then (some (x5, h8)) else (if hT h8 a2 = 7 then (lt_ (hR h8 a2 0) (fun o11 => (nn o11 (fun a12 => (if okA h8 a12 21 x7 = true then (bI (c_X7_isVowel F (hI h8 a12 (ix x7)) h8) (fun x14 h13 => (lt_ (fun (x16 : Int32) (h17 : z_Hp) => (if hT h17 a2 = 7 then (lt_ (hR h17 a2 0) (fun o18 => (nn o18 (fun a19 => (if okA h17 a19 21 x7 = true then (lt_ (fun (x21 : Int32) (h22 : z_Hp) => (lt_ (x7 + 1) (fun x23 => (c_X7_beats_L10 F a2 x3 n x21 x16 x14 x23 h22)))) (fun (j70_20 : Int32 → z_Hp → Option (Int32 × z_Hp)) => (if (hI h17 a19 (ix x7)) = 47 then (lt_ (x4 + 1) (fun x24 => (j70_20 x24 h17))) else (j70_20 x4 h17)))) else none))))) else none)) (fun (j55_15 : Int32 → z_Hp → Option (Int32 × z_Hp)) => (if x14 = 0 then (j55_15 x5 h13) else (if x6 = 0 then (if x4 = x3 then (lt_ (x5 + 1) (fun x25 => (j55_15 x25 h13))) else (j55_15 x5 h13)) else (j55_15 x5 h13))))))) else none))))) else none))) else none))))) else none)
def c_X7_beats (F : Nat) (a0 : Nat) (x1 : Int32) (h0 : z_Hp) : Option (Int32 × z_Hp) := (c_X7_beats_L10 F a0 x1 F 0 0 0 0 h0)
set_option maxRecDepth 20000 in
set_option maxHeartbeats 4000000 in
theorem g_X7_beats_L10 (F : Nat) (a2 : Nat) (x3 : Int32) : ∀ (n : Nat) (x4 : Int32) (x5 : Int32) (x6 : Int32) (x7 : Int32) (h8 : z_Hp), z_G zi mi_X7_beats 10 [(0, vr (some a2)), (1, vi x3), (2, vi x4), (3, vi x5), (4, vi x6), (5, vi x7)] [] h8 (c_X7_beats_L10 F a2 x3 n x4 x5 x6 x7 h8) := by
  intro n
  induction n with
  | zero => intro x4 x5 x6 x7 h8; rw [c_X7_beats_L10]; exact z_none
  | succ n ih =>
    intro x4 x5 x6 x7 h8
    rw [c_X7_beats_L10]
    refine z_iload (pc := 10) dX7_beats_10 5 rfl (z_aload_n (pc := 12) dX7_beats_12 rfl 0 rfl (z_getRl (pc := 13) fl_RX7_15 rfl dX7_beats_13 (fun o9 => (?_))))
    refine z_nn (fun a10 ea10 => ?_)
    subst ea10
    refine z_alen (pc := 16) dX7_beats_16 (?_)
    refine z_icmp_ge (pc := 17) (tgt := 80) dX7_beats_17 (by decide) ?_ ?_
    · refine z_iload_n (pc := 80) dX7_beats_80 rfl 3 rfl (?_)
      exact z_iret (pc := 81) dX7_beats_81 rfl rfl
    · refine z_iload_n (pc := 20) dX7_beats_20 rfl 2 rfl (z_iload_n (pc := 21) dX7_beats_21 rfl 1 rfl (?_))
      refine z_icmp_gt (pc := 22) (tgt := 80) dX7_beats_22 (by decide) ?_ ?_
      · refine z_iload_n (pc := 80) dX7_beats_80 rfl 3 rfl (?_)
        exact z_iret (pc := 81) dX7_beats_81 rfl rfl
      · refine z_aload_n (pc := 25) dX7_beats_25 rfl 0 rfl (z_getRl (pc := 26) fl_RX7_15 rfl dX7_beats_26 (fun o11 => (z_iload (pc := 29) dX7_beats_29 5 rfl (?_))))
        refine z_nn (fun a12 ea12 => ?_)
        subst ea12
        refine z_baload (pc := 31) dX7_beats_31 (z_callS_I (pc := 32) (avs := [vi (hI h8 a12 (ix x7))]) (st := []) rfl (t_X7_isVowel F (hI h8 a12 (ix x7)) h8) ky_X7_isVowel ws_X7_isVowel wz_RX7_39 (rm_X7_beats_X7_isVowel) (Nat.le_of_ble_eq_true rfl) dX7_beats_32 (fun x14 h13 => (?_)))
        refine z_istore (pc := 35) (L' := [(0, vr (some a2)), (1, vi x3), (2, vi x4), (3, vi x5), (4, vi x6), (5, vi x7), (6, vi x14)]) dX7_beats_35 (Nat.le_of_ble_eq_true rfl) rfl (z_iload (pc := 37) dX7_beats_37 6 rfl (?_))
        refine z_jn (P := fun (j : Int32 → z_Hp → Option (Int32 × z_Hp)) => ∀ (x16 : Int32) (h17 : z_Hp), z_G zi mi_X7_beats 55 [(0, vr (some a2)), (1, vi x3), (2, vi x4), (3, vi x16), (5, vi x7), (6, vi x14)] [] h17 (j x16 h17)) (fun x16 h17 => ?_) (fun j55_15 qj55_15 => ?_)
        · refine z_aload_n (pc := 55) dX7_beats_55 rfl 0 rfl (z_getRl (pc := 56) fl_RX7_15 rfl dX7_beats_56 (fun o18 => (z_iload (pc := 59) dX7_beats_59 4 rfl (?_))))
          refine z_nn (fun a19 ea19 => ?_)
          subst ea19
          refine z_baload (pc := 61) dX7_beats_61 (z_bipush (pc := 62) dX7_beats_62 bp_47 (?_))
          refine z_jn (P := fun (j : Int32 → z_Hp → Option (Int32 × z_Hp)) => ∀ (x21 : Int32) (h22 : z_Hp), z_G zi mi_X7_beats 70 [(0, vr (some a2)), (1, vi x3), (2, vi x21), (3, vi x16), (5, vi x7), (6, vi x14)] [] h22 (j x21 h22)) (fun x21 h22 => ?_) (fun j70_20 qj70_20 => ?_)
          · refine z_iload (pc := 70) dX7_beats_70 5 rfl (z_istore (pc := 72) (L' := [(0, vr (some a2)), (1, vi x3), (2, vi x21), (3, vi x16), (4, vi x14), (5, vi x7), (6, vi x14)]) dX7_beats_72 (Nat.le_of_ble_eq_true rfl) rfl (z_iincl (pc := 74) (L' := fun x23 => [(0, vr (some a2)), (1, vi x3), (2, vi x21), (3, vi x16), (4, vi x14), (5, vi x23), (6, vi x14)]) dX7_beats_74 5 rfl ic_1 (Nat.le_of_ble_eq_true rfl) (fun _ => rfl) (fun x23 => (z_goto (pc := 77) (tgt := 10) dX7_beats_77 (by decide) (?_)))))
            exact z_sub [0, 1, 2, 3, 4, 5] rfl (ih x21 x16 x14 x23 h22)
          refine z_icmp_ne (pc := 64) (tgt := 70) dX7_beats_64 (by decide) ?_ ?_
          · exact qj70_20 x4 h17
          · refine z_iincl (pc := 67) (L' := fun x24 => [(0, vr (some a2)), (1, vi x3), (2, vi x24), (3, vi x16), (5, vi x7), (6, vi x14)]) dX7_beats_67 2 rfl ic_1 (Nat.le_of_ble_eq_true rfl) (fun _ => rfl) (fun x24 => (?_))
            exact qj70_20 x24 h17
        refine z_if_eq (pc := 39) (tgt := 55) dX7_beats_39 (by decide) ?_ ?_
        · exact z_sub [0, 1, 2, 3, 5, 6] rfl (qj55_15 x5 h13)
        · refine z_iload (pc := 42) dX7_beats_42 4 rfl (?_)
          refine z_if_ne (pc := 44) (tgt := 55) dX7_beats_44 (by decide) ?_ ?_
          · exact z_sub [0, 1, 2, 3, 5, 6] rfl (qj55_15 x5 h13)
          · refine z_iload_n (pc := 47) dX7_beats_47 rfl 2 rfl (z_iload_n (pc := 48) dX7_beats_48 rfl 1 rfl (?_))
            refine z_icmp_ne (pc := 49) (tgt := 55) dX7_beats_49 (by decide) ?_ ?_
            · exact z_sub [0, 1, 2, 3, 5, 6] rfl (qj55_15 x5 h13)
            · refine z_iincl (pc := 52) (L' := fun x25 => [(0, vr (some a2)), (1, vi x3), (2, vi x4), (3, vi x25), (4, vi x6), (5, vi x7), (6, vi x14)]) dX7_beats_52 3 rfl ic_1 (Nat.le_of_ble_eq_true rfl) (fun _ => rfl) (fun x25 => (?_))
              exact z_sub [0, 1, 2, 3, 5, 6] rfl (qj55_15 x25 h13)
set_option maxRecDepth 20000 in
set_option maxHeartbeats 4000000 in
theorem t_X7_beats (F : Nat) (a0 : Nat) (x1 : Int32) (h0 : z_Hp) : z_Ct zi mi_X7_beats [vr (some a0), vi x1] h0 (c_X7_beats F a0 x1 h0) := by
  refine z_entry (by decide) (Nat.le_of_ble_eq_true rfl) [(0, vr (some a0)), (1, vi x1)] rfl ?_
  unfold c_X7_beats
  refine z_iconst (pc := 0) dX7_beats_0 ic_0 (z_istore_n (pc := 1) (L' := [(0, vr (some a0)), (1, vi x1), (2, vi 0)]) dX7_beats_1 rfl (Nat.le_of_ble_eq_true rfl) rfl (z_iconst (pc := 2) dX7_beats_2 ic_0 (z_istore_n (pc := 3) (L' := [(0, vr (some a0)), (1, vi x1), (2, vi 0), (3, vi 0)]) dX7_beats_3 rfl (Nat.le_of_ble_eq_true rfl) rfl (z_iconst (pc := 4) dX7_beats_4 ic_0 (z_istore (pc := 5) (L' := [(0, vr (some a0)), (1, vi x1), (2, vi 0), (3, vi 0), (4, vi 0)]) dX7_beats_5 (Nat.le_of_ble_eq_true rfl) rfl (z_iconst (pc := 7) dX7_beats_7 ic_0 (z_istore (pc := 8) (L' := [(0, vr (some a0)), (1, vi x1), (2, vi 0), (3, vi 0), (4, vi 0), (5, vi 0)]) dX7_beats_8 (Nat.le_of_ble_eq_true rfl) rfl (?_))))))))
  refine g_X7_beats_L10 F a0 x1 F 0 0 0 0 h0
theorem dX7_firstMisfit_0 : decode cX7_firstMisfit 0 = .ok (.iconst 0, 1) := by decide +kernel
theorem dX7_firstMisfit_1 : decode cX7_firstMisfit 1 = .ok (.istore_n 3, 1) := by decide +kernel
theorem dX7_firstMisfit_2 : decode cX7_firstMisfit 2 = .ok (.iconst 0, 1) := by decide +kernel
theorem dX7_firstMisfit_3 : decode cX7_firstMisfit 3 = .ok (.istore 4, 2) := by decide +kernel
theorem dX7_firstMisfit_5 : decode cX7_firstMisfit 5 = .ok (.iload 4, 2) := by decide +kernel
theorem dX7_firstMisfit_7 : decode cX7_firstMisfit 7 = .ok (.aload_n 0, 1) := by decide +kernel
theorem dX7_firstMisfit_8 : decode cX7_firstMisfit 8 = .ok (.getfield 21, 3) := by decide +kernel
theorem dX7_firstMisfit_11 : decode cX7_firstMisfit 11 = .ok (.if_icmp .ge 59, 3) := by decide +kernel
theorem dX7_firstMisfit_14 : decode cX7_firstMisfit 14 = .ok (.iload_n 3, 1) := by decide +kernel
theorem dX7_firstMisfit_15 : decode cX7_firstMisfit 15 = .ok (.aload_n 1, 1) := by decide +kernel
theorem dX7_firstMisfit_16 : decode cX7_firstMisfit 16 = .ok (.arraylength, 1) := by decide +kernel
theorem dX7_firstMisfit_17 : decode cX7_firstMisfit 17 = .ok (.if_icmp .ge 53, 3) := by decide +kernel
theorem dX7_firstMisfit_20 : decode cX7_firstMisfit 20 = .ok (.aload_n 0, 1) := by decide +kernel
theorem dX7_firstMisfit_21 : decode cX7_firstMisfit 21 = .ok (.iload 4, 2) := by decide +kernel
theorem dX7_firstMisfit_23 : decode cX7_firstMisfit 23 = .ok (.invokevirtual 42, 3) := by decide +kernel
theorem dX7_firstMisfit_26 : decode cX7_firstMisfit 26 = .ok (.aload_n 1, 1) := by decide +kernel
theorem dX7_firstMisfit_27 : decode cX7_firstMisfit 27 = .ok (.iload_n 3, 1) := by decide +kernel
theorem dX7_firstMisfit_28 : decode cX7_firstMisfit 28 = .ok (.iaload, 1) := by decide +kernel
theorem dX7_firstMisfit_29 : decode cX7_firstMisfit 29 = .ok (.isub, 1) := by decide +kernel
theorem dX7_firstMisfit_30 : decode cX7_firstMisfit 30 = .ok (.istore 5, 2) := by decide +kernel
theorem dX7_firstMisfit_32 : decode cX7_firstMisfit 32 = .ok (.iload 5, 2) := by decide +kernel
theorem dX7_firstMisfit_34 : decode cX7_firstMisfit 34 = .ok (.iload_n 2, 1) := by decide +kernel
theorem dX7_firstMisfit_35 : decode cX7_firstMisfit 35 = .ok (.if_icmp .gt 10, 3) := by decide +kernel
theorem dX7_firstMisfit_38 : decode cX7_firstMisfit 38 = .ok (.iload 5, 2) := by decide +kernel
theorem dX7_firstMisfit_40 : decode cX7_firstMisfit 40 = .ok (.ineg, 1) := by decide +kernel
theorem dX7_firstMisfit_41 : decode cX7_firstMisfit 41 = .ok (.iload_n 2, 1) := by decide +kernel
theorem dX7_firstMisfit_42 : decode cX7_firstMisfit 42 = .ok (.if_icmp .le 6, 3) := by decide +kernel
theorem dX7_firstMisfit_45 : decode cX7_firstMisfit 45 = .ok (.iload 4, 2) := by decide +kernel
theorem dX7_firstMisfit_47 : decode cX7_firstMisfit 47 = .ok (.ireturn, 1) := by decide +kernel
theorem dX7_firstMisfit_48 : decode cX7_firstMisfit 48 = .ok (.iload_n 3, 1) := by decide +kernel
theorem dX7_firstMisfit_49 : decode cX7_firstMisfit 49 = .ok (.iconst 1, 1) := by decide +kernel
theorem dX7_firstMisfit_50 : decode cX7_firstMisfit 50 = .ok (.iadd, 1) := by decide +kernel
theorem dX7_firstMisfit_51 : decode cX7_firstMisfit 51 = .ok (.aload_n 1, 1) := by decide +kernel
theorem dX7_firstMisfit_52 : decode cX7_firstMisfit 52 = .ok (.arraylength, 1) := by decide +kernel
theorem dX7_firstMisfit_53 : decode cX7_firstMisfit 53 = .ok (.if_icmp .ge 9, 3) := by decide +kernel
theorem dX7_firstMisfit_56 : decode cX7_firstMisfit 56 = .ok (.iload_n 3, 1) := by decide +kernel
theorem dX7_firstMisfit_57 : decode cX7_firstMisfit 57 = .ok (.iconst 1, 1) := by decide +kernel
theorem dX7_firstMisfit_58 : decode cX7_firstMisfit 58 = .ok (.iadd, 1) := by decide +kernel
theorem dX7_firstMisfit_59 : decode cX7_firstMisfit 59 = .ok (.goto 4, 3) := by decide +kernel
theorem dX7_firstMisfit_62 : decode cX7_firstMisfit 62 = .ok (.iconst 0, 1) := by decide +kernel
theorem dX7_firstMisfit_63 : decode cX7_firstMisfit 63 = .ok (.istore_n 3, 1) := by decide +kernel
theorem dX7_firstMisfit_64 : decode cX7_firstMisfit 64 = .ok (.iinc 4 1, 3) := by decide +kernel
theorem dX7_firstMisfit_67 : decode cX7_firstMisfit 67 = .ok (.goto (-62), 3) := by decide +kernel
theorem dX7_firstMisfit_70 : decode cX7_firstMisfit 70 = .ok (.bipush (-9), 2) := by decide +kernel
theorem dX7_firstMisfit_72 : decode cX7_firstMisfit 72 = .ok (.ireturn, 1) := by decide +kernel
def c_X7_firstMisfit_L5 (F : Nat) (a3 : Nat) (o4 : Option Nat) (x5 : Int32) : Nat → Int32 → Int32 → z_Hp → Option (Int32 × z_Hp)
  | 0, _, _, _ => none
  | n + 1, x6, x7, h8 => (if hT h8 a3 = 7 then (if (hI h8 a3 1) ≤ x7 then (some ((-9), h8)) else (nn o4 (fun a9 => (if okL h8 a9 = true then (if (nI (hN h8 a9)) ≤ x6 then (some ((-9), h8)) else (if hT h8 a3 = 7 then (bI (c_X7_beats F a3 x7 h8) (fun x11 h10 => (if okA h10 a9 20 x6 = true then (lt_ (x11 - (hI h10 a9 (ix x6))) (fun x12 => (if x5 < x12 then (some (x7, h10)) else (if (-x12) ≤ x5 then (if okL h10 a9 = true then (lt_ (fun (x14 : Int32) (h15 : z_Hp) => (lt_ (x7 + 1) (fun x16 => (c_X7_firstMisfit_L5 F a3 o4 x5 n x14 x16 h15)))) (fun (j63_13 : Int32 → z_Hp → Option (Int32 × z_Hp)) => (if (nI (hN h10 a9)) ≤ (x6 + 1) then (j63_13 0 h10) else (j63_13 (x6 + 1) h10)))) else none) else (some (x7, h10)))))) else none))) else none)) else none)))) else none)
def c_X7_firstMisfit (F : Nat) (a0 : Nat) (o1 : Option Nat) (x2 : Int32) (h0 : z_Hp) : Option (Int32 × z_Hp) := (c_X7_firstMisfit_L5 F a0 o1 x2 F 0 0 h0)
set_option maxRecDepth 20000 in
set_option maxHeartbeats 4000000 in
theorem g_X7_firstMisfit_L5 (F : Nat) (a3 : Nat) (o4 : Option Nat) (x5 : Int32) : ∀ (n : Nat) (x6 : Int32) (x7 : Int32) (h8 : z_Hp), z_G zi mi_X7_firstMisfit 5 [(0, vr (some a3)), (1, vr o4), (2, vi x5), (3, vi x6), (4, vi x7)] [] h8 (c_X7_firstMisfit_L5 F a3 o4 x5 n x6 x7 h8) := by
  intro n
  induction n with
  | zero => intro x6 x7 h8; rw [c_X7_firstMisfit_L5]; exact z_none
  | succ n ih =>
    intro x6 x7 h8
    rw [c_X7_firstMisfit_L5]
    refine z_iload (pc := 5) dX7_firstMisfit_5 4 rfl (z_aload_n (pc := 7) dX7_firstMisfit_7 rfl 0 rfl (z_getI (pc := 8) fl_RX7_21 rfl dX7_firstMisfit_8 (?_)))
    refine z_icmp_ge (pc := 11) (tgt := 70) dX7_firstMisfit_11 (by decide) ?_ ?_
    · refine z_bipush (pc := 70) dX7_firstMisfit_70 bp_m9 (?_)
      exact z_iret (pc := 72) dX7_firstMisfit_72 rfl rfl
    · refine z_iload_n (pc := 14) dX7_firstMisfit_14 rfl 3 rfl (z_aload_n (pc := 15) dX7_firstMisfit_15 rfl 1 rfl (?_))
      refine z_nn (fun a9 ea9 => ?_)
      subst ea9
      refine z_alen (pc := 16) dX7_firstMisfit_16 (?_)
      refine z_icmp_ge (pc := 17) (tgt := 70) dX7_firstMisfit_17 (by decide) ?_ ?_
      · refine z_bipush (pc := 70) dX7_firstMisfit_70 bp_m9 (?_)
        exact z_iret (pc := 72) dX7_firstMisfit_72 rfl rfl
      · refine z_aload_n (pc := 20) dX7_firstMisfit_20 rfl 0 rfl (z_iload (pc := 21) dX7_firstMisfit_21 4 rfl (z_callV_I (pc := 23) (avs := [vi x7]) (st := []) rfl (q := (RX7, TX7, 5)) rfl rfl (t_X7_beats F a3 x7 h8) ky_X7_beats wm_X7_beats we_X7_beats wz_RX7_42 (rm_X7_firstMisfit_X7_beats) (Nat.le_of_ble_eq_true rfl) dX7_firstMisfit_23 (fun x11 h10 => (?_))))
        refine z_aload_n (pc := 26) dX7_firstMisfit_26 rfl 1 rfl (z_iload_n (pc := 27) dX7_firstMisfit_27 rfl 3 rfl (z_iaload (pc := 28) dX7_firstMisfit_28 (z_isub (pc := 29) dX7_firstMisfit_29 (z_istorel (pc := 30) (L' := fun x12 => [(0, vr (some a3)), (1, vr (some a9)), (2, vi x5), (3, vi x6), (4, vi x7), (5, vi x12)]) dX7_firstMisfit_30 (Nat.le_of_ble_eq_true rfl) (fun _ => rfl) (fun x12 => (z_iload (pc := 32) dX7_firstMisfit_32 5 rfl (z_iload_n (pc := 34) dX7_firstMisfit_34 rfl 2 rfl (?_))))))))
        refine z_icmp_gt (pc := 35) (tgt := 45) dX7_firstMisfit_35 (by decide) ?_ ?_
        · refine z_iload (pc := 45) dX7_firstMisfit_45 4 rfl (?_)
          exact z_iret (pc := 47) dX7_firstMisfit_47 rfl rfl
        · refine z_iload (pc := 38) dX7_firstMisfit_38 5 rfl (z_ineg (pc := 40) dX7_firstMisfit_40 (z_iload_n (pc := 41) dX7_firstMisfit_41 rfl 2 rfl (?_)))
          refine z_icmp_le (pc := 42) (tgt := 48) dX7_firstMisfit_42 (by decide) ?_ ?_
          · refine z_iload_n (pc := 48) dX7_firstMisfit_48 rfl 3 rfl (z_iconst (pc := 49) dX7_firstMisfit_49 ic_1 (z_iadd (pc := 50) dX7_firstMisfit_50 (z_aload_n (pc := 51) dX7_firstMisfit_51 rfl 1 rfl (z_alen (pc := 52) dX7_firstMisfit_52 (?_)))))
            refine z_jn (P := fun (j : Int32 → z_Hp → Option (Int32 × z_Hp)) => ∀ (x14 : Int32) (h15 : z_Hp), z_G zi mi_X7_firstMisfit 63 [(0, vr (some a3)), (1, vr (some a9)), (2, vi x5), (4, vi x7)] [vi x14] h15 (j x14 h15)) (fun x14 h15 => ?_) (fun j63_13 qj63_13 => ?_)
            · refine z_istore_n (pc := 63) (L' := [(0, vr (some a3)), (1, vr (some a9)), (2, vi x5), (3, vi x14), (4, vi x7)]) dX7_firstMisfit_63 rfl (Nat.le_of_ble_eq_true rfl) rfl (z_iincl (pc := 64) (L' := fun x16 => [(0, vr (some a3)), (1, vr (some a9)), (2, vi x5), (3, vi x14), (4, vi x16)]) dX7_firstMisfit_64 4 rfl ic_1 (Nat.le_of_ble_eq_true rfl) (fun _ => rfl) (fun x16 => (z_goto (pc := 67) (tgt := 5) dX7_firstMisfit_67 (by decide) (?_))))
              exact ih x14 x16 h15
            refine z_icmp_ge (pc := 53) (tgt := 62) dX7_firstMisfit_53 (by decide) ?_ ?_
            · refine z_iconst (pc := 62) dX7_firstMisfit_62 ic_0 (?_)
              exact z_sub [0, 1, 2, 4] rfl (qj63_13 0 h10)
            · refine z_iload_n (pc := 56) dX7_firstMisfit_56 rfl 3 rfl (z_iconst (pc := 57) dX7_firstMisfit_57 ic_1 (z_iadd (pc := 58) dX7_firstMisfit_58 (z_goto (pc := 59) (tgt := 63) dX7_firstMisfit_59 (by decide) (?_))))
              exact z_sub [0, 1, 2, 4] rfl (qj63_13 (x6 + 1) h10)
          · refine z_iload (pc := 45) dX7_firstMisfit_45 4 rfl (?_)
            exact z_iret (pc := 47) dX7_firstMisfit_47 rfl rfl
set_option maxRecDepth 20000 in
set_option maxHeartbeats 4000000 in
theorem t_X7_firstMisfit (F : Nat) (a0 : Nat) (o1 : Option Nat) (x2 : Int32) (h0 : z_Hp) : z_Ct zi mi_X7_firstMisfit [vr (some a0), vr o1, vi x2] h0 (c_X7_firstMisfit F a0 o1 x2 h0) := by
  refine z_entry (by decide) (Nat.le_of_ble_eq_true rfl) [(0, vr (some a0)), (1, vr o1), (2, vi x2)] rfl ?_
  unfold c_X7_firstMisfit
  refine z_iconst (pc := 0) dX7_firstMisfit_0 ic_0 (z_istore_n (pc := 1) (L' := [(0, vr (some a0)), (1, vr o1), (2, vi x2), (3, vi 0)]) dX7_firstMisfit_1 rfl (Nat.le_of_ble_eq_true rfl) rfl (z_iconst (pc := 2) dX7_firstMisfit_2 ic_0 (z_istore (pc := 3) (L' := [(0, vr (some a0)), (1, vr o1), (2, vi x2), (3, vi 0), (4, vi 0)]) dX7_firstMisfit_3 (Nat.le_of_ble_eq_true rfl) rfl (?_))))
  refine g_X7_firstMisfit_L5 F a0 o1 x2 F 0 0 h0
theorem dX7_lastWord_0 : decode cX7_lastWord 0 = .ok (.iconst 0, 1) := by decide +kernel
theorem dX7_lastWord_1 : decode cX7_lastWord 1 = .ok (.istore_n 2, 1) := by decide +kernel
theorem dX7_lastWord_2 : decode cX7_lastWord 2 = .ok (.iconst 0, 1) := by decide +kernel
theorem dX7_lastWord_3 : decode cX7_lastWord 3 = .ok (.istore_n 3, 1) := by decide +kernel
theorem dX7_lastWord_4 : decode cX7_lastWord 4 = .ok (.iconst 0, 1) := by decide +kernel
theorem dX7_lastWord_5 : decode cX7_lastWord 5 = .ok (.istore 4, 2) := by decide +kernel
theorem dX7_lastWord_7 : decode cX7_lastWord 7 = .ok (.iload 4, 2) := by decide +kernel
theorem dX7_lastWord_9 : decode cX7_lastWord 9 = .ok (.aload_n 0, 1) := by decide +kernel
theorem dX7_lastWord_10 : decode cX7_lastWord 10 = .ok (.getfield 36, 3) := by decide +kernel
theorem dX7_lastWord_13 : decode cX7_lastWord 13 = .ok (.if_icmp .ge 40, 3) := by decide +kernel
theorem dX7_lastWord_16 : decode cX7_lastWord 16 = .ok (.iload_n 2, 1) := by decide +kernel
theorem dX7_lastWord_17 : decode cX7_lastWord 17 = .ok (.iload_n 1, 1) := by decide +kernel
theorem dX7_lastWord_18 : decode cX7_lastWord 18 = .ok (.if_icmp .gt 35, 3) := by decide +kernel
theorem dX7_lastWord_21 : decode cX7_lastWord 21 = .ok (.aload_n 0, 1) := by decide +kernel
theorem dX7_lastWord_22 : decode cX7_lastWord 22 = .ok (.getfield 15, 3) := by decide +kernel
theorem dX7_lastWord_25 : decode cX7_lastWord 25 = .ok (.aload_n 0, 1) := by decide +kernel
theorem dX7_lastWord_26 : decode cX7_lastWord 26 = .ok (.getfield 25, 3) := by decide +kernel
theorem dX7_lastWord_29 : decode cX7_lastWord 29 = .ok (.iload 4, 2) := by decide +kernel
theorem dX7_lastWord_31 : decode cX7_lastWord 31 = .ok (.iaload, 1) := by decide +kernel
theorem dX7_lastWord_32 : decode cX7_lastWord 32 = .ok (.baload, 1) := by decide +kernel
theorem dX7_lastWord_33 : decode cX7_lastWord 33 = .ok (.bipush 47, 2) := by decide +kernel
theorem dX7_lastWord_35 : decode cX7_lastWord 35 = .ok (.if_icmp .ne 9, 3) := by decide +kernel
theorem dX7_lastWord_38 : decode cX7_lastWord 38 = .ok (.iinc 2 1, 3) := by decide +kernel
theorem dX7_lastWord_41 : decode cX7_lastWord 41 = .ok (.goto 6, 3) := by decide +kernel
theorem dX7_lastWord_44 : decode cX7_lastWord 44 = .ok (.iload 4, 2) := by decide +kernel
theorem dX7_lastWord_46 : decode cX7_lastWord 46 = .ok (.istore_n 3, 1) := by decide +kernel
theorem dX7_lastWord_47 : decode cX7_lastWord 47 = .ok (.iinc 4 1, 3) := by decide +kernel
theorem dX7_lastWord_50 : decode cX7_lastWord 50 = .ok (.goto (-43), 3) := by decide +kernel
theorem dX7_lastWord_53 : decode cX7_lastWord 53 = .ok (.iload_n 3, 1) := by decide +kernel
theorem dX7_lastWord_54 : decode cX7_lastWord 54 = .ok (.ireturn, 1) := by decide +kernel
def c_X7_lastWord_L7 (F : Nat) (a2 : Nat) (x3 : Int32) : Nat → Int32 → Int32 → Int32 → z_Hp → Option (Int32 × z_Hp)
  | 0, _, _, _, _ => none
  | n + 1, x4, x5, x6, h7 => (if hT h7 a2 = 7 then (if (hI h7 a2 4) ≤ x6 then (some (x5, h7)) else (if x3 < x4 then (some (x5, h7)) else (if hT h7 a2 = 7 then (lt_ (hR h7 a2 0) (fun o8 => (if hT h7 a2 = 7 then (lt_ (hR h7 a2 2) (fun o9 => (nn o9 (fun a10 => (if okA h7 a10 20 x6 = true then (nn o8 (fun a11 => (if okA h7 a11 21 (hI h7 a10 (ix x6)) = true then (lt_ (fun (x13 : Int32) (x14 : Int32) (h15 : z_Hp) => (lt_ (x6 + 1) (fun x16 => (c_X7_lastWord_L7 F a2 x3 n x13 x14 x16 h15)))) (fun (j47_12 : Int32 → Int32 → z_Hp → Option (Int32 × z_Hp)) => (if (hI h7 a11 (ix (hI h7 a10 (ix x6)))) = 47 then (lt_ (x4 + 1) (fun x17 => (j47_12 x17 x5 h7))) else (j47_12 x4 x6 h7)))) else none))) else none))))) else none))) else none))) else none)
def c_X7_lastWord (F : Nat) (a0 : Nat) (x1 : Int32) (h0 : z_Hp) : Option (Int32 × z_Hp) := (c_X7_lastWord_L7 F a0 x1 F 0 0 0 h0)
set_option maxRecDepth 20000 in
set_option maxHeartbeats 4000000 in
theorem g_X7_lastWord_L7 (F : Nat) (a2 : Nat) (x3 : Int32) : ∀ (n : Nat) (x4 : Int32) (x5 : Int32) (x6 : Int32) (h7 : z_Hp), z_G zi mi_X7_lastWord 7 [(0, vr (some a2)), (1, vi x3), (2, vi x4), (3, vi x5), (4, vi x6)] [] h7 (c_X7_lastWord_L7 F a2 x3 n x4 x5 x6 h7) := by
  intro n
  induction n with
  | zero => intro x4 x5 x6 h7; rw [c_X7_lastWord_L7]; exact z_none
  | succ n ih =>
    intro x4 x5 x6 h7
    rw [c_X7_lastWord_L7]
    refine z_iload (pc := 7) dX7_lastWord_7 4 rfl (z_aload_n (pc := 9) dX7_lastWord_9 rfl 0 rfl (z_getI (pc := 10) fl_RX7_36 rfl dX7_lastWord_10 (?_)))
    refine z_icmp_ge (pc := 13) (tgt := 53) dX7_lastWord_13 (by decide) ?_ ?_
    · refine z_iload_n (pc := 53) dX7_lastWord_53 rfl 3 rfl (?_)
      exact z_iret (pc := 54) dX7_lastWord_54 rfl rfl
    · refine z_iload_n (pc := 16) dX7_lastWord_16 rfl 2 rfl (z_iload_n (pc := 17) dX7_lastWord_17 rfl 1 rfl (?_))
      refine z_icmp_gt (pc := 18) (tgt := 53) dX7_lastWord_18 (by decide) ?_ ?_
      · refine z_iload_n (pc := 53) dX7_lastWord_53 rfl 3 rfl (?_)
        exact z_iret (pc := 54) dX7_lastWord_54 rfl rfl
      · refine z_aload_n (pc := 21) dX7_lastWord_21 rfl 0 rfl (z_getRl (pc := 22) fl_RX7_15 rfl dX7_lastWord_22 (fun o8 => (z_aload_n (pc := 25) dX7_lastWord_25 rfl 0 rfl (z_getRl (pc := 26) fl_RX7_25 rfl dX7_lastWord_26 (fun o9 => (z_iload (pc := 29) dX7_lastWord_29 4 rfl (?_)))))))
        refine z_nn (fun a10 ea10 => ?_)
        subst ea10
        refine z_iaload (pc := 31) dX7_lastWord_31 (?_)
        refine z_nn (fun a11 ea11 => ?_)
        subst ea11
        refine z_baload (pc := 32) dX7_lastWord_32 (z_bipush (pc := 33) dX7_lastWord_33 bp_47 (?_))
        refine z_jn (P := fun (j : Int32 → Int32 → z_Hp → Option (Int32 × z_Hp)) => ∀ (x13 : Int32) (x14 : Int32) (h15 : z_Hp), z_G zi mi_X7_lastWord 47 [(0, vr (some a2)), (1, vi x3), (2, vi x13), (3, vi x14), (4, vi x6)] [] h15 (j x13 x14 h15)) (fun x13 x14 h15 => ?_) (fun j47_12 qj47_12 => ?_)
        · refine z_iincl (pc := 47) (L' := fun x16 => [(0, vr (some a2)), (1, vi x3), (2, vi x13), (3, vi x14), (4, vi x16)]) dX7_lastWord_47 4 rfl ic_1 (Nat.le_of_ble_eq_true rfl) (fun _ => rfl) (fun x16 => (z_goto (pc := 50) (tgt := 7) dX7_lastWord_50 (by decide) (?_)))
          exact ih x13 x14 x16 h15
        refine z_icmp_ne (pc := 35) (tgt := 44) dX7_lastWord_35 (by decide) ?_ ?_
        · refine z_iload (pc := 44) dX7_lastWord_44 4 rfl (z_istore_n (pc := 46) (L' := [(0, vr (some a2)), (1, vi x3), (2, vi x4), (3, vi x6), (4, vi x6)]) dX7_lastWord_46 rfl (Nat.le_of_ble_eq_true rfl) rfl (?_))
          exact qj47_12 x4 x6 h7
        · refine z_iincl (pc := 38) (L' := fun x17 => [(0, vr (some a2)), (1, vi x3), (2, vi x17), (3, vi x5), (4, vi x6)]) dX7_lastWord_38 2 rfl ic_1 (Nat.le_of_ble_eq_true rfl) (fun _ => rfl) (fun x17 => (z_goto (pc := 41) (tgt := 47) dX7_lastWord_41 (by decide) (?_)))
          exact qj47_12 x17 x5 h7
set_option maxRecDepth 20000 in
set_option maxHeartbeats 4000000 in
theorem t_X7_lastWord (F : Nat) (a0 : Nat) (x1 : Int32) (h0 : z_Hp) : z_Ct zi mi_X7_lastWord [vr (some a0), vi x1] h0 (c_X7_lastWord F a0 x1 h0) := by
  refine z_entry (by decide) (Nat.le_of_ble_eq_true rfl) [(0, vr (some a0)), (1, vi x1)] rfl ?_
  unfold c_X7_lastWord
  refine z_iconst (pc := 0) dX7_lastWord_0 ic_0 (z_istore_n (pc := 1) (L' := [(0, vr (some a0)), (1, vi x1), (2, vi 0)]) dX7_lastWord_1 rfl (Nat.le_of_ble_eq_true rfl) rfl (z_iconst (pc := 2) dX7_lastWord_2 ic_0 (z_istore_n (pc := 3) (L' := [(0, vr (some a0)), (1, vi x1), (2, vi 0), (3, vi 0)]) dX7_lastWord_3 rfl (Nat.le_of_ble_eq_true rfl) rfl (z_iconst (pc := 4) dX7_lastWord_4 ic_0 (z_istore (pc := 5) (L' := [(0, vr (some a0)), (1, vi x1), (2, vi 0), (3, vi 0), (4, vi 0)]) dX7_lastWord_5 (Nat.le_of_ble_eq_true rfl) rfl (?_))))))
  refine g_X7_lastWord_L7 F a0 x1 F 0 0 0 h0
theorem dX7_fromEnd_0 : decode cX7_fromEnd 0 = .ok (.aload_n 0, 1) := by decide +kernel
theorem dX7_fromEnd_1 : decode cX7_fromEnd 1 = .ok (.getfield 15, 3) := by decide +kernel
theorem dX7_fromEnd_4 : decode cX7_fromEnd 4 = .ok (.aload_n 0, 1) := by decide +kernel
theorem dX7_fromEnd_5 : decode cX7_fromEnd 5 = .ok (.getfield 29, 3) := by decide +kernel
theorem dX7_fromEnd_8 : decode cX7_fromEnd 8 = .ok (.iload_n 1, 1) := by decide +kernel
theorem dX7_fromEnd_9 : decode cX7_fromEnd 9 = .ok (.iaload, 1) := by decide +kernel
theorem dX7_fromEnd_10 : decode cX7_fromEnd 10 = .ok (.iload_n 2, 1) := by decide +kernel
theorem dX7_fromEnd_11 : decode cX7_fromEnd 11 = .ok (.isub, 1) := by decide +kernel
theorem dX7_fromEnd_12 : decode cX7_fromEnd 12 = .ok (.baload, 1) := by decide +kernel
theorem dX7_fromEnd_13 : decode cX7_fromEnd 13 = .ok (.ireturn, 1) := by decide +kernel
def c_X7_fromEnd (F : Nat) (a0 : Nat) (x1 : Int32) (x2 : Int32) (h0 : z_Hp) : Option (Int32 × z_Hp) := (if hT h0 a0 = 7 then (lt_ (hR h0 a0 0) (fun o3 => (if hT h0 a0 = 7 then (lt_ (hR h0 a0 3) (fun o4 => (nn o4 (fun a5 => (if okA h0 a5 20 x1 = true then (nn o3 (fun a6 => (if okA h0 a6 21 ((hI h0 a5 (ix x1)) - x2) = true then (some (hI h0 a6 (ix ((hI h0 a5 (ix x1)) - x2)), h0)) else none))) else none))))) else none))) else none)
set_option maxRecDepth 20000 in
set_option maxHeartbeats 4000000 in
theorem t_X7_fromEnd (F : Nat) (a0 : Nat) (x1 : Int32) (x2 : Int32) (h0 : z_Hp) : z_Ct zi mi_X7_fromEnd [vr (some a0), vi x1, vi x2] h0 (c_X7_fromEnd F a0 x1 x2 h0) := by
  refine z_entry (by decide) (Nat.le_of_ble_eq_true rfl) [(0, vr (some a0)), (1, vi x1), (2, vi x2)] rfl ?_
  unfold c_X7_fromEnd
  refine z_aload_n (pc := 0) dX7_fromEnd_0 rfl 0 rfl (z_getRl (pc := 1) fl_RX7_15 rfl dX7_fromEnd_1 (fun o3 => (z_aload_n (pc := 4) dX7_fromEnd_4 rfl 0 rfl (z_getRl (pc := 5) fl_RX7_29 rfl dX7_fromEnd_5 (fun o4 => (z_iload_n (pc := 8) dX7_fromEnd_8 rfl 1 rfl (?_)))))))
  refine z_nn (fun a5 ea5 => ?_)
  subst ea5
  refine z_iaload (pc := 9) dX7_fromEnd_9 (z_iload_n (pc := 10) dX7_fromEnd_10 rfl 2 rfl (z_isub (pc := 11) dX7_fromEnd_11 (?_)))
  refine z_nn (fun a6 ea6 => ?_)
  subst ea6
  refine z_baload (pc := 12) dX7_fromEnd_12 (?_)
  exact z_iret (pc := 13) dX7_fromEnd_13 rfl rfl
theorem dX7_linesRhyme_0 : decode cX7_linesRhyme 0 = .ok (.aload_n 0, 1) := by decide +kernel
theorem dX7_linesRhyme_1 : decode cX7_linesRhyme 1 = .ok (.iload_n 1, 1) := by decide +kernel
theorem dX7_linesRhyme_2 : decode cX7_linesRhyme 2 = .ok (.invokevirtual 46, 3) := by decide +kernel
theorem dX7_linesRhyme_5 : decode cX7_linesRhyme 5 = .ok (.istore_n 3, 1) := by decide +kernel
theorem dX7_linesRhyme_6 : decode cX7_linesRhyme 6 = .ok (.aload_n 0, 1) := by decide +kernel
theorem dX7_linesRhyme_7 : decode cX7_linesRhyme 7 = .ok (.iload_n 2, 1) := by decide +kernel
theorem dX7_linesRhyme_8 : decode cX7_linesRhyme 8 = .ok (.invokevirtual 46, 3) := by decide +kernel
theorem dX7_linesRhyme_11 : decode cX7_linesRhyme 11 = .ok (.istore 4, 2) := by decide +kernel
theorem dX7_linesRhyme_13 : decode cX7_linesRhyme 13 = .ok (.aload_n 0, 1) := by decide +kernel
theorem dX7_linesRhyme_14 : decode cX7_linesRhyme 14 = .ok (.iload_n 3, 1) := by decide +kernel
theorem dX7_linesRhyme_15 : decode cX7_linesRhyme 15 = .ok (.invokevirtual 49, 3) := by decide +kernel
theorem dX7_linesRhyme_18 : decode cX7_linesRhyme 18 = .ok (.iconst 1, 1) := by decide +kernel
theorem dX7_linesRhyme_19 : decode cX7_linesRhyme 19 = .ok (.if_icmp .ne 7, 3) := by decide +kernel
theorem dX7_linesRhyme_22 : decode cX7_linesRhyme 22 = .ok (.iconst 1, 1) := by decide +kernel
theorem dX7_linesRhyme_23 : decode cX7_linesRhyme 23 = .ok (.goto 4, 3) := by decide +kernel
theorem dX7_linesRhyme_26 : decode cX7_linesRhyme 26 = .ok (.iconst 0, 1) := by decide +kernel
theorem dX7_linesRhyme_27 : decode cX7_linesRhyme 27 = .ok (.istore 5, 2) := by decide +kernel
theorem dX7_linesRhyme_29 : decode cX7_linesRhyme 29 = .ok (.iload 5, 2) := by decide +kernel
theorem dX7_linesRhyme_31 : decode cX7_linesRhyme 31 = .ok (.aload_n 0, 1) := by decide +kernel
theorem dX7_linesRhyme_32 : decode cX7_linesRhyme 32 = .ok (.iload 4, 2) := by decide +kernel
theorem dX7_linesRhyme_34 : decode cX7_linesRhyme 34 = .ok (.invokevirtual 49, 3) := by decide +kernel
theorem dX7_linesRhyme_37 : decode cX7_linesRhyme 37 = .ok (.iconst 1, 1) := by decide +kernel
theorem dX7_linesRhyme_38 : decode cX7_linesRhyme 38 = .ok (.if_icmp .ne 7, 3) := by decide +kernel
theorem dX7_linesRhyme_41 : decode cX7_linesRhyme 41 = .ok (.iconst 1, 1) := by decide +kernel
theorem dX7_linesRhyme_42 : decode cX7_linesRhyme 42 = .ok (.goto 4, 3) := by decide +kernel
theorem dX7_linesRhyme_45 : decode cX7_linesRhyme 45 = .ok (.iconst 0, 1) := by decide +kernel
theorem dX7_linesRhyme_46 : decode cX7_linesRhyme 46 = .ok (.if_icmp .eq 5, 3) := by decide +kernel
theorem dX7_linesRhyme_49 : decode cX7_linesRhyme 49 = .ok (.iconst 0, 1) := by decide +kernel
theorem dX7_linesRhyme_50 : decode cX7_linesRhyme 50 = .ok (.ireturn, 1) := by decide +kernel
theorem dX7_linesRhyme_51 : decode cX7_linesRhyme 51 = .ok (.aload_n 0, 1) := by decide +kernel
theorem dX7_linesRhyme_52 : decode cX7_linesRhyme 52 = .ok (.iload_n 3, 1) := by decide +kernel
theorem dX7_linesRhyme_53 : decode cX7_linesRhyme 53 = .ok (.iconst 1, 1) := by decide +kernel
theorem dX7_linesRhyme_54 : decode cX7_linesRhyme 54 = .ok (.invokevirtual 52, 3) := by decide +kernel
theorem dX7_linesRhyme_57 : decode cX7_linesRhyme 57 = .ok (.aload_n 0, 1) := by decide +kernel
theorem dX7_linesRhyme_58 : decode cX7_linesRhyme 58 = .ok (.iload 4, 2) := by decide +kernel
theorem dX7_linesRhyme_60 : decode cX7_linesRhyme 60 = .ok (.iconst 1, 1) := by decide +kernel
theorem dX7_linesRhyme_61 : decode cX7_linesRhyme 61 = .ok (.invokevirtual 52, 3) := by decide +kernel
theorem dX7_linesRhyme_64 : decode cX7_linesRhyme 64 = .ok (.if_icmp .eq 5, 3) := by decide +kernel
theorem dX7_linesRhyme_67 : decode cX7_linesRhyme 67 = .ok (.iconst 0, 1) := by decide +kernel
theorem dX7_linesRhyme_68 : decode cX7_linesRhyme 68 = .ok (.ireturn, 1) := by decide +kernel
theorem dX7_linesRhyme_69 : decode cX7_linesRhyme 69 = .ok (.iload 5, 2) := by decide +kernel
theorem dX7_linesRhyme_71 : decode cX7_linesRhyme 71 = .ok (.ifCond .ne 19, 3) := by decide +kernel
theorem dX7_linesRhyme_74 : decode cX7_linesRhyme 74 = .ok (.aload_n 0, 1) := by decide +kernel
theorem dX7_linesRhyme_75 : decode cX7_linesRhyme 75 = .ok (.iload_n 3, 1) := by decide +kernel
theorem dX7_linesRhyme_76 : decode cX7_linesRhyme 76 = .ok (.iconst 2, 1) := by decide +kernel
theorem dX7_linesRhyme_77 : decode cX7_linesRhyme 77 = .ok (.invokevirtual 52, 3) := by decide +kernel
theorem dX7_linesRhyme_80 : decode cX7_linesRhyme 80 = .ok (.aload_n 0, 1) := by decide +kernel
theorem dX7_linesRhyme_81 : decode cX7_linesRhyme 81 = .ok (.iload 4, 2) := by decide +kernel
theorem dX7_linesRhyme_83 : decode cX7_linesRhyme 83 = .ok (.iconst 2, 1) := by decide +kernel
theorem dX7_linesRhyme_84 : decode cX7_linesRhyme 84 = .ok (.invokevirtual 52, 3) := by decide +kernel
theorem dX7_linesRhyme_87 : decode cX7_linesRhyme 87 = .ok (.if_icmp .ne 7, 3) := by decide +kernel
theorem dX7_linesRhyme_90 : decode cX7_linesRhyme 90 = .ok (.iconst 1, 1) := by decide +kernel
theorem dX7_linesRhyme_91 : decode cX7_linesRhyme 91 = .ok (.goto 4, 3) := by decide +kernel
theorem dX7_linesRhyme_94 : decode cX7_linesRhyme 94 = .ok (.iconst 0, 1) := by decide +kernel
theorem dX7_linesRhyme_95 : decode cX7_linesRhyme 95 = .ok (.ireturn, 1) := by decide +kernel
def c_X7_linesRhyme (F : Nat) (a0 : Nat) (x1 : Int32) (x2 : Int32) (h0 : z_Hp) : Option (Int32 × z_Hp) := (if hT h0 a0 = 7 then (bI (c_X7_lastWord F a0 x1 h0) (fun x4 h3 => (if hT h3 a0 = 7 then (bI (c_X7_lastWord F a0 x2 h3) (fun x6 h5 => (if hT h5 a0 = 7 then (bI (c_X7_size F a0 x4 h5) (fun x8 h7 => (lt_ (fun (x10 : Int32) (h11 : z_Hp) => (if hT h11 a0 = 7 then (bI (c_X7_size F a0 x6 h11) (fun x13 h12 => (lt_ (fun (x15 : Int32) (h16 : z_Hp) => (if x10 = x15 then (if hT h16 a0 = 7 then (bI (c_X7_fromEnd F a0 x4 1 h16) (fun x18 h17 => (if hT h17 a0 = 7 then (bI (c_X7_fromEnd F a0 x6 1 h17) (fun x20 h19 => (if x18 = x20 then (if x10 = 0 then (if hT h19 a0 = 7 then (bI (c_X7_fromEnd F a0 x4 2 h19) (fun x22 h21 => (if hT h21 a0 = 7 then (bI (c_X7_fromEnd F a0 x6 2 h21) (fun x24 h23 => (if x22 = x24 then (some (1, h23)) else (some (0, h23))))) else none))) else none) else (some (1, h19))) else (some (0, h19))))) else none))) else none) else (some (0, h16)))) (fun (j46_14 : Int32 → z_Hp → Option (Int32 × z_Hp)) => (if x13 = 1 then (j46_14 1 h12) else (j46_14 0 h12)))))) else none)) (fun (j27_9 : Int32 → z_Hp → Option (Int32 × z_Hp)) => (if x8 = 1 then (j27_9 1 h7) else (j27_9 0 h7)))))) else none))) else none))) else none)
set_option maxRecDepth 20000 in
set_option maxHeartbeats 4000000 in
theorem t_X7_linesRhyme (F : Nat) (a0 : Nat) (x1 : Int32) (x2 : Int32) (h0 : z_Hp) : z_Ct zi mi_X7_linesRhyme [vr (some a0), vi x1, vi x2] h0 (c_X7_linesRhyme F a0 x1 x2 h0) := by
  refine z_entry (by decide) (Nat.le_of_ble_eq_true rfl) [(0, vr (some a0)), (1, vi x1), (2, vi x2)] rfl ?_
  unfold c_X7_linesRhyme
  refine z_aload_n (pc := 0) dX7_linesRhyme_0 rfl 0 rfl (z_iload_n (pc := 1) dX7_linesRhyme_1 rfl 1 rfl (z_callV_I (pc := 2) (avs := [vi x1]) (st := []) rfl (q := (RX7, TX7, 5)) rfl rfl (t_X7_lastWord F a0 x1 h0) ky_X7_lastWord wm_X7_lastWord we_X7_lastWord wz_RX7_46 (rm_X7_linesRhyme_X7_lastWord) (Nat.le_of_ble_eq_true rfl) dX7_linesRhyme_2 (fun x4 h3 => (?_))))
  refine z_istore_n (pc := 5) (L' := [(0, vr (some a0)), (1, vi x1), (2, vi x2), (3, vi x4)]) dX7_linesRhyme_5 rfl (Nat.le_of_ble_eq_true rfl) rfl (z_aload_n (pc := 6) dX7_linesRhyme_6 rfl 0 rfl (z_iload_n (pc := 7) dX7_linesRhyme_7 rfl 2 rfl (z_callV_I (pc := 8) (avs := [vi x2]) (st := []) rfl (q := (RX7, TX7, 5)) rfl rfl (t_X7_lastWord F a0 x2 h3) ky_X7_lastWord wm_X7_lastWord we_X7_lastWord wz_RX7_46 (rm_X7_linesRhyme_X7_lastWord) (Nat.le_of_ble_eq_true rfl) dX7_linesRhyme_8 (fun x6 h5 => (?_)))))
  refine z_istore (pc := 11) (L' := [(0, vr (some a0)), (1, vi x1), (2, vi x2), (3, vi x4), (4, vi x6)]) dX7_linesRhyme_11 (Nat.le_of_ble_eq_true rfl) rfl (z_aload_n (pc := 13) dX7_linesRhyme_13 rfl 0 rfl (z_iload_n (pc := 14) dX7_linesRhyme_14 rfl 3 rfl (z_callV_I (pc := 15) (avs := [vi x4]) (st := []) rfl (q := (RX7, TX7, 5)) rfl rfl (t_X7_size F a0 x4 h5) ky_X7_size wm_X7_size we_X7_size wz_RX7_49 (rm_X7_linesRhyme_X7_size) (Nat.le_of_ble_eq_true rfl) dX7_linesRhyme_15 (fun x8 h7 => (?_)))))
  refine z_iconst (pc := 18) dX7_linesRhyme_18 ic_1 (?_)
  refine z_jn (P := fun (j : Int32 → z_Hp → Option (Int32 × z_Hp)) => ∀ (x10 : Int32) (h11 : z_Hp), z_G zi mi_X7_linesRhyme 27 [(0, vr (some a0)), (3, vi x4), (4, vi x6)] [vi x10] h11 (j x10 h11)) (fun x10 h11 => ?_) (fun j27_9 qj27_9 => ?_)
  · refine z_istore (pc := 27) (L' := [(0, vr (some a0)), (3, vi x4), (4, vi x6), (5, vi x10)]) dX7_linesRhyme_27 (Nat.le_of_ble_eq_true rfl) rfl (z_iload (pc := 29) dX7_linesRhyme_29 3 rfl (z_aload_n (pc := 31) dX7_linesRhyme_31 rfl 0 rfl (z_iload (pc := 32) dX7_linesRhyme_32 2 rfl (z_callV_I (pc := 34) (avs := [vi x6]) (st := [vi x10]) rfl (q := (RX7, TX7, 5)) rfl rfl (t_X7_size F a0 x6 h11) ky_X7_size wm_X7_size we_X7_size wz_RX7_49 (rm_X7_linesRhyme_X7_size) (Nat.le_of_ble_eq_true rfl) dX7_linesRhyme_34 (fun x13 h12 => (?_))))))
    refine z_iconst (pc := 37) dX7_linesRhyme_37 ic_1 (?_)
    refine z_jn (P := fun (j : Int32 → z_Hp → Option (Int32 × z_Hp)) => ∀ (x15 : Int32) (h16 : z_Hp), z_G zi mi_X7_linesRhyme 46 [(0, vr (some a0)), (3, vi x4), (4, vi x6), (5, vi x10)] [vi x15, vi x10] h16 (j x15 h16)) (fun x15 h16 => ?_) (fun j46_14 qj46_14 => ?_)
    · refine z_icmp_eq (pc := 46) (tgt := 51) dX7_linesRhyme_46 (by decide) ?_ ?_
      · refine z_aload_n (pc := 51) dX7_linesRhyme_51 rfl 0 rfl (z_iload_n (pc := 52) dX7_linesRhyme_52 rfl 1 rfl (z_iconst (pc := 53) dX7_linesRhyme_53 ic_1 (z_callV_I (pc := 54) (avs := [vi x4, vi 1]) (st := []) rfl (q := (RX7, TX7, 5)) rfl rfl (t_X7_fromEnd F a0 x4 1 h16) ky_X7_fromEnd wm_X7_fromEnd we_X7_fromEnd wz_RX7_52 (rm_X7_linesRhyme_X7_fromEnd) (Nat.le_of_ble_eq_true rfl) dX7_linesRhyme_54 (fun x18 h17 => (?_)))))
        refine z_aload_n (pc := 57) dX7_linesRhyme_57 rfl 0 rfl (z_iload (pc := 58) dX7_linesRhyme_58 2 rfl (z_iconst (pc := 60) dX7_linesRhyme_60 ic_1 (z_callV_I (pc := 61) (avs := [vi x6, vi 1]) (st := [vi x18]) rfl (q := (RX7, TX7, 5)) rfl rfl (t_X7_fromEnd F a0 x6 1 h17) ky_X7_fromEnd wm_X7_fromEnd we_X7_fromEnd wz_RX7_52 (rm_X7_linesRhyme_X7_fromEnd) (Nat.le_of_ble_eq_true rfl) dX7_linesRhyme_61 (fun x20 h19 => (?_)))))
        refine z_icmp_eq (pc := 64) (tgt := 69) dX7_linesRhyme_64 (by decide) ?_ ?_
        · refine z_iload (pc := 69) dX7_linesRhyme_69 3 rfl (?_)
          refine z_if_ne (pc := 71) (tgt := 90) dX7_linesRhyme_71 (by decide) ?_ ?_
          · refine z_iconst (pc := 90) dX7_linesRhyme_90 ic_1 (z_goto (pc := 91) (tgt := 95) dX7_linesRhyme_91 (by decide) (?_))
            exact z_iret (pc := 95) dX7_linesRhyme_95 rfl rfl
          · refine z_aload_n (pc := 74) dX7_linesRhyme_74 rfl 0 rfl (z_iload_n (pc := 75) dX7_linesRhyme_75 rfl 1 rfl (z_iconst (pc := 76) dX7_linesRhyme_76 ic_2 (z_callV_I (pc := 77) (avs := [vi x4, vi 2]) (st := []) rfl (q := (RX7, TX7, 5)) rfl rfl (t_X7_fromEnd F a0 x4 2 h19) ky_X7_fromEnd wm_X7_fromEnd we_X7_fromEnd wz_RX7_52 (rm_X7_linesRhyme_X7_fromEnd) (Nat.le_of_ble_eq_true rfl) dX7_linesRhyme_77 (fun x22 h21 => (?_)))))
            refine z_aload_n (pc := 80) dX7_linesRhyme_80 rfl 0 rfl (z_iload (pc := 81) dX7_linesRhyme_81 2 rfl (z_iconst (pc := 83) dX7_linesRhyme_83 ic_2 (z_callV_I (pc := 84) (avs := [vi x6, vi 2]) (st := [vi x22]) rfl (q := (RX7, TX7, 5)) rfl rfl (t_X7_fromEnd F a0 x6 2 h21) ky_X7_fromEnd wm_X7_fromEnd we_X7_fromEnd wz_RX7_52 (rm_X7_linesRhyme_X7_fromEnd) (Nat.le_of_ble_eq_true rfl) dX7_linesRhyme_84 (fun x24 h23 => (?_)))))
            refine z_icmp_ne (pc := 87) (tgt := 94) dX7_linesRhyme_87 (by decide) ?_ ?_
            · refine z_iconst (pc := 94) dX7_linesRhyme_94 ic_0 (?_)
              exact z_iret (pc := 95) dX7_linesRhyme_95 rfl rfl
            · refine z_iconst (pc := 90) dX7_linesRhyme_90 ic_1 (z_goto (pc := 91) (tgt := 95) dX7_linesRhyme_91 (by decide) (?_))
              exact z_iret (pc := 95) dX7_linesRhyme_95 rfl rfl
        · refine z_iconst (pc := 67) dX7_linesRhyme_67 ic_0 (?_)
          exact z_iret (pc := 68) dX7_linesRhyme_68 rfl rfl
      · refine z_iconst (pc := 49) dX7_linesRhyme_49 ic_0 (?_)
        exact z_iret (pc := 50) dX7_linesRhyme_50 rfl rfl
    refine z_icmp_ne (pc := 38) (tgt := 45) dX7_linesRhyme_38 (by decide) ?_ ?_
    · refine z_iconst (pc := 45) dX7_linesRhyme_45 ic_0 (?_)
      exact qj46_14 0 h12
    · refine z_iconst (pc := 41) dX7_linesRhyme_41 ic_1 (z_goto (pc := 42) (tgt := 46) dX7_linesRhyme_42 (by decide) (?_))
      exact qj46_14 1 h12
  refine z_icmp_ne (pc := 19) (tgt := 26) dX7_linesRhyme_19 (by decide) ?_ ?_
  · refine z_iconst (pc := 26) dX7_linesRhyme_26 ic_0 (?_)
    exact z_sub [0, 3, 4] rfl (qj27_9 0 h7)
  · refine z_iconst (pc := 22) dX7_linesRhyme_22 ic_1 (z_goto (pc := 23) (tgt := 27) dX7_linesRhyme_23 (by decide) (?_))
    exact z_sub [0, 3, 4] rfl (qj27_9 1 h7)
theorem dX8_init_0 : decode cX8_init 0 = .ok (.aload_n 0, 1) := by decide +kernel
theorem dX8_init_1 : decode cX8_init 1 = .ok (.invokespecial 3, 3) := by decide +kernel
theorem dX8_init_4 : decode cX8_init 4 = .ok (.aload_n 0, 1) := by decide +kernel
theorem dX8_init_5 : decode cX8_init 5 = .ok (.bipush 8, 2) := by decide +kernel
theorem dX8_init_7 : decode cX8_init 7 = .ok (.newarray .int, 2) := by decide +kernel
theorem dX8_init_9 : decode cX8_init 9 = .ok (.putfield 9, 3) := by decide +kernel
theorem dX8_init_12 : decode cX8_init 12 = .ok (.aload_n 0, 1) := by decide +kernel
theorem dX8_init_13 : decode cX8_init 13 = .ok (.bipush 8, 2) := by decide +kernel
theorem dX8_init_15 : decode cX8_init 15 = .ok (.newarray .int, 2) := by decide +kernel
theorem dX8_init_17 : decode cX8_init 17 = .ok (.putfield 15, 3) := by decide +kernel
theorem dX8_init_20 : decode cX8_init 20 = .ok (.aload_n 0, 1) := by decide +kernel
theorem dX8_init_21 : decode cX8_init 21 = .ok (.bipush 20, 2) := by decide +kernel
theorem dX8_init_23 : decode cX8_init 23 = .ok (.newarray .int, 2) := by decide +kernel
theorem dX8_init_25 : decode cX8_init 25 = .ok (.putfield 18, 3) := by decide +kernel
theorem dX8_init_28 : decode cX8_init 28 = .ok (.aload_n 0, 1) := by decide +kernel
theorem dX8_init_29 : decode cX8_init 29 = .ok (.bipush 10, 2) := by decide +kernel
theorem dX8_init_31 : decode cX8_init 31 = .ok (.newarray .int, 2) := by decide +kernel
theorem dX8_init_33 : decode cX8_init 33 = .ok (.putfield 21, 3) := by decide +kernel
theorem dX8_init_36 : decode cX8_init 36 = .ok (.aload_n 0, 1) := by decide +kernel
theorem dX8_init_37 : decode cX8_init 37 = .ok (.bipush 10, 2) := by decide +kernel
theorem dX8_init_39 : decode cX8_init 39 = .ok (.newarray .int, 2) := by decide +kernel
theorem dX8_init_41 : decode cX8_init 41 = .ok (.putfield 24, 3) := by decide +kernel
theorem dX8_init_44 : decode cX8_init 44 = .ok (.aload_n 0, 1) := by decide +kernel
theorem dX8_init_45 : decode cX8_init 45 = .ok (.bipush 20, 2) := by decide +kernel
theorem dX8_init_47 : decode cX8_init 47 = .ok (.newarray .int, 2) := by decide +kernel
theorem dX8_init_49 : decode cX8_init 49 = .ok (.putfield 27, 3) := by decide +kernel
theorem dX8_init_52 : decode cX8_init 52 = .ok (.aload_n 0, 1) := by decide +kernel
theorem dX8_init_53 : decode cX8_init 53 = .ok (.bipush 20, 2) := by decide +kernel
theorem dX8_init_55 : decode cX8_init 55 = .ok (.newarray .int, 2) := by decide +kernel
theorem dX8_init_57 : decode cX8_init 57 = .ok (.putfield 30, 3) := by decide +kernel
theorem dX8_init_60 : decode cX8_init 60 = .ok (.iconst 0, 1) := by decide +kernel
theorem dX8_init_61 : decode cX8_init 61 = .ok (.istore_n 1, 1) := by decide +kernel
theorem dX8_init_62 : decode cX8_init 62 = .ok (.iload_n 1, 1) := by decide +kernel
theorem dX8_init_63 : decode cX8_init 63 = .ok (.bipush 8, 2) := by decide +kernel
theorem dX8_init_65 : decode cX8_init 65 = .ok (.if_icmp .ge 25, 3) := by decide +kernel
theorem dX8_init_68 : decode cX8_init 68 = .ok (.aload_n 0, 1) := by decide +kernel
theorem dX8_init_69 : decode cX8_init 69 = .ok (.getfield 9, 3) := by decide +kernel
theorem dX8_init_72 : decode cX8_init 72 = .ok (.iload_n 1, 1) := by decide +kernel
theorem dX8_init_73 : decode cX8_init 73 = .ok (.bipush (-9), 2) := by decide +kernel
theorem dX8_init_75 : decode cX8_init 75 = .ok (.iastore, 1) := by decide +kernel
theorem dX8_init_76 : decode cX8_init 76 = .ok (.aload_n 0, 1) := by decide +kernel
theorem dX8_init_77 : decode cX8_init 77 = .ok (.getfield 15, 3) := by decide +kernel
theorem dX8_init_80 : decode cX8_init 80 = .ok (.iload_n 1, 1) := by decide +kernel
theorem dX8_init_81 : decode cX8_init 81 = .ok (.bipush (-9), 2) := by decide +kernel
theorem dX8_init_83 : decode cX8_init 83 = .ok (.iastore, 1) := by decide +kernel
theorem dX8_init_84 : decode cX8_init 84 = .ok (.iinc 1 1, 3) := by decide +kernel
theorem dX8_init_87 : decode cX8_init 87 = .ok (.goto (-25), 3) := by decide +kernel
theorem dX8_init_90 : decode cX8_init 90 = .ok (.return_, 1) := by decide +kernel
def c_X8_init_L62 (F : Nat) (a22 : Nat) : Nat → Int32 → z_Hp → Option (z_Hp)
  | 0, _, _ => none
  | n + 1, x23, h24 => (if 8 ≤ x23 then (some h24) else (if hT h24 a22 = 8 then (lt_ (hR h24 a22 0) (fun o25 => (nn o25 (fun a26 => (if okA h24 a26 20 x23 = true then (lt_ (sI h24 a26 (ix x23) (-9)) (fun h27 => (if hT h27 a22 = 8 then (lt_ (hR h27 a22 1) (fun o28 => (nn o28 (fun a29 => (if okA h27 a29 20 x23 = true then (lt_ (sI h27 a29 (ix x23) (-9)) (fun h30 => (lt_ (x23 + 1) (fun x31 => (c_X8_init_L62 F a22 n x31 h30))))) else none))))) else none))) else none))))) else none))
def c_X8_init (F : Nat) (a0 : Nat) (h0 : z_Hp) : Option (z_Hp) := (if inb 8 100000 = true then (nwo h0 20 (ix 8) (fun a1 h2 => (if hT h2 a0 = 8 then (lt_ (sR h2 a0 0 (some a1)) (fun h3 => (if inb 8 100000 = true then (nwo h3 20 (ix 8) (fun a4 h5 => (if hT h5 a0 = 8 then (lt_ (sR h5 a0 1 (some a4)) (fun h6 => (if inb 20 100000 = true then (nwo h6 20 (ix 20) (fun a7 h8 => (if hT h8 a0 = 8 then (lt_ (sR h8 a0 2 (some a7)) (fun h9 => (if inb 10 100000 = true then (nwo h9 20 (ix 10) (fun a10 h11 => (if hT h11 a0 = 8 then (lt_ (sR h11 a0 3 (some a10)) (fun h12 => (if inb 10 100000 = true then (nwo h12 20 (ix 10) (fun a13 h14 => (if hT h14 a0 = 8 then (lt_ (sR h14 a0 4 (some a13)) (fun h15 => (if inb 20 100000 = true then (nwo h15 20 (ix 20) (fun a16 h17 => (if hT h17 a0 = 8 then (lt_ (sR h17 a0 5 (some a16)) (fun h18 => (if inb 20 100000 = true then (nwo h18 20 (ix 20) (fun a19 h20 => (if hT h20 a0 = 8 then (lt_ (sR h20 a0 6 (some a19)) (fun h21 => (c_X8_init_L62 F a0 F 0 h21))) else none))) else none))) else none))) else none))) else none))) else none))) else none))) else none))) else none))) else none))) else none))) else none))) else none))) else none)
set_option maxRecDepth 20000 in
set_option maxHeartbeats 4000000 in
theorem g_X8_init_L62 (F : Nat) (a22 : Nat) : ∀ (n : Nat) (x23 : Int32) (h24 : z_Hp), z_G zv mi_X8_init 62 [(0, vr (some a22)), (1, vi x23)] [] h24 (c_X8_init_L62 F a22 n x23 h24) := by
  intro n
  induction n with
  | zero => intro x23 h24; rw [c_X8_init_L62]; exact z_none
  | succ n ih =>
    intro x23 h24
    rw [c_X8_init_L62]
    refine z_iload_n (pc := 62) dX8_init_62 rfl 1 rfl (z_bipush (pc := 63) dX8_init_63 bp_8 (?_))
    refine z_icmp_ge (pc := 65) (tgt := 90) dX8_init_65 (by decide) ?_ ?_
    · exact z_vret (pc := 90) dX8_init_90 rfl
    · refine z_aload_n (pc := 68) dX8_init_68 rfl 0 rfl (z_getRl (pc := 69) fl_RX8_9 rfl dX8_init_69 (fun o25 => (z_iload_n (pc := 72) dX8_init_72 rfl 1 rfl (z_bipush (pc := 73) dX8_init_73 bp_m9 (?_)))))
      refine z_nn (fun a26 ea26 => ?_)
      subst ea26
      refine z_iastorel (pc := 75) dX8_init_75 (fun h27 => (z_aload_n (pc := 76) dX8_init_76 rfl 0 rfl (z_getRl (pc := 77) fl_RX8_15 rfl dX8_init_77 (fun o28 => (z_iload_n (pc := 80) dX8_init_80 rfl 1 rfl (z_bipush (pc := 81) dX8_init_81 bp_m9 (?_)))))))
      refine z_nn (fun a29 ea29 => ?_)
      subst ea29
      refine z_iastorel (pc := 83) dX8_init_83 (fun h30 => (z_iincl (pc := 84) (L' := fun x31 => [(0, vr (some a22)), (1, vi x31)]) dX8_init_84 1 rfl ic_1 (Nat.le_of_ble_eq_true rfl) (fun _ => rfl) (fun x31 => (z_goto (pc := 87) (tgt := 62) dX8_init_87 (by decide) (?_)))))
      exact ih x31 h30
set_option maxRecDepth 20000 in
set_option maxHeartbeats 4000000 in
theorem t_X8_init (F : Nat) (a0 : Nat) (h0 : z_Hp) : z_Ct zv mi_X8_init [vr (some a0)] h0 (c_X8_init F a0 h0) := by
  refine z_entry (by decide) (Nat.le_of_ble_eq_true rfl) [(0, vr (some a0))] rfl ?_
  unfold c_X8_init
  refine z_aload_n (pc := 0) dX8_init_0 rfl 0 rfl (z_objinit (pc := 1) wo_RX8_3 wo_im wo_cd (Nat.le_of_ble_eq_true rfl) (Nat.le_of_ble_eq_true rfl) (Nat.le_of_ble_eq_true rfl) dX8_init_1 (z_aload_n (pc := 4) dX8_init_4 rfl 0 rfl (z_bipush (pc := 5) dX8_init_5 bp_8 (z_newarrl (pc := 7) 20 (by decide) rfl wa_20 dX8_init_7 (fun a1 h2 => (z_putRl (pc := 9) fl_RX8_9 fin_X8_init_8_0 rfl dX8_init_9 (fun h3 => (z_aload_n (pc := 12) dX8_init_12 rfl 0 rfl (z_bipush (pc := 13) dX8_init_13 bp_8 (?_))))))))))
  refine z_newarrl (pc := 15) 20 (by decide) rfl wa_20 dX8_init_15 (fun a4 h5 => (z_putRl (pc := 17) fl_RX8_15 fin_X8_init_8_1 rfl dX8_init_17 (fun h6 => (z_aload_n (pc := 20) dX8_init_20 rfl 0 rfl (z_bipush (pc := 21) dX8_init_21 bp_20 (z_newarrl (pc := 23) 20 (by decide) rfl wa_20 dX8_init_23 (fun a7 h8 => (z_putRl (pc := 25) fl_RX8_18 fin_X8_init_8_2 rfl dX8_init_25 (fun h9 => (z_aload_n (pc := 28) dX8_init_28 rfl 0 rfl (z_bipush (pc := 29) dX8_init_29 bp_10 (?_))))))))))))
  refine z_newarrl (pc := 31) 20 (by decide) rfl wa_20 dX8_init_31 (fun a10 h11 => (z_putRl (pc := 33) fl_RX8_21 fin_X8_init_8_3 rfl dX8_init_33 (fun h12 => (z_aload_n (pc := 36) dX8_init_36 rfl 0 rfl (z_bipush (pc := 37) dX8_init_37 bp_10 (z_newarrl (pc := 39) 20 (by decide) rfl wa_20 dX8_init_39 (fun a13 h14 => (z_putRl (pc := 41) fl_RX8_24 fin_X8_init_8_4 rfl dX8_init_41 (fun h15 => (z_aload_n (pc := 44) dX8_init_44 rfl 0 rfl (z_bipush (pc := 45) dX8_init_45 bp_20 (?_))))))))))))
  refine z_newarrl (pc := 47) 20 (by decide) rfl wa_20 dX8_init_47 (fun a16 h17 => (z_putRl (pc := 49) fl_RX8_27 fin_X8_init_8_5 rfl dX8_init_49 (fun h18 => (z_aload_n (pc := 52) dX8_init_52 rfl 0 rfl (z_bipush (pc := 53) dX8_init_53 bp_20 (z_newarrl (pc := 55) 20 (by decide) rfl wa_20 dX8_init_55 (fun a19 h20 => (z_putRl (pc := 57) fl_RX8_30 fin_X8_init_8_6 rfl dX8_init_57 (fun h21 => (z_iconst (pc := 60) dX8_init_60 ic_0 (z_istore_n (pc := 61) (L' := [(0, vr (some a0)), (1, vi 0)]) dX8_init_61 rfl (Nat.le_of_ble_eq_true rfl) rfl (?_))))))))))))
  refine g_X8_init_L62 F a0 F 0 h21
theorem dX8_setPrinter_0 : decode cX8_setPrinter 0 = .ok (.aload_n 0, 1) := by decide +kernel
theorem dX8_setPrinter_1 : decode cX8_setPrinter 1 = .ok (.getfield 9, 3) := by decide +kernel
theorem dX8_setPrinter_4 : decode cX8_setPrinter 4 = .ok (.iload_n 1, 1) := by decide +kernel
theorem dX8_setPrinter_5 : decode cX8_setPrinter 5 = .ok (.iload_n 2, 1) := by decide +kernel
theorem dX8_setPrinter_6 : decode cX8_setPrinter 6 = .ok (.iastore, 1) := by decide +kernel
theorem dX8_setPrinter_7 : decode cX8_setPrinter 7 = .ok (.aload_n 0, 1) := by decide +kernel
theorem dX8_setPrinter_8 : decode cX8_setPrinter 8 = .ok (.getfield 15, 3) := by decide +kernel
theorem dX8_setPrinter_11 : decode cX8_setPrinter 11 = .ok (.iload_n 1, 1) := by decide +kernel
theorem dX8_setPrinter_12 : decode cX8_setPrinter 12 = .ok (.iload_n 3, 1) := by decide +kernel
theorem dX8_setPrinter_13 : decode cX8_setPrinter 13 = .ok (.iastore, 1) := by decide +kernel
theorem dX8_setPrinter_14 : decode cX8_setPrinter 14 = .ok (.return_, 1) := by decide +kernel
def c_X8_setPrinter (F : Nat) (a0 : Nat) (x1 : Int32) (x2 : Int32) (x3 : Int32) (h0 : z_Hp) : Option (z_Hp) := (if hT h0 a0 = 8 then (lt_ (hR h0 a0 0) (fun o4 => (nn o4 (fun a5 => (if okA h0 a5 20 x1 = true then (lt_ (sI h0 a5 (ix x1) x2) (fun h6 => (if hT h6 a0 = 8 then (lt_ (hR h6 a0 1) (fun o7 => (nn o7 (fun a8 => (if okA h6 a8 20 x1 = true then (lt_ (sI h6 a8 (ix x1) x3) (fun h9 => (some h9))) else none))))) else none))) else none))))) else none)
set_option maxRecDepth 20000 in
set_option maxHeartbeats 4000000 in
theorem t_X8_setPrinter (F : Nat) (a0 : Nat) (x1 : Int32) (x2 : Int32) (x3 : Int32) (h0 : z_Hp) : z_Ct zv mi_X8_setPrinter [vr (some a0), vi x1, vi x2, vi x3] h0 (c_X8_setPrinter F a0 x1 x2 x3 h0) := by
  refine z_entry (by decide) (Nat.le_of_ble_eq_true rfl) [(0, vr (some a0)), (1, vi x1), (2, vi x2), (3, vi x3)] rfl ?_
  unfold c_X8_setPrinter
  refine z_aload_n (pc := 0) dX8_setPrinter_0 rfl 0 rfl (z_getRl (pc := 1) fl_RX8_9 rfl dX8_setPrinter_1 (fun o4 => (z_iload_n (pc := 4) dX8_setPrinter_4 rfl 1 rfl (z_iload_n (pc := 5) dX8_setPrinter_5 rfl 2 rfl (?_)))))
  refine z_nn (fun a5 ea5 => ?_)
  subst ea5
  refine z_iastorel (pc := 6) dX8_setPrinter_6 (fun h6 => (z_aload_n (pc := 7) dX8_setPrinter_7 rfl 0 rfl (z_getRl (pc := 8) fl_RX8_15 rfl dX8_setPrinter_8 (fun o7 => (z_iload_n (pc := 11) dX8_setPrinter_11 rfl 1 rfl (z_iload_n (pc := 12) dX8_setPrinter_12 rfl 3 rfl (?_)))))))
  refine z_nn (fun a8 ea8 => ?_)
  subst ea8
  refine z_iastorel (pc := 13) dX8_setPrinter_13 (fun h9 => (?_))
  exact z_vret (pc := 14) dX8_setPrinter_14 rfl
theorem dX8_findNoOlder_0 : decode cX8_findNoOlder 0 = .ok (.iconst 0, 1) := by decide +kernel
theorem dX8_findNoOlder_1 : decode cX8_findNoOlder 1 = .ok (.istore_n 2, 1) := by decide +kernel
theorem dX8_findNoOlder_2 : decode cX8_findNoOlder 2 = .ok (.iload_n 2, 1) := by decide +kernel
theorem dX8_findNoOlder_3 : decode cX8_findNoOlder 3 = .ok (.aload_n 1, 1) := by decide +kernel
theorem dX8_findNoOlder_4 : decode cX8_findNoOlder 4 = .ok (.getfield 41, 3) := by decide +kernel
theorem dX8_findNoOlder_7 : decode cX8_findNoOlder 7 = .ok (.if_icmp .ge 62, 3) := by decide +kernel
theorem dX8_findNoOlder_10 : decode cX8_findNoOlder 10 = .ok (.aload_n 0, 1) := by decide +kernel
theorem dX8_findNoOlder_11 : decode cX8_findNoOlder 11 = .ok (.getfield 18, 3) := by decide +kernel
theorem dX8_findNoOlder_14 : decode cX8_findNoOlder 14 = .ok (.iload_n 2, 1) := by decide +kernel
theorem dX8_findNoOlder_15 : decode cX8_findNoOlder 15 = .ok (.iconst 0, 1) := by decide +kernel
theorem dX8_findNoOlder_16 : decode cX8_findNoOlder 16 = .ok (.iastore, 1) := by decide +kernel
theorem dX8_findNoOlder_17 : decode cX8_findNoOlder 17 = .ok (.iconst 0, 1) := by decide +kernel
theorem dX8_findNoOlder_18 : decode cX8_findNoOlder 18 = .ok (.istore_n 3, 1) := by decide +kernel
theorem dX8_findNoOlder_19 : decode cX8_findNoOlder 19 = .ok (.iload_n 3, 1) := by decide +kernel
theorem dX8_findNoOlder_20 : decode cX8_findNoOlder 20 = .ok (.aload_n 1, 1) := by decide +kernel
theorem dX8_findNoOlder_21 : decode cX8_findNoOlder 21 = .ok (.getfield 41, 3) := by decide +kernel
theorem dX8_findNoOlder_24 : decode cX8_findNoOlder 24 = .ok (.if_icmp .ge 39, 3) := by decide +kernel
theorem dX8_findNoOlder_27 : decode cX8_findNoOlder 27 = .ok (.aload_n 1, 1) := by decide +kernel
theorem dX8_findNoOlder_28 : decode cX8_findNoOlder 28 = .ok (.getfield 47, 3) := by decide +kernel
theorem dX8_findNoOlder_31 : decode cX8_findNoOlder 31 = .ok (.iload_n 2, 1) := by decide +kernel
theorem dX8_findNoOlder_32 : decode cX8_findNoOlder 32 = .ok (.aaload, 1) := by decide +kernel
theorem dX8_findNoOlder_33 : decode cX8_findNoOlder 33 = .ok (.aload_n 1, 1) := by decide +kernel
theorem dX8_findNoOlder_34 : decode cX8_findNoOlder 34 = .ok (.getfield 47, 3) := by decide +kernel
theorem dX8_findNoOlder_37 : decode cX8_findNoOlder 37 = .ok (.iload_n 3, 1) := by decide +kernel
theorem dX8_findNoOlder_38 : decode cX8_findNoOlder 38 = .ok (.aaload, 1) := by decide +kernel
theorem dX8_findNoOlder_39 : decode cX8_findNoOlder 39 = .ok (.invokevirtual 51, 3) := by decide +kernel
theorem dX8_findNoOlder_42 : decode cX8_findNoOlder 42 = .ok (.ifCond .eq 15, 3) := by decide +kernel
theorem dX8_findNoOlder_45 : decode cX8_findNoOlder 45 = .ok (.aload_n 0, 1) := by decide +kernel
theorem dX8_findNoOlder_46 : decode cX8_findNoOlder 46 = .ok (.getfield 18, 3) := by decide +kernel
theorem dX8_findNoOlder_49 : decode cX8_findNoOlder 49 = .ok (.iload_n 2, 1) := by decide +kernel
theorem dX8_findNoOlder_50 : decode cX8_findNoOlder 50 = .ok (.dup2, 1) := by decide +kernel
theorem dX8_findNoOlder_51 : decode cX8_findNoOlder 51 = .ok (.iaload, 1) := by decide +kernel
theorem dX8_findNoOlder_52 : decode cX8_findNoOlder 52 = .ok (.iconst 1, 1) := by decide +kernel
theorem dX8_findNoOlder_53 : decode cX8_findNoOlder 53 = .ok (.iload_n 3, 1) := by decide +kernel
theorem dX8_findNoOlder_54 : decode cX8_findNoOlder 54 = .ok (.ishl, 1) := by decide +kernel
theorem dX8_findNoOlder_55 : decode cX8_findNoOlder 55 = .ok (.ior, 1) := by decide +kernel
theorem dX8_findNoOlder_56 : decode cX8_findNoOlder 56 = .ok (.iastore, 1) := by decide +kernel
theorem dX8_findNoOlder_57 : decode cX8_findNoOlder 57 = .ok (.iinc 3 1, 3) := by decide +kernel
theorem dX8_findNoOlder_60 : decode cX8_findNoOlder 60 = .ok (.goto (-41), 3) := by decide +kernel
theorem dX8_findNoOlder_63 : decode cX8_findNoOlder 63 = .ok (.iinc 2 1, 3) := by decide +kernel
theorem dX8_findNoOlder_66 : decode cX8_findNoOlder 66 = .ok (.goto (-64), 3) := by decide +kernel
theorem dX8_findNoOlder_69 : decode cX8_findNoOlder 69 = .ok (.iconst 0, 1) := by decide +kernel
theorem dX8_findNoOlder_70 : decode cX8_findNoOlder 70 = .ok (.istore_n 2, 1) := by decide +kernel
theorem dX8_findNoOlder_71 : decode cX8_findNoOlder 71 = .ok (.iload_n 2, 1) := by decide +kernel
theorem dX8_findNoOlder_72 : decode cX8_findNoOlder 72 = .ok (.aload_n 1, 1) := by decide +kernel
theorem dX8_findNoOlder_73 : decode cX8_findNoOlder 73 = .ok (.getfield 41, 3) := by decide +kernel
theorem dX8_findNoOlder_76 : decode cX8_findNoOlder 76 = .ok (.if_icmp .ge 53, 3) := by decide +kernel
theorem dX8_findNoOlder_79 : decode cX8_findNoOlder 79 = .ok (.iconst 0, 1) := by decide +kernel
theorem dX8_findNoOlder_80 : decode cX8_findNoOlder 80 = .ok (.istore_n 3, 1) := by decide +kernel
theorem dX8_findNoOlder_81 : decode cX8_findNoOlder 81 = .ok (.iload_n 3, 1) := by decide +kernel
theorem dX8_findNoOlder_82 : decode cX8_findNoOlder 82 = .ok (.aload_n 1, 1) := by decide +kernel
theorem dX8_findNoOlder_83 : decode cX8_findNoOlder 83 = .ok (.getfield 41, 3) := by decide +kernel
theorem dX8_findNoOlder_86 : decode cX8_findNoOlder 86 = .ok (.if_icmp .ge 37, 3) := by decide +kernel
theorem dX8_findNoOlder_89 : decode cX8_findNoOlder 89 = .ok (.aload_n 0, 1) := by decide +kernel
theorem dX8_findNoOlder_90 : decode cX8_findNoOlder 90 = .ok (.getfield 18, 3) := by decide +kernel
theorem dX8_findNoOlder_93 : decode cX8_findNoOlder 93 = .ok (.iload_n 3, 1) := by decide +kernel
theorem dX8_findNoOlder_94 : decode cX8_findNoOlder 94 = .ok (.iaload, 1) := by decide +kernel
theorem dX8_findNoOlder_95 : decode cX8_findNoOlder 95 = .ok (.iload_n 2, 1) := by decide +kernel
theorem dX8_findNoOlder_96 : decode cX8_findNoOlder 96 = .ok (.invokestatic 57, 3) := by decide +kernel
theorem dX8_findNoOlder_99 : decode cX8_findNoOlder 99 = .ok (.ifCond .eq 18, 3) := by decide +kernel
theorem dX8_findNoOlder_102 : decode cX8_findNoOlder 102 = .ok (.aload_n 0, 1) := by decide +kernel
theorem dX8_findNoOlder_103 : decode cX8_findNoOlder 103 = .ok (.getfield 18, 3) := by decide +kernel
theorem dX8_findNoOlder_106 : decode cX8_findNoOlder 106 = .ok (.iload_n 3, 1) := by decide +kernel
theorem dX8_findNoOlder_107 : decode cX8_findNoOlder 107 = .ok (.dup2, 1) := by decide +kernel
theorem dX8_findNoOlder_108 : decode cX8_findNoOlder 108 = .ok (.iaload, 1) := by decide +kernel
theorem dX8_findNoOlder_109 : decode cX8_findNoOlder 109 = .ok (.aload_n 0, 1) := by decide +kernel
theorem dX8_findNoOlder_110 : decode cX8_findNoOlder 110 = .ok (.getfield 18, 3) := by decide +kernel
theorem dX8_findNoOlder_113 : decode cX8_findNoOlder 113 = .ok (.iload_n 2, 1) := by decide +kernel
theorem dX8_findNoOlder_114 : decode cX8_findNoOlder 114 = .ok (.iaload, 1) := by decide +kernel
theorem dX8_findNoOlder_115 : decode cX8_findNoOlder 115 = .ok (.ior, 1) := by decide +kernel
theorem dX8_findNoOlder_116 : decode cX8_findNoOlder 116 = .ok (.iastore, 1) := by decide +kernel
theorem dX8_findNoOlder_117 : decode cX8_findNoOlder 117 = .ok (.iinc 3 1, 3) := by decide +kernel
theorem dX8_findNoOlder_120 : decode cX8_findNoOlder 120 = .ok (.goto (-39), 3) := by decide +kernel
theorem dX8_findNoOlder_123 : decode cX8_findNoOlder 123 = .ok (.iinc 2 1, 3) := by decide +kernel
theorem dX8_findNoOlder_126 : decode cX8_findNoOlder 126 = .ok (.goto (-55), 3) := by decide +kernel
theorem dX8_findNoOlder_129 : decode cX8_findNoOlder 129 = .ok (.return_, 1) := by decide +kernel
def c_X8_findNoOlder_L19 (F : Nat) (a11 : Nat) (a12 : Nat) (x13 : Int32) (k63 : z_Hp → Option (z_Hp)) : Nat → Int32 → z_Hp → Option (z_Hp)
  | 0, _, _ => none
  | n + 1, x14, h15 => (if hT h15 a12 = 6 then (if (hI h15 a12 1) ≤ x14 then (k63 h15) else (if hT h15 a12 = 6 then (lt_ (hR h15 a12 0) (fun o17 => (nn o17 (fun a18 => (if okA h15 a18 26 x13 = true then (lt_ (hR h15 a18 (ix x13)) (fun o19 => (if hT h15 a12 = 6 then (lt_ (hR h15 a12 0) (fun o20 => (nn o20 (fun a21 => (if okA h15 a21 26 x14 = true then (lt_ (hR h15 a21 (ix x14)) (fun o22 => (nn o19 (fun a23 => (if hT h15 a23 = 5 then (bI (c_X5_isAheadOf F a23 o22 h15) (fun x25 h24 => (lt_ (fun (h27 : z_Hp) => (lt_ (x14 + 1) (fun x28 => (c_X8_findNoOlder_L19 F a11 a12 x13 k63 n x28 h27)))) (fun (j57_26 : z_Hp → Option (z_Hp)) => (if x25 = 0 then (j57_26 h24) else (if hT h24 a11 = 8 then (lt_ (hR h24 a11 2) (fun o29 => (nn o29 (fun a30 => (if okA h24 a30 20 x13 = true then (if okA h24 a30 20 x13 = true then (lt_ (sI h24 a30 (ix x13) ((hI h24 a30 (ix x13)) ||| (1 <<< (x14 &&& 31)))) (fun h31 => (j57_26 h31))) else none) else none))))) else none)))))) else none))))) else none))))) else none))) else none))))) else none)) else none)
def c_X8_findNoOlder_L2 (F : Nat) (a2 : Nat) (o3 : Option Nat) (k69 : z_Hp → Option (z_Hp)) : Nat → Int32 → z_Hp → Option (z_Hp)
  | 0, _, _ => none
  | n + 1, x4, h5 => (nn o3 (fun a7 => (if hT h5 a7 = 6 then (if (hI h5 a7 1) ≤ x4 then (k69 h5) else (if hT h5 a2 = 8 then (lt_ (hR h5 a2 2) (fun o8 => (nn o8 (fun a9 => (if okA h5 a9 20 x4 = true then (lt_ (sI h5 a9 (ix x4) 0) (fun h10 => (c_X8_findNoOlder_L19 F a2 a7 x4 (fun h32 => (lt_ (x4 + 1) (fun x33 => (c_X8_findNoOlder_L2 F a2 o3 k69 n x33 h32)))) F 0 h10))) else none))))) else none)) else none)))
def c_X8_findNoOlder_L81 (F : Nat) (a40 : Nat) (a41 : Nat) (x42 : Int32) (k123 : z_Hp → Option (z_Hp)) : Nat → Int32 → z_Hp → Option (z_Hp)
  | 0, _, _ => none
  | n + 1, x43, h44 => (if hT h44 a41 = 6 then (if (hI h44 a41 1) ≤ x43 then (k123 h44) else (if hT h44 a40 = 8 then (lt_ (hR h44 a40 2) (fun o46 => (nn o46 (fun a47 => (if okA h44 a47 20 x43 = true then (bI (c_X9_has F (hI h44 a47 (ix x43)) x42 h44) (fun x49 h48 => (lt_ (fun (h51 : z_Hp) => (lt_ (x43 + 1) (fun x52 => (c_X8_findNoOlder_L81 F a40 a41 x42 k123 n x52 h51)))) (fun (j117_50 : z_Hp → Option (z_Hp)) => (if x49 = 0 then (j117_50 h48) else (if hT h48 a40 = 8 then (lt_ (hR h48 a40 2) (fun o53 => (nn o53 (fun a54 => (if okA h48 a54 20 x43 = true then (if hT h48 a40 = 8 then (lt_ (hR h48 a40 2) (fun o55 => (nn o55 (fun a56 => (if okA h48 a56 20 x42 = true then (if okA h48 a54 20 x43 = true then (lt_ (sI h48 a54 (ix x43) ((hI h48 a54 (ix x43)) ||| (hI h48 a56 (ix x42)))) (fun h57 => (j117_50 h57))) else none) else none))))) else none) else none))))) else none)))))) else none))))) else none)) else none)
def c_X8_findNoOlder_L71 (F : Nat) (a35 : Nat) (o36 : Option Nat) : Nat → Int32 → z_Hp → Option (z_Hp)
  | 0, _, _ => none
  | n + 1, x37, h38 => (nn o36 (fun a39 => (if hT h38 a39 = 6 then (if (hI h38 a39 1) ≤ x37 then (some h38) else (c_X8_findNoOlder_L81 F a35 a39 x37 (fun h58 => (lt_ (x37 + 1) (fun x59 => (c_X8_findNoOlder_L71 F a35 o36 n x59 h58)))) F 0 h38)) else none)))
def c_X8_findNoOlder (F : Nat) (a0 : Nat) (o1 : Option Nat) (h0 : z_Hp) : Option (z_Hp) := (c_X8_findNoOlder_L2 F a0 o1 (fun h34 => (c_X8_findNoOlder_L71 F a0 o1 F 0 h34)) F 0 h0)
set_option maxRecDepth 20000 in
set_option maxHeartbeats 4000000 in
theorem g_X8_findNoOlder_L19 (F : Nat) (a11 : Nat) (a12 : Nat) (x13 : Int32) (k63 : z_Hp → Option (z_Hp)) (qk63 : ∀ (h16 : z_Hp), z_G zv mi_X8_findNoOlder 63 [(0, vr (some a11)), (1, vr (some a12)), (2, vi x13)] [] h16 (k63 h16)) : ∀ (n : Nat) (x14 : Int32) (h15 : z_Hp), z_G zv mi_X8_findNoOlder 19 [(0, vr (some a11)), (1, vr (some a12)), (2, vi x13), (3, vi x14)] [] h15 (c_X8_findNoOlder_L19 F a11 a12 x13 k63 n x14 h15) := by
  intro n
  induction n with
  | zero => intro x14 h15; rw [c_X8_findNoOlder_L19]; exact z_none
  | succ n ih =>
    intro x14 h15
    rw [c_X8_findNoOlder_L19]
    refine z_iload_n (pc := 19) dX8_findNoOlder_19 rfl 3 rfl (z_aload_n (pc := 20) dX8_findNoOlder_20 rfl 1 rfl (z_getI (pc := 21) fl_RX8_41 rfl dX8_findNoOlder_21 (?_)))
    refine z_icmp_ge (pc := 24) (tgt := 63) dX8_findNoOlder_24 (by decide) ?_ ?_
    · exact z_sub [0, 1, 2] rfl (qk63 h15)
    · refine z_aload_n (pc := 27) dX8_findNoOlder_27 rfl 1 rfl (z_getRl (pc := 28) fl_RX8_47 rfl dX8_findNoOlder_28 (fun o17 => (z_iload_n (pc := 31) dX8_findNoOlder_31 rfl 2 rfl (?_))))
      refine z_nn (fun a18 ea18 => ?_)
      subst ea18
      refine z_aaloadl (pc := 32) 26 (by decide) dX8_findNoOlder_32 (fun o19 => (z_aload_n (pc := 33) dX8_findNoOlder_33 rfl 1 rfl (z_getRl (pc := 34) fl_RX8_47 rfl dX8_findNoOlder_34 (fun o20 => (z_iload_n (pc := 37) dX8_findNoOlder_37 rfl 3 rfl (?_))))))
      refine z_nn (fun a21 ea21 => ?_)
      subst ea21
      refine z_aaloadl (pc := 38) 26 (by decide) dX8_findNoOlder_38 (fun o22 => (?_))
      refine z_nn (fun a23 ea23 => ?_)
      subst ea23
      refine z_callV_I (pc := 39) (avs := [vr o22]) (st := []) rfl (q := (RX5, TX5, 11)) rfl rfl (t_X5_isAheadOf F a23 o22 h15) ky_X5_isAheadOf wm_X5_isAheadOf we_X5_isAheadOf wz_RX8_51 (rm_X8_findNoOlder_X5_isAheadOf) (Nat.le_of_ble_eq_true rfl) dX8_findNoOlder_39 (fun x25 h24 => (?_))
      refine z_jn (P := fun (j : z_Hp → Option (z_Hp)) => ∀ (h27 : z_Hp), z_G zv mi_X8_findNoOlder 57 [(0, vr (some a11)), (1, vr (some a12)), (2, vi x13), (3, vi x14)] [] h27 (j h27)) (fun h27 => ?_) (fun j57_26 qj57_26 => ?_)
      · refine z_iincl (pc := 57) (L' := fun x28 => [(0, vr (some a11)), (1, vr (some a12)), (2, vi x13), (3, vi x28)]) dX8_findNoOlder_57 3 rfl ic_1 (Nat.le_of_ble_eq_true rfl) (fun _ => rfl) (fun x28 => (z_goto (pc := 60) (tgt := 19) dX8_findNoOlder_60 (by decide) (?_)))
        exact ih x28 h27
      refine z_if_eq (pc := 42) (tgt := 57) dX8_findNoOlder_42 (by decide) ?_ ?_
      · exact qj57_26 h24
      · refine z_aload_n (pc := 45) dX8_findNoOlder_45 rfl 0 rfl (z_getRl (pc := 46) fl_RX8_18 rfl dX8_findNoOlder_46 (fun o29 => (z_iload_n (pc := 49) dX8_findNoOlder_49 rfl 2 rfl (z_dup2 (pc := 50) dX8_findNoOlder_50 rfl rfl (?_)))))
        refine z_nn (fun a30 ea30 => ?_)
        subst ea30
        refine z_iaload (pc := 51) dX8_findNoOlder_51 (z_iconst (pc := 52) dX8_findNoOlder_52 ic_1 (z_iload_n (pc := 53) dX8_findNoOlder_53 rfl 3 rfl (z_ishl (pc := 54) dX8_findNoOlder_54 (z_ior (pc := 55) dX8_findNoOlder_55 (z_iastorel (pc := 56) dX8_findNoOlder_56 (fun h31 => (?_)))))))
        exact qj57_26 h31
set_option maxRecDepth 20000 in
set_option maxHeartbeats 4000000 in
theorem g_X8_findNoOlder_L2 (F : Nat) (a2 : Nat) (o3 : Option Nat) (k69 : z_Hp → Option (z_Hp)) (qk69 : ∀ (h6 : z_Hp), z_G zv mi_X8_findNoOlder 69 [(0, vr (some a2)), (1, vr o3)] [] h6 (k69 h6)) : ∀ (n : Nat) (x4 : Int32) (h5 : z_Hp), z_G zv mi_X8_findNoOlder 2 [(0, vr (some a2)), (1, vr o3), (2, vi x4)] [] h5 (c_X8_findNoOlder_L2 F a2 o3 k69 n x4 h5) := by
  intro n
  induction n with
  | zero => intro x4 h5; rw [c_X8_findNoOlder_L2]; exact z_none
  | succ n ih =>
    intro x4 h5
    rw [c_X8_findNoOlder_L2]
    refine z_iload_n (pc := 2) dX8_findNoOlder_2 rfl 2 rfl (z_aload_n (pc := 3) dX8_findNoOlder_3 rfl 1 rfl (?_))
    refine z_nn (fun a7 ea7 => ?_)
    subst ea7
    refine z_getI (pc := 4) fl_RX8_41 rfl dX8_findNoOlder_4 (?_)
    refine z_icmp_ge (pc := 7) (tgt := 69) dX8_findNoOlder_7 (by decide) ?_ ?_
    · exact z_sub [0, 1] rfl (qk69 h5)
    · refine z_aload_n (pc := 10) dX8_findNoOlder_10 rfl 0 rfl (z_getRl (pc := 11) fl_RX8_18 rfl dX8_findNoOlder_11 (fun o8 => (z_iload_n (pc := 14) dX8_findNoOlder_14 rfl 2 rfl (z_iconst (pc := 15) dX8_findNoOlder_15 ic_0 (?_)))))
      refine z_nn (fun a9 ea9 => ?_)
      subst ea9
      refine z_iastorel (pc := 16) dX8_findNoOlder_16 (fun h10 => (z_iconst (pc := 17) dX8_findNoOlder_17 ic_0 (z_istore_n (pc := 18) (L' := [(0, vr (some a2)), (1, vr (some a7)), (2, vi x4), (3, vi 0)]) dX8_findNoOlder_18 rfl (Nat.le_of_ble_eq_true rfl) rfl (?_))))
      refine g_X8_findNoOlder_L19 F a2 a7 x4 _ (fun h32 => ?_) F 0 h10
      refine z_iincl (pc := 63) (L' := fun x33 => [(0, vr (some a2)), (1, vr (some a7)), (2, vi x33)]) dX8_findNoOlder_63 2 rfl ic_1 (Nat.le_of_ble_eq_true rfl) (fun _ => rfl) (fun x33 => (z_goto (pc := 66) (tgt := 2) dX8_findNoOlder_66 (by decide) (?_)))
      exact ih x33 h32
set_option maxRecDepth 20000 in
set_option maxHeartbeats 4000000 in
theorem g_X8_findNoOlder_L81 (F : Nat) (a40 : Nat) (a41 : Nat) (x42 : Int32) (k123 : z_Hp → Option (z_Hp)) (qk123 : ∀ (h45 : z_Hp), z_G zv mi_X8_findNoOlder 123 [(0, vr (some a40)), (1, vr (some a41)), (2, vi x42)] [] h45 (k123 h45)) : ∀ (n : Nat) (x43 : Int32) (h44 : z_Hp), z_G zv mi_X8_findNoOlder 81 [(0, vr (some a40)), (1, vr (some a41)), (2, vi x42), (3, vi x43)] [] h44 (c_X8_findNoOlder_L81 F a40 a41 x42 k123 n x43 h44) := by
  intro n
  induction n with
  | zero => intro x43 h44; rw [c_X8_findNoOlder_L81]; exact z_none
  | succ n ih =>
    intro x43 h44
    rw [c_X8_findNoOlder_L81]
    refine z_iload_n (pc := 81) dX8_findNoOlder_81 rfl 3 rfl (z_aload_n (pc := 82) dX8_findNoOlder_82 rfl 1 rfl (z_getI (pc := 83) fl_RX8_41 rfl dX8_findNoOlder_83 (?_)))
    refine z_icmp_ge (pc := 86) (tgt := 123) dX8_findNoOlder_86 (by decide) ?_ ?_
    · exact z_sub [0, 1, 2] rfl (qk123 h44)
    · refine z_aload_n (pc := 89) dX8_findNoOlder_89 rfl 0 rfl (z_getRl (pc := 90) fl_RX8_18 rfl dX8_findNoOlder_90 (fun o46 => (z_iload_n (pc := 93) dX8_findNoOlder_93 rfl 3 rfl (?_))))
      refine z_nn (fun a47 ea47 => ?_)
      subst ea47
      refine z_iaload (pc := 94) dX8_findNoOlder_94 (z_iload_n (pc := 95) dX8_findNoOlder_95 rfl 2 rfl (z_callSN_I (pc := 96) (host := "BalladSheets") (avs := [vi (hI h44 a47 (ix x43)), vi x42]) (st := []) rfl (t_X9_has F (hI h44 a47 (ix x43)) x42 h44) ky_X9_has ws_X9_has (by decide +kernel) (rm_X8_findNoOlder_X9_has) (Nat.le_of_ble_eq_true rfl) dX8_findNoOlder_96 (fun x49 h48 => (?_))))
      refine z_jn (P := fun (j : z_Hp → Option (z_Hp)) => ∀ (h51 : z_Hp), z_G zv mi_X8_findNoOlder 117 [(0, vr (some a40)), (1, vr (some a41)), (2, vi x42), (3, vi x43)] [] h51 (j h51)) (fun h51 => ?_) (fun j117_50 qj117_50 => ?_)
      · refine z_iincl (pc := 117) (L' := fun x52 => [(0, vr (some a40)), (1, vr (some a41)), (2, vi x42), (3, vi x52)]) dX8_findNoOlder_117 3 rfl ic_1 (Nat.le_of_ble_eq_true rfl) (fun _ => rfl) (fun x52 => (z_goto (pc := 120) (tgt := 81) dX8_findNoOlder_120 (by decide) (?_)))
        exact ih x52 h51
      refine z_if_eq (pc := 99) (tgt := 117) dX8_findNoOlder_99 (by decide) ?_ ?_
      · exact qj117_50 h48
      · refine z_aload_n (pc := 102) dX8_findNoOlder_102 rfl 0 rfl (z_getRl (pc := 103) fl_RX8_18 rfl dX8_findNoOlder_103 (fun o53 => (z_iload_n (pc := 106) dX8_findNoOlder_106 rfl 3 rfl (z_dup2 (pc := 107) dX8_findNoOlder_107 rfl rfl (?_)))))
        refine z_nn (fun a54 ea54 => ?_)
        subst ea54
        refine z_iaload (pc := 108) dX8_findNoOlder_108 (z_aload_n (pc := 109) dX8_findNoOlder_109 rfl 0 rfl (z_getRl (pc := 110) fl_RX8_18 rfl dX8_findNoOlder_110 (fun o55 => (z_iload_n (pc := 113) dX8_findNoOlder_113 rfl 2 rfl (?_)))))
        refine z_nn (fun a56 ea56 => ?_)
        subst ea56
        refine z_iaload (pc := 114) dX8_findNoOlder_114 (z_ior (pc := 115) dX8_findNoOlder_115 (z_iastorel (pc := 116) dX8_findNoOlder_116 (fun h57 => (?_))))
        exact qj117_50 h57
set_option maxRecDepth 20000 in
set_option maxHeartbeats 4000000 in
theorem g_X8_findNoOlder_L71 (F : Nat) (a35 : Nat) (o36 : Option Nat) : ∀ (n : Nat) (x37 : Int32) (h38 : z_Hp), z_G zv mi_X8_findNoOlder 71 [(0, vr (some a35)), (1, vr o36), (2, vi x37)] [] h38 (c_X8_findNoOlder_L71 F a35 o36 n x37 h38) := by
  intro n
  induction n with
  | zero => intro x37 h38; rw [c_X8_findNoOlder_L71]; exact z_none
  | succ n ih =>
    intro x37 h38
    rw [c_X8_findNoOlder_L71]
    refine z_iload_n (pc := 71) dX8_findNoOlder_71 rfl 2 rfl (z_aload_n (pc := 72) dX8_findNoOlder_72 rfl 1 rfl (?_))
    refine z_nn (fun a39 ea39 => ?_)
    subst ea39
    refine z_getI (pc := 73) fl_RX8_41 rfl dX8_findNoOlder_73 (?_)
    refine z_icmp_ge (pc := 76) (tgt := 129) dX8_findNoOlder_76 (by decide) ?_ ?_
    · exact z_vret (pc := 129) dX8_findNoOlder_129 rfl
    · refine z_iconst (pc := 79) dX8_findNoOlder_79 ic_0 (z_istore_n (pc := 80) (L' := [(0, vr (some a35)), (1, vr (some a39)), (2, vi x37), (3, vi 0)]) dX8_findNoOlder_80 rfl (Nat.le_of_ble_eq_true rfl) rfl (?_))
      refine g_X8_findNoOlder_L81 F a35 a39 x37 _ (fun h58 => ?_) F 0 h38
      refine z_iincl (pc := 123) (L' := fun x59 => [(0, vr (some a35)), (1, vr (some a39)), (2, vi x59)]) dX8_findNoOlder_123 2 rfl ic_1 (Nat.le_of_ble_eq_true rfl) (fun _ => rfl) (fun x59 => (z_goto (pc := 126) (tgt := 71) dX8_findNoOlder_126 (by decide) (?_)))
      exact ih x59 h58
set_option maxRecDepth 20000 in
set_option maxHeartbeats 4000000 in
theorem t_X8_findNoOlder (F : Nat) (a0 : Nat) (o1 : Option Nat) (h0 : z_Hp) : z_Ct zv mi_X8_findNoOlder [vr (some a0), vr o1] h0 (c_X8_findNoOlder F a0 o1 h0) := by
  refine z_entry (by decide) (Nat.le_of_ble_eq_true rfl) [(0, vr (some a0)), (1, vr o1)] rfl ?_
  unfold c_X8_findNoOlder
  refine z_iconst (pc := 0) dX8_findNoOlder_0 ic_0 (z_istore_n (pc := 1) (L' := [(0, vr (some a0)), (1, vr o1), (2, vi 0)]) dX8_findNoOlder_1 rfl (Nat.le_of_ble_eq_true rfl) rfl (?_))
  refine g_X8_findNoOlder_L2 F a0 o1 _ (fun h34 => ?_) F 0 h0
  refine z_iconst (pc := 69) dX8_findNoOlder_69 ic_0 (z_istore_n (pc := 70) (L' := [(0, vr (some a0)), (1, vr o1), (2, vi 0)]) dX8_findNoOlder_70 rfl (Nat.le_of_ble_eq_true rfl) rfl (?_))
  refine g_X8_findNoOlder_L71 F a0 o1 F 0 h34
theorem dJ9_max_7cf53_0 : decode cJ9_max_7cf53 0 = .ok (.iload_n 0, 1) := by decide +kernel
theorem dJ9_max_7cf53_1 : decode cJ9_max_7cf53 1 = .ok (.iload_n 1, 1) := by decide +kernel
theorem dJ9_max_7cf53_2 : decode cJ9_max_7cf53 2 = .ok (.if_icmp .lt 7, 3) := by decide +kernel
theorem dJ9_max_7cf53_5 : decode cJ9_max_7cf53 5 = .ok (.iload_n 0, 1) := by decide +kernel
theorem dJ9_max_7cf53_6 : decode cJ9_max_7cf53 6 = .ok (.goto 4, 3) := by decide +kernel
theorem dJ9_max_7cf53_9 : decode cJ9_max_7cf53 9 = .ok (.iload_n 1, 1) := by decide +kernel
theorem dJ9_max_7cf53_10 : decode cJ9_max_7cf53 10 = .ok (.ireturn, 1) := by decide +kernel
def c_J9_max_7cf53 (F : Nat) (x1 : Int32) (x2 : Int32) (h0 : z_Hp) : Option (Int32 × z_Hp) := (if x1 < x2 then (some (x2, h0)) else (some (x1, h0)))
set_option maxRecDepth 20000 in
set_option maxHeartbeats 4000000 in
theorem t_J9_max_7cf53 (F : Nat) (x1 : Int32) (x2 : Int32) (h0 : z_Hp) : z_Ct zi mi_J9_max_7cf53 [vi x1, vi x2] h0 (c_J9_max_7cf53 F x1 x2 h0) := by
  refine z_entryF pf_max (Nat.le_of_ble_eq_true rfl) [(0, vi x1), (1, vi x2)] rfl ?_
  unfold c_J9_max_7cf53
  refine z_iload_n (pc := 0) dJ9_max_7cf53_0 rfl 0 rfl (z_iload_n (pc := 1) dJ9_max_7cf53_1 rfl 1 rfl (?_))
  refine z_icmp_lt (pc := 2) (tgt := 9) dJ9_max_7cf53_2 (by decide) ?_ ?_
  · refine z_iload_n (pc := 9) dJ9_max_7cf53_9 rfl 1 rfl (?_)
    exact z_iret (pc := 10) dJ9_max_7cf53_10 rfl rfl
  · refine z_iload_n (pc := 5) dJ9_max_7cf53_5 rfl 0 rfl (z_goto (pc := 6) (tgt := 10) dJ9_max_7cf53_6 (by decide) (?_))
    exact z_iret (pc := 10) dJ9_max_7cf53_10 rfl rfl
theorem dX8_boundAlone_0 : decode cX8_boundAlone 0 = .ok (.aload_n 0, 1) := by decide +kernel
theorem dX8_boundAlone_1 : decode cX8_boundAlone 1 = .ok (.getfield 27, 3) := by decide +kernel
theorem dX8_boundAlone_4 : decode cX8_boundAlone 4 = .ok (.iload_n 1, 1) := by decide +kernel
theorem dX8_boundAlone_5 : decode cX8_boundAlone 5 = .ok (.sipush 1500, 3) := by decide +kernel
theorem dX8_boundAlone_8 : decode cX8_boundAlone 8 = .ok (.iastore, 1) := by decide +kernel
theorem dX8_boundAlone_9 : decode cX8_boundAlone 9 = .ok (.aload_n 0, 1) := by decide +kernel
theorem dX8_boundAlone_10 : decode cX8_boundAlone 10 = .ok (.getfield 30, 3) := by decide +kernel
theorem dX8_boundAlone_13 : decode cX8_boundAlone 13 = .ok (.iload_n 1, 1) := by decide +kernel
theorem dX8_boundAlone_14 : decode cX8_boundAlone 14 = .ok (.sipush 1999, 3) := by decide +kernel
theorem dX8_boundAlone_17 : decode cX8_boundAlone 17 = .ok (.iastore, 1) := by decide +kernel
theorem dX8_boundAlone_18 : decode cX8_boundAlone 18 = .ok (.aload_n 2, 1) := by decide +kernel
theorem dX8_boundAlone_19 : decode cX8_boundAlone 19 = .ok (.getfield 74, 3) := by decide +kernel
theorem dX8_boundAlone_22 : decode cX8_boundAlone 22 = .ok (.istore 5, 2) := by decide +kernel
theorem dX8_boundAlone_24 : decode cX8_boundAlone 24 = .ok (.iload 5, 2) := by decide +kernel
theorem dX8_boundAlone_26 : decode cX8_boundAlone 26 = .ok (.bipush (-9), 2) := by decide +kernel
theorem dX8_boundAlone_28 : decode cX8_boundAlone 28 = .ok (.if_icmp .eq 49, 3) := by decide +kernel
theorem dX8_boundAlone_31 : decode cX8_boundAlone 31 = .ok (.aload_n 0, 1) := by decide +kernel
theorem dX8_boundAlone_32 : decode cX8_boundAlone 32 = .ok (.getfield 9, 3) := by decide +kernel
theorem dX8_boundAlone_35 : decode cX8_boundAlone 35 = .ok (.iload 5, 2) := by decide +kernel
theorem dX8_boundAlone_37 : decode cX8_boundAlone 37 = .ok (.iaload, 1) := by decide +kernel
theorem dX8_boundAlone_38 : decode cX8_boundAlone 38 = .ok (.bipush (-9), 2) := by decide +kernel
theorem dX8_boundAlone_40 : decode cX8_boundAlone 40 = .ok (.if_icmp .eq 37, 3) := by decide +kernel
theorem dX8_boundAlone_43 : decode cX8_boundAlone 43 = .ok (.aload_n 0, 1) := by decide +kernel
theorem dX8_boundAlone_44 : decode cX8_boundAlone 44 = .ok (.getfield 27, 3) := by decide +kernel
theorem dX8_boundAlone_47 : decode cX8_boundAlone 47 = .ok (.iload_n 1, 1) := by decide +kernel
theorem dX8_boundAlone_48 : decode cX8_boundAlone 48 = .ok (.aload_n 0, 1) := by decide +kernel
theorem dX8_boundAlone_49 : decode cX8_boundAlone 49 = .ok (.getfield 9, 3) := by decide +kernel
theorem dX8_boundAlone_52 : decode cX8_boundAlone 52 = .ok (.iload 5, 2) := by decide +kernel
theorem dX8_boundAlone_54 : decode cX8_boundAlone 54 = .ok (.iaload, 1) := by decide +kernel
theorem dX8_boundAlone_55 : decode cX8_boundAlone 55 = .ok (.iastore, 1) := by decide +kernel
theorem dX8_boundAlone_56 : decode cX8_boundAlone 56 = .ok (.aload_n 0, 1) := by decide +kernel
theorem dX8_boundAlone_57 : decode cX8_boundAlone 57 = .ok (.getfield 30, 3) := by decide +kernel
theorem dX8_boundAlone_60 : decode cX8_boundAlone 60 = .ok (.iload_n 1, 1) := by decide +kernel
theorem dX8_boundAlone_61 : decode cX8_boundAlone 61 = .ok (.sipush 1999, 3) := by decide +kernel
theorem dX8_boundAlone_64 : decode cX8_boundAlone 64 = .ok (.aload_n 0, 1) := by decide +kernel
theorem dX8_boundAlone_65 : decode cX8_boundAlone 65 = .ok (.getfield 15, 3) := by decide +kernel
theorem dX8_boundAlone_68 : decode cX8_boundAlone 68 = .ok (.iload 5, 2) := by decide +kernel
theorem dX8_boundAlone_70 : decode cX8_boundAlone 70 = .ok (.iaload, 1) := by decide +kernel
theorem dX8_boundAlone_71 : decode cX8_boundAlone 71 = .ok (.iload_n 3, 1) := by decide +kernel
theorem dX8_boundAlone_72 : decode cX8_boundAlone 72 = .ok (.iadd, 1) := by decide +kernel
theorem dX8_boundAlone_73 : decode cX8_boundAlone 73 = .ok (.invokestatic 71, 3) := by decide +kernel
theorem dX8_boundAlone_76 : decode cX8_boundAlone 76 = .ok (.iastore, 1) := by decide +kernel
theorem dX8_boundAlone_77 : decode cX8_boundAlone 77 = .ok (.iload 4, 2) := by decide +kernel
theorem dX8_boundAlone_79 : decode cX8_boundAlone 79 = .ok (.ifCond .eq 48, 3) := by decide +kernel
theorem dX8_boundAlone_82 : decode cX8_boundAlone 82 = .ok (.aload_n 2, 1) := by decide +kernel
theorem dX8_boundAlone_83 : decode cX8_boundAlone 83 = .ok (.invokevirtual 77, 3) := by decide +kernel
theorem dX8_boundAlone_86 : decode cX8_boundAlone 86 = .ok (.ifCond .eq 41, 3) := by decide +kernel
theorem dX8_boundAlone_89 : decode cX8_boundAlone 89 = .ok (.aload_n 0, 1) := by decide +kernel
theorem dX8_boundAlone_90 : decode cX8_boundAlone 90 = .ok (.getfield 27, 3) := by decide +kernel
theorem dX8_boundAlone_93 : decode cX8_boundAlone 93 = .ok (.iload_n 1, 1) := by decide +kernel
theorem dX8_boundAlone_94 : decode cX8_boundAlone 94 = .ok (.aload_n 0, 1) := by decide +kernel
theorem dX8_boundAlone_95 : decode cX8_boundAlone 95 = .ok (.getfield 27, 3) := by decide +kernel
theorem dX8_boundAlone_98 : decode cX8_boundAlone 98 = .ok (.iload_n 1, 1) := by decide +kernel
theorem dX8_boundAlone_99 : decode cX8_boundAlone 99 = .ok (.iaload, 1) := by decide +kernel
theorem dX8_boundAlone_100 : decode cX8_boundAlone 100 = .ok (.aload_n 2, 1) := by decide +kernel
theorem dX8_boundAlone_101 : decode cX8_boundAlone 101 = .ok (.getfield 81, 3) := by decide +kernel
theorem dX8_boundAlone_104 : decode cX8_boundAlone 104 = .ok (.invokestatic 65, 3) := by decide +kernel
theorem dX8_boundAlone_107 : decode cX8_boundAlone 107 = .ok (.iastore, 1) := by decide +kernel
theorem dX8_boundAlone_108 : decode cX8_boundAlone 108 = .ok (.aload_n 0, 1) := by decide +kernel
theorem dX8_boundAlone_109 : decode cX8_boundAlone 109 = .ok (.getfield 30, 3) := by decide +kernel
theorem dX8_boundAlone_112 : decode cX8_boundAlone 112 = .ok (.iload_n 1, 1) := by decide +kernel
theorem dX8_boundAlone_113 : decode cX8_boundAlone 113 = .ok (.aload_n 0, 1) := by decide +kernel
theorem dX8_boundAlone_114 : decode cX8_boundAlone 114 = .ok (.getfield 30, 3) := by decide +kernel
theorem dX8_boundAlone_117 : decode cX8_boundAlone 117 = .ok (.iload_n 1, 1) := by decide +kernel
theorem dX8_boundAlone_118 : decode cX8_boundAlone 118 = .ok (.iaload, 1) := by decide +kernel
theorem dX8_boundAlone_119 : decode cX8_boundAlone 119 = .ok (.aload_n 2, 1) := by decide +kernel
theorem dX8_boundAlone_120 : decode cX8_boundAlone 120 = .ok (.getfield 84, 3) := by decide +kernel
theorem dX8_boundAlone_123 : decode cX8_boundAlone 123 = .ok (.invokestatic 71, 3) := by decide +kernel
theorem dX8_boundAlone_126 : decode cX8_boundAlone 126 = .ok (.iastore, 1) := by decide +kernel
theorem dX8_boundAlone_127 : decode cX8_boundAlone 127 = .ok (.return_, 1) := by decide +kernel
set_option maxRecDepth 20000 in
def c_X8_boundAlone (F : Nat) (a0 : Nat) (x1 : Int32) (o2 : Option Nat) (x3 : Int32) (x4 : Int32) (h0 : z_Hp) : Option (z_Hp) := (if hT h0 a0 = 8 then (lt_ (hR h0 a0 5) (fun o5 => (nn o5 (fun a6 => (if okA h0 a6 20 x1 = true then (lt_ (sI h0 a6 (ix x1) 1500) (fun h7 => (if hT h7 a0 = 8 then (lt_ (hR h7 a0 6) (fun o8 => (nn o8 (fun a9 => (if okA h7 a9 20 x1 = true then (lt_ (sI h7 a9 (ix x1) 1999) (fun h10 => (nn o2 (fun a11 => (if hT h10 a11 = 5 then (lt_ (hI h10 a11 1) (fun x12 => (lt_ (fun (h14 : z_Hp) => (if x4 = 0 then (some h14) else (if hT h14 a11 = 5 then (bI (c_X5_hasSpan F a11 h14) (fun x16 h15 => (if x16 = 0 then (some h15) else (if hT h15 a0 = 8 then (lt_ (hR h15 a0 5) (fun o17 => (if hT h15 a0 = 8 then (lt_ (hR h15 a0 5) (fun o18 => (nn o18 (fun a19 => (if okA h15 a19 20 x1 = true then (if hT h15 a11 = 5 then (bI (c_J9_max_7cf53 F (hI h15 a19 (ix x1)) (hI h15 a11 9) h15) (fun x21 h20 => (nn o17 (fun a22 => (if okA h20 a22 20 x1 = true then (lt_ (sI h20 a22 (ix x1) x21) (fun h23 => (if hT h23 a0 = 8 then (lt_ (hR h23 a0 6) (fun o24 => (if hT h23 a0 = 8 then (lt_ (hR h23 a0 6) (fun o25 => (nn o25 (fun a26 => (if okA h23 a26 20 x1 = true then (if hT h23 a11 = 5 then (bI (c_J9_min_7cf53 F (hI h23 a26 (ix x1)) (hI h23 a11 10) h23) (fun x28 h27 => (nn o24 (fun a29 => (if okA h27 a29 20 x1 = true then (lt_ (sI h27 a29 (ix x1) x28) (fun h30 => (some h30))) else none))))) else none) else none))))) else none))) else none))) else none))))) else none) else none))))) else none))) else none)))) else none))) (fun (j77_13 : z_Hp → Option (z_Hp)) => (if x12 = (-9) then (j77_13 h10) else (if hT h10 a0 = 8 then (lt_ (hR h10 a0 0) (fun o31 => (nn o31 (fun a32 => (if okA h10 a32 20 x12 = true then (if (hI h10 a32 (ix x12)) = (-9) then (j77_13 h10) else (if hT h10 a0 = 8 then (lt_ (hR h10 a0 5) (fun o33 => (if hT h10 a0 = 8 then (lt_ (hR h10 a0 0) (fun o34 => (nn o34 (fun a35 => (if okA h10 a35 20 x12 = true then (nn o33 (fun a36 => (if okA h10 a36 20 x1 = true then (lt_ (sI h10 a36 (ix x1) (hI h10 a35 (ix x12))) (fun h37 => (if hT h37 a0 = 8 then (lt_ (hR h37 a0 6) (fun o38 => (if hT h37 a0 = 8 then (lt_ (hR h37 a0 1) (fun o39 => (nn o39 (fun a40 => (if okA h37 a40 20 x12 = true then (bI (c_J9_min_7cf53 F 1999 ((hI h37 a40 (ix x12)) + x3) h37) (fun x42 h41 => (nn o38 (fun a43 => (if okA h41 a43 20 x1 = true then (lt_ (sI h41 a43 (ix x1) x42) (fun h44 => (j77_13 h44))) else none))))) else none))))) else none))) else none))) else none))) else none))))) else none))) else none)) else none))))) else none)))))) else none))))) else none))))) else none))) else none))))) else none)
set_option maxRecDepth 20000 in
set_option maxHeartbeats 4000000 in
theorem t_X8_boundAlone (F : Nat) (a0 : Nat) (x1 : Int32) (o2 : Option Nat) (x3 : Int32) (x4 : Int32) (h0 : z_Hp) : z_Ct zv mi_X8_boundAlone [vr (some a0), vi x1, vr o2, vi x3, vi x4] h0 (c_X8_boundAlone F a0 x1 o2 x3 x4 h0) := by
  refine z_entry (by decide) (Nat.le_of_ble_eq_true rfl) [(0, vr (some a0)), (1, vi x1), (2, vr o2), (3, vi x3), (4, vi x4)] rfl ?_
  unfold c_X8_boundAlone
  refine z_aload_n (pc := 0) dX8_boundAlone_0 rfl 0 rfl (z_getRl (pc := 1) fl_RX8_27 rfl dX8_boundAlone_1 (fun o5 => (z_iload_n (pc := 4) dX8_boundAlone_4 rfl 1 rfl (z_sipush (pc := 5) dX8_boundAlone_5 sp_1500 (?_)))))
  refine z_nn (fun a6 ea6 => ?_)
  subst ea6
  refine z_iastorel (pc := 8) dX8_boundAlone_8 (fun h7 => (z_aload_n (pc := 9) dX8_boundAlone_9 rfl 0 rfl (z_getRl (pc := 10) fl_RX8_30 rfl dX8_boundAlone_10 (fun o8 => (z_iload_n (pc := 13) dX8_boundAlone_13 rfl 1 rfl (z_sipush (pc := 14) dX8_boundAlone_14 sp_1999 (?_)))))))
  refine z_nn (fun a9 ea9 => ?_)
  subst ea9
  refine z_iastorel (pc := 17) dX8_boundAlone_17 (fun h10 => (z_aload_n (pc := 18) dX8_boundAlone_18 rfl 2 rfl (?_)))
  refine z_nn (fun a11 ea11 => ?_)
  subst ea11
  refine z_getI (pc := 19) fl_RX8_74 rfl dX8_boundAlone_19 (z_istorel (pc := 22) (L' := fun x12 => [(0, vr (some a0)), (1, vi x1), (2, vr (some a11)), (3, vi x3), (4, vi x4), (5, vi x12)]) dX8_boundAlone_22 (Nat.le_of_ble_eq_true rfl) (fun _ => rfl) (fun x12 => (z_iload (pc := 24) dX8_boundAlone_24 5 rfl (z_bipush (pc := 26) dX8_boundAlone_26 bp_m9 (?_)))))
  refine z_jn (P := fun (j : z_Hp → Option (z_Hp)) => ∀ (h14 : z_Hp), z_G zv mi_X8_boundAlone 77 [(0, vr (some a0)), (1, vi x1), (2, vr (some a11)), (4, vi x4)] [] h14 (j h14)) (fun h14 => ?_) (fun j77_13 qj77_13 => ?_)
  · refine z_iload (pc := 77) dX8_boundAlone_77 3 rfl (?_)
    refine z_if_eq (pc := 79) (tgt := 127) dX8_boundAlone_79 (by decide) ?_ ?_
    · exact z_vret (pc := 127) dX8_boundAlone_127 rfl
    · refine z_aload_n (pc := 82) dX8_boundAlone_82 rfl 2 rfl (z_callV_I (pc := 83) (avs := []) (st := []) rfl (q := (RX5, TX5, 11)) rfl rfl (t_X5_hasSpan F a11 h14) ky_X5_hasSpan wm_X5_hasSpan we_X5_hasSpan wz_RX8_77 (rm_X8_boundAlone_X5_hasSpan) (Nat.le_of_ble_eq_true rfl) dX8_boundAlone_83 (fun x16 h15 => (?_)))
      refine z_if_eq (pc := 86) (tgt := 127) dX8_boundAlone_86 (by decide) ?_ ?_
      · exact z_vret (pc := 127) dX8_boundAlone_127 rfl
      · refine z_aload_n (pc := 89) dX8_boundAlone_89 rfl 0 rfl (z_getRl (pc := 90) fl_RX8_27 rfl dX8_boundAlone_90 (fun o17 => (z_iload_n (pc := 93) dX8_boundAlone_93 rfl 1 rfl (z_aload_n (pc := 94) dX8_boundAlone_94 rfl 0 rfl (z_getRl (pc := 95) fl_RX8_27 rfl dX8_boundAlone_95 (fun o18 => (z_iload_n (pc := 98) dX8_boundAlone_98 rfl 1 rfl (?_))))))))
        refine z_nn (fun a19 ea19 => ?_)
        subst ea19
        refine z_iaload (pc := 99) dX8_boundAlone_99 (z_aload_n (pc := 100) dX8_boundAlone_100 rfl 2 rfl (z_getI (pc := 101) fl_RX8_81 rfl dX8_boundAlone_101 (z_callS_I (pc := 104) (avs := [vi (hI h15 a19 (ix x1)), vi (hI h15 a11 9)]) (st := [vi x1, vr o17]) rfl (t_J9_max_7cf53 F (hI h15 a19 (ix x1)) (hI h15 a11 9) h15) ky_J9_max_7cf53 ws_J9_max_7cf53 wz_RX8_65 (rm_X8_boundAlone_J9_max_7cf53) (Nat.le_of_ble_eq_true rfl) dX8_boundAlone_104 (fun x21 h20 => (?_)))))
        refine z_nn (fun a22 ea22 => ?_)
        subst ea22
        refine z_iastorel (pc := 107) dX8_boundAlone_107 (fun h23 => (z_aload_n (pc := 108) dX8_boundAlone_108 rfl 0 rfl (z_getRl (pc := 109) fl_RX8_30 rfl dX8_boundAlone_109 (fun o24 => (z_iload_n (pc := 112) dX8_boundAlone_112 rfl 1 rfl (z_aload_n (pc := 113) dX8_boundAlone_113 rfl 0 rfl (z_getRl (pc := 114) fl_RX8_30 rfl dX8_boundAlone_114 (fun o25 => (z_iload_n (pc := 117) dX8_boundAlone_117 rfl 1 rfl (?_))))))))))
        refine z_nn (fun a26 ea26 => ?_)
        subst ea26
        refine z_iaload (pc := 118) dX8_boundAlone_118 (z_aload_n (pc := 119) dX8_boundAlone_119 rfl 2 rfl (z_getI (pc := 120) fl_RX8_84 rfl dX8_boundAlone_120 (z_callS_I (pc := 123) (avs := [vi (hI h23 a26 (ix x1)), vi (hI h23 a11 10)]) (st := [vi x1, vr o24]) rfl (t_J9_min_7cf53 F (hI h23 a26 (ix x1)) (hI h23 a11 10) h23) ky_J9_min_7cf53 ws_J9_min_7cf53 wz_RX8_71 (rm_X8_boundAlone_J9_min_7cf53) (Nat.le_of_ble_eq_true rfl) dX8_boundAlone_123 (fun x28 h27 => (?_)))))
        refine z_nn (fun a29 ea29 => ?_)
        subst ea29
        refine z_iastorel (pc := 126) dX8_boundAlone_126 (fun h30 => (?_))
        exact z_vret (pc := 127) dX8_boundAlone_127 rfl
  refine z_icmp_eq (pc := 28) (tgt := 77) dX8_boundAlone_28 (by decide) ?_ ?_
  · exact z_sub [0, 1, 2, 4] rfl (qj77_13 h10)
  · refine z_aload_n (pc := 31) dX8_boundAlone_31 rfl 0 rfl (z_getRl (pc := 32) fl_RX8_9 rfl dX8_boundAlone_32 (fun o31 => (z_iload (pc := 35) dX8_boundAlone_35 5 rfl (?_))))
    refine z_nn (fun a32 ea32 => ?_)
    subst ea32
    refine z_iaload (pc := 37) dX8_boundAlone_37 (z_bipush (pc := 38) dX8_boundAlone_38 bp_m9 (?_))
    refine z_icmp_eq (pc := 40) (tgt := 77) dX8_boundAlone_40 (by decide) ?_ ?_
    · exact z_sub [0, 1, 2, 4] rfl (qj77_13 h10)
    · refine z_aload_n (pc := 43) dX8_boundAlone_43 rfl 0 rfl (z_getRl (pc := 44) fl_RX8_27 rfl dX8_boundAlone_44 (fun o33 => (z_iload_n (pc := 47) dX8_boundAlone_47 rfl 1 rfl (z_aload_n (pc := 48) dX8_boundAlone_48 rfl 0 rfl (z_getRl (pc := 49) fl_RX8_9 rfl dX8_boundAlone_49 (fun o34 => (z_iload (pc := 52) dX8_boundAlone_52 5 rfl (?_))))))))
      refine z_nn (fun a35 ea35 => ?_)
      subst ea35
      refine z_iaload (pc := 54) dX8_boundAlone_54 (?_)
      refine z_nn (fun a36 ea36 => ?_)
      subst ea36
      refine z_iastorel (pc := 55) dX8_boundAlone_55 (fun h37 => (z_aload_n (pc := 56) dX8_boundAlone_56 rfl 0 rfl (z_getRl (pc := 57) fl_RX8_30 rfl dX8_boundAlone_57 (fun o38 => (z_iload_n (pc := 60) dX8_boundAlone_60 rfl 1 rfl (z_sipush (pc := 61) dX8_boundAlone_61 sp_1999 (z_aload_n (pc := 64) dX8_boundAlone_64 rfl 0 rfl (z_getRl (pc := 65) fl_RX8_15 rfl dX8_boundAlone_65 (fun o39 => (z_iload (pc := 68) dX8_boundAlone_68 5 rfl (?_)))))))))))
      refine z_nn (fun a40 ea40 => ?_)
      subst ea40
      refine z_iaload (pc := 70) dX8_boundAlone_70 (z_iload_n (pc := 71) dX8_boundAlone_71 rfl 3 rfl (z_iadd (pc := 72) dX8_boundAlone_72 (z_callS_I (pc := 73) (avs := [vi 1999, vi ((hI h37 a40 (ix x12)) + x3)]) (st := [vi x1, vr o38]) rfl (t_J9_min_7cf53 F 1999 ((hI h37 a40 (ix x12)) + x3) h37) ky_J9_min_7cf53 ws_J9_min_7cf53 wz_RX8_71 (rm_X8_boundAlone_J9_min_7cf53) (Nat.le_of_ble_eq_true rfl) dX8_boundAlone_73 (fun x42 h41 => (?_)))))
      refine z_nn (fun a43 ea43 => ?_)
      subst ea43
      refine z_iastorel (pc := 76) dX8_boundAlone_76 (fun h44 => (?_))
      exact z_sub [0, 1, 2, 4] rfl (qj77_13 h44)
theorem dX8_bound_0 : decode cX8_bound 0 = .ok (.iconst 0, 1) := by decide +kernel
theorem dX8_bound_1 : decode cX8_bound 1 = .ok (.istore 4, 2) := by decide +kernel
theorem dX8_bound_3 : decode cX8_bound 3 = .ok (.iload 4, 2) := by decide +kernel
theorem dX8_bound_5 : decode cX8_bound 5 = .ok (.aload_n 1, 1) := by decide +kernel
theorem dX8_bound_6 : decode cX8_bound 6 = .ok (.getfield 41, 3) := by decide +kernel
theorem dX8_bound_9 : decode cX8_bound 9 = .ok (.if_icmp .ge 24, 3) := by decide +kernel
theorem dX8_bound_12 : decode cX8_bound 12 = .ok (.aload_n 0, 1) := by decide +kernel
theorem dX8_bound_13 : decode cX8_bound 13 = .ok (.iload 4, 2) := by decide +kernel
theorem dX8_bound_15 : decode cX8_bound 15 = .ok (.aload_n 1, 1) := by decide +kernel
theorem dX8_bound_16 : decode cX8_bound 16 = .ok (.getfield 47, 3) := by decide +kernel
theorem dX8_bound_19 : decode cX8_bound 19 = .ok (.iload 4, 2) := by decide +kernel
theorem dX8_bound_21 : decode cX8_bound 21 = .ok (.aaload, 1) := by decide +kernel
theorem dX8_bound_22 : decode cX8_bound 22 = .ok (.iload_n 2, 1) := by decide +kernel
theorem dX8_bound_23 : decode cX8_bound 23 = .ok (.iload_n 3, 1) := by decide +kernel
theorem dX8_bound_24 : decode cX8_bound 24 = .ok (.invokevirtual 61, 3) := by decide +kernel
theorem dX8_bound_27 : decode cX8_bound 27 = .ok (.iinc 4 1, 3) := by decide +kernel
theorem dX8_bound_30 : decode cX8_bound 30 = .ok (.goto (-27), 3) := by decide +kernel
theorem dX8_bound_33 : decode cX8_bound 33 = .ok (.iconst 0, 1) := by decide +kernel
theorem dX8_bound_34 : decode cX8_bound 34 = .ok (.istore 4, 2) := by decide +kernel
theorem dX8_bound_36 : decode cX8_bound 36 = .ok (.iload 4, 2) := by decide +kernel
theorem dX8_bound_38 : decode cX8_bound 38 = .ok (.aload_n 1, 1) := by decide +kernel
theorem dX8_bound_39 : decode cX8_bound 39 = .ok (.getfield 41, 3) := by decide +kernel
theorem dX8_bound_42 : decode cX8_bound 42 = .ok (.if_icmp .ge 93, 3) := by decide +kernel
theorem dX8_bound_45 : decode cX8_bound 45 = .ok (.iconst 0, 1) := by decide +kernel
theorem dX8_bound_46 : decode cX8_bound 46 = .ok (.istore 5, 2) := by decide +kernel
theorem dX8_bound_48 : decode cX8_bound 48 = .ok (.iload 5, 2) := by decide +kernel
theorem dX8_bound_50 : decode cX8_bound 50 = .ok (.aload_n 1, 1) := by decide +kernel
theorem dX8_bound_51 : decode cX8_bound 51 = .ok (.getfield 41, 3) := by decide +kernel
theorem dX8_bound_54 : decode cX8_bound 54 = .ok (.if_icmp .ge 75, 3) := by decide +kernel
theorem dX8_bound_57 : decode cX8_bound 57 = .ok (.aload_n 0, 1) := by decide +kernel
theorem dX8_bound_58 : decode cX8_bound 58 = .ok (.getfield 18, 3) := by decide +kernel
theorem dX8_bound_61 : decode cX8_bound 61 = .ok (.iload 4, 2) := by decide +kernel
theorem dX8_bound_63 : decode cX8_bound 63 = .ok (.iaload, 1) := by decide +kernel
theorem dX8_bound_64 : decode cX8_bound 64 = .ok (.iload 5, 2) := by decide +kernel
theorem dX8_bound_66 : decode cX8_bound 66 = .ok (.invokestatic 57, 3) := by decide +kernel
theorem dX8_bound_69 : decode cX8_bound 69 = .ok (.ifCond .ne 6, 3) := by decide +kernel
theorem dX8_bound_72 : decode cX8_bound 72 = .ok (.goto 51, 3) := by decide +kernel
theorem dX8_bound_75 : decode cX8_bound 75 = .ok (.aload_n 0, 1) := by decide +kernel
theorem dX8_bound_76 : decode cX8_bound 76 = .ok (.getfield 27, 3) := by decide +kernel
theorem dX8_bound_79 : decode cX8_bound 79 = .ok (.iload 5, 2) := by decide +kernel
theorem dX8_bound_81 : decode cX8_bound 81 = .ok (.aload_n 0, 1) := by decide +kernel
theorem dX8_bound_82 : decode cX8_bound 82 = .ok (.getfield 27, 3) := by decide +kernel
theorem dX8_bound_85 : decode cX8_bound 85 = .ok (.iload 5, 2) := by decide +kernel
theorem dX8_bound_87 : decode cX8_bound 87 = .ok (.iaload, 1) := by decide +kernel
theorem dX8_bound_88 : decode cX8_bound 88 = .ok (.aload_n 0, 1) := by decide +kernel
theorem dX8_bound_89 : decode cX8_bound 89 = .ok (.getfield 27, 3) := by decide +kernel
theorem dX8_bound_92 : decode cX8_bound 92 = .ok (.iload 4, 2) := by decide +kernel
theorem dX8_bound_94 : decode cX8_bound 94 = .ok (.iaload, 1) := by decide +kernel
theorem dX8_bound_95 : decode cX8_bound 95 = .ok (.invokestatic 65, 3) := by decide +kernel
theorem dX8_bound_98 : decode cX8_bound 98 = .ok (.iastore, 1) := by decide +kernel
theorem dX8_bound_99 : decode cX8_bound 99 = .ok (.aload_n 0, 1) := by decide +kernel
theorem dX8_bound_100 : decode cX8_bound 100 = .ok (.getfield 30, 3) := by decide +kernel
theorem dX8_bound_103 : decode cX8_bound 103 = .ok (.iload 4, 2) := by decide +kernel
theorem dX8_bound_105 : decode cX8_bound 105 = .ok (.aload_n 0, 1) := by decide +kernel
theorem dX8_bound_106 : decode cX8_bound 106 = .ok (.getfield 30, 3) := by decide +kernel
theorem dX8_bound_109 : decode cX8_bound 109 = .ok (.iload 4, 2) := by decide +kernel
theorem dX8_bound_111 : decode cX8_bound 111 = .ok (.iaload, 1) := by decide +kernel
theorem dX8_bound_112 : decode cX8_bound 112 = .ok (.aload_n 0, 1) := by decide +kernel
theorem dX8_bound_113 : decode cX8_bound 113 = .ok (.getfield 30, 3) := by decide +kernel
theorem dX8_bound_116 : decode cX8_bound 116 = .ok (.iload 5, 2) := by decide +kernel
theorem dX8_bound_118 : decode cX8_bound 118 = .ok (.iaload, 1) := by decide +kernel
theorem dX8_bound_119 : decode cX8_bound 119 = .ok (.invokestatic 71, 3) := by decide +kernel
theorem dX8_bound_122 : decode cX8_bound 122 = .ok (.iastore, 1) := by decide +kernel
theorem dX8_bound_123 : decode cX8_bound 123 = .ok (.iinc 5 1, 3) := by decide +kernel
theorem dX8_bound_126 : decode cX8_bound 126 = .ok (.goto (-78), 3) := by decide +kernel
theorem dX8_bound_129 : decode cX8_bound 129 = .ok (.iinc 4 1, 3) := by decide +kernel
theorem dX8_bound_132 : decode cX8_bound 132 = .ok (.goto (-96), 3) := by decide +kernel
theorem dX8_bound_135 : decode cX8_bound 135 = .ok (.iconst 0, 1) := by decide +kernel
theorem dX8_bound_136 : decode cX8_bound 136 = .ok (.istore 4, 2) := by decide +kernel
theorem dX8_bound_138 : decode cX8_bound 138 = .ok (.iload 4, 2) := by decide +kernel
theorem dX8_bound_140 : decode cX8_bound 140 = .ok (.aload_n 1, 1) := by decide +kernel
theorem dX8_bound_141 : decode cX8_bound 141 = .ok (.getfield 41, 3) := by decide +kernel
theorem dX8_bound_144 : decode cX8_bound 144 = .ok (.if_icmp .ge 28, 3) := by decide +kernel
theorem dX8_bound_147 : decode cX8_bound 147 = .ok (.aload_n 0, 1) := by decide +kernel
theorem dX8_bound_148 : decode cX8_bound 148 = .ok (.getfield 27, 3) := by decide +kernel
theorem dX8_bound_151 : decode cX8_bound 151 = .ok (.iload 4, 2) := by decide +kernel
theorem dX8_bound_153 : decode cX8_bound 153 = .ok (.iaload, 1) := by decide +kernel
theorem dX8_bound_154 : decode cX8_bound 154 = .ok (.aload_n 0, 1) := by decide +kernel
theorem dX8_bound_155 : decode cX8_bound 155 = .ok (.getfield 30, 3) := by decide +kernel
theorem dX8_bound_158 : decode cX8_bound 158 = .ok (.iload 4, 2) := by decide +kernel
theorem dX8_bound_160 : decode cX8_bound 160 = .ok (.iaload, 1) := by decide +kernel
theorem dX8_bound_161 : decode cX8_bound 161 = .ok (.if_icmp .le 5, 3) := by decide +kernel
theorem dX8_bound_164 : decode cX8_bound 164 = .ok (.iconst 0, 1) := by decide +kernel
theorem dX8_bound_165 : decode cX8_bound 165 = .ok (.ireturn, 1) := by decide +kernel
theorem dX8_bound_166 : decode cX8_bound 166 = .ok (.iinc 4 1, 3) := by decide +kernel
theorem dX8_bound_169 : decode cX8_bound 169 = .ok (.goto (-31), 3) := by decide +kernel
theorem dX8_bound_172 : decode cX8_bound 172 = .ok (.iconst 1, 1) := by decide +kernel
theorem dX8_bound_173 : decode cX8_bound 173 = .ok (.ireturn, 1) := by decide +kernel
def c_X8_bound_L3 (F : Nat) (a4 : Nat) (o5 : Option Nat) (x6 : Int32) (x7 : Int32) (k33 : z_Hp → Option (Int32 × z_Hp)) : Nat → Int32 → z_Hp → Option (Int32 × z_Hp)
  | 0, _, _ => none
  | n + 1, x8, h9 => (nn o5 (fun a11 => (if hT h9 a11 = 6 then (if (hI h9 a11 1) ≤ x8 then (k33 h9) else (if hT h9 a11 = 6 then (lt_ (hR h9 a11 0) (fun o12 => (nn o12 (fun a13 => (if okA h9 a13 26 x8 = true then (lt_ (hR h9 a13 (ix x8)) (fun o14 => (if hT h9 a4 = 8 then (bV (c_X8_boundAlone F a4 x8 o14 x6 x7 h9) (fun h15 => (lt_ (x8 + 1) (fun x16 => (c_X8_bound_L3 F a4 o5 x6 x7 k33 n x16 h15))))) else none))) else none))))) else none)) else none)))
def c_X8_bound_L48 (F : Nat) (a24 : Nat) (a25 : Nat) (x26 : Int32) (k129 : z_Hp → Option (Int32 × z_Hp)) : Nat → Int32 → z_Hp → Option (Int32 × z_Hp)
  | 0, _, _ => none
  | n + 1, x27, h28 => (if hT h28 a25 = 6 then (if (hI h28 a25 1) ≤ x27 then (k129 h28) else (if hT h28 a24 = 8 then (lt_ (hR h28 a24 2) (fun o30 => (nn o30 (fun a31 => (if okA h28 a31 20 x26 = true then (bI (c_X9_has F (hI h28 a31 (ix x26)) x27 h28) (fun x33 h32 => (lt_ (fun (h35 : z_Hp) => (lt_ (x27 + 1) (fun x36 => (c_X8_bound_L48 F a24 a25 x26 k129 n x36 h35)))) (fun (j123_34 : z_Hp → Option (Int32 × z_Hp)) => (if x33 = 0 then (j123_34 h32) else (if hT h32 a24 = 8 then (lt_ (hR h32 a24 5) (fun o37 => (if hT h32 a24 = 8 then (lt_ (hR h32 a24 5) (fun o38 => (nn o38 (fun a39 => (if okA h32 a39 20 x27 = true then (if hT h32 a24 = 8 then (lt_ (hR h32 a24 5) (fun o40 => (nn o40 (fun a41 => (if okA h32 a41 20 x26 = true then (bI (c_J9_max_7cf53 F (hI h32 a39 (ix x27)) (hI h32 a41 (ix x26)) h32) (fun x43 h42 => (nn o37 (fun a44 => (if okA h42 a44 20 x27 = true then (lt_ (sI h42 a44 (ix x27) x43) (fun h45 => (if hT h45 a24 = 8 then (lt_ (hR h45 a24 6) (fun o46 => (if hT h45 a24 = 8 then (lt_ (hR h45 a24 6) (fun o47 => (nn o47 (fun a48 => (if okA h45 a48 20 x26 = true then (if hT h45 a24 = 8 then (lt_ (hR h45 a24 6) (fun o49 => (nn o49 (fun a50 => (if okA h45 a50 20 x27 = true then (bI (c_J9_min_7cf53 F (hI h45 a48 (ix x26)) (hI h45 a50 (ix x27)) h45) (fun x52 h51 => (nn o46 (fun a53 => (if okA h51 a53 20 x26 = true then (lt_ (sI h51 a53 (ix x26) x52) (fun h54 => (j123_34 h54))) else none))))) else none))))) else none) else none))))) else none))) else none))) else none))))) else none))))) else none) else none))))) else none))) else none)))))) else none))))) else none)) else none)
def c_X8_bound_L36 (F : Nat) (a18 : Nat) (o19 : Option Nat) (k135 : z_Hp → Option (Int32 × z_Hp)) : Nat → Int32 → z_Hp → Option (Int32 × z_Hp)
  | 0, _, _ => none
  | n + 1, x20, h21 => (nn o19 (fun a23 => (if hT h21 a23 = 6 then (if (hI h21 a23 1) ≤ x20 then (k135 h21) else (c_X8_bound_L48 F a18 a23 x20 (fun h55 => (lt_ (x20 + 1) (fun x56 => (c_X8_bound_L36 F a18 o19 k135 n x56 h55)))) F 0 h21)) else none)))
def c_X8_bound_L138 (F : Nat) (a58 : Nat) (o59 : Option Nat) : Nat → Int32 → z_Hp → Option (Int32 × z_Hp)
  | 0, _, _ => none
  | n + 1, x60, h61 => (nn o59 (fun a62 => (if hT h61 a62 = 6 then (if (hI h61 a62 1) ≤ x60 then (some (1, h61)) else (if hT h61 a58 = 8 then (lt_ (hR h61 a58 5) (fun o63 => (nn o63 (fun a64 => (if okA h61 a64 20 x60 = true then (if hT h61 a58 = 8 then (lt_ (hR h61 a58 6) (fun o65 => (nn o65 (fun a66 => (if okA h61 a66 20 x60 = true then (if (hI h61 a64 (ix x60)) ≤ (hI h61 a66 (ix x60)) then (lt_ (x60 + 1) (fun x67 => (c_X8_bound_L138 F a58 o59 n x67 h61))) else (some (0, h61))) else none))))) else none) else none))))) else none)) else none)))
def c_X8_bound (F : Nat) (a0 : Nat) (o1 : Option Nat) (x2 : Int32) (x3 : Int32) (h0 : z_Hp) : Option (Int32 × z_Hp) := (c_X8_bound_L3 F a0 o1 x2 x3 (fun h17 => (c_X8_bound_L36 F a0 o1 (fun h57 => (c_X8_bound_L138 F a0 o1 F 0 h57)) F 0 h17)) F 0 h0)
set_option maxRecDepth 20000 in
set_option maxHeartbeats 4000000 in
theorem g_X8_bound_L3 (F : Nat) (a4 : Nat) (o5 : Option Nat) (x6 : Int32) (x7 : Int32) (k33 : z_Hp → Option (Int32 × z_Hp)) (qk33 : ∀ (h10 : z_Hp), z_G zi mi_X8_bound 33 [(0, vr (some a4)), (1, vr o5)] [] h10 (k33 h10)) : ∀ (n : Nat) (x8 : Int32) (h9 : z_Hp), z_G zi mi_X8_bound 3 [(0, vr (some a4)), (1, vr o5), (2, vi x6), (3, vi x7), (4, vi x8)] [] h9 (c_X8_bound_L3 F a4 o5 x6 x7 k33 n x8 h9) := by
  intro n
  induction n with
  | zero => intro x8 h9; rw [c_X8_bound_L3]; exact z_none
  | succ n ih =>
    intro x8 h9
    rw [c_X8_bound_L3]
    refine z_iload (pc := 3) dX8_bound_3 4 rfl (z_aload_n (pc := 5) dX8_bound_5 rfl 1 rfl (?_))
    refine z_nn (fun a11 ea11 => ?_)
    subst ea11
    refine z_getI (pc := 6) fl_RX8_41 rfl dX8_bound_6 (?_)
    refine z_icmp_ge (pc := 9) (tgt := 33) dX8_bound_9 (by decide) ?_ ?_
    · exact z_sub [0, 1] rfl (qk33 h9)
    · refine z_aload_n (pc := 12) dX8_bound_12 rfl 0 rfl (z_iload (pc := 13) dX8_bound_13 4 rfl (z_aload_n (pc := 15) dX8_bound_15 rfl 1 rfl (z_getRl (pc := 16) fl_RX8_47 rfl dX8_bound_16 (fun o12 => (z_iload (pc := 19) dX8_bound_19 4 rfl (?_))))))
      refine z_nn (fun a13 ea13 => ?_)
      subst ea13
      refine z_aaloadl (pc := 21) 26 (by decide) dX8_bound_21 (fun o14 => (z_iload_n (pc := 22) dX8_bound_22 rfl 2 rfl (z_iload_n (pc := 23) dX8_bound_23 rfl 3 rfl (z_callV_V (pc := 24) (avs := [vi x8, vr o14, vi x6, vi x7]) (st := []) rfl (q := (RX8, TX8, 7)) rfl rfl (t_X8_boundAlone F a4 x8 o14 x6 x7 h9) ky_X8_boundAlone wm_X8_boundAlone we_X8_boundAlone wz_RX8_61 (rm_X8_bound_X8_boundAlone) (Nat.le_of_ble_eq_true rfl) dX8_bound_24 (fun h15 => (?_))))))
      refine z_iincl (pc := 27) (L' := fun x16 => [(0, vr (some a4)), (1, vr (some a11)), (2, vi x6), (3, vi x7), (4, vi x16)]) dX8_bound_27 4 rfl ic_1 (Nat.le_of_ble_eq_true rfl) (fun _ => rfl) (fun x16 => (z_goto (pc := 30) (tgt := 3) dX8_bound_30 (by decide) (?_)))
      exact ih x16 h15
set_option maxRecDepth 20000 in
set_option maxHeartbeats 4000000 in
theorem g_X8_bound_L48 (F : Nat) (a24 : Nat) (a25 : Nat) (x26 : Int32) (k129 : z_Hp → Option (Int32 × z_Hp)) (qk129 : ∀ (h29 : z_Hp), z_G zi mi_X8_bound 129 [(0, vr (some a24)), (1, vr (some a25)), (4, vi x26)] [] h29 (k129 h29)) : ∀ (n : Nat) (x27 : Int32) (h28 : z_Hp), z_G zi mi_X8_bound 48 [(0, vr (some a24)), (1, vr (some a25)), (4, vi x26), (5, vi x27)] [] h28 (c_X8_bound_L48 F a24 a25 x26 k129 n x27 h28) := by
  intro n
  induction n with
  | zero => intro x27 h28; rw [c_X8_bound_L48]; exact z_none
  | succ n ih =>
    intro x27 h28
    rw [c_X8_bound_L48]
    refine z_iload (pc := 48) dX8_bound_48 3 rfl (z_aload_n (pc := 50) dX8_bound_50 rfl 1 rfl (z_getI (pc := 51) fl_RX8_41 rfl dX8_bound_51 (?_)))
    refine z_icmp_ge (pc := 54) (tgt := 129) dX8_bound_54 (by decide) ?_ ?_
    · exact z_sub [0, 1, 2] rfl (qk129 h28)
    · refine z_aload_n (pc := 57) dX8_bound_57 rfl 0 rfl (z_getRl (pc := 58) fl_RX8_18 rfl dX8_bound_58 (fun o30 => (z_iload (pc := 61) dX8_bound_61 2 rfl (?_))))
      refine z_nn (fun a31 ea31 => ?_)
      subst ea31
      refine z_iaload (pc := 63) dX8_bound_63 (z_iload (pc := 64) dX8_bound_64 3 rfl (z_callSN_I (pc := 66) (host := "BalladSheets") (avs := [vi (hI h28 a31 (ix x26)), vi x27]) (st := []) rfl (t_X9_has F (hI h28 a31 (ix x26)) x27 h28) ky_X9_has ws_X9_has (by decide +kernel) (rm_X8_bound_X9_has) (Nat.le_of_ble_eq_true rfl) dX8_bound_66 (fun x33 h32 => (?_))))
      refine z_jn (P := fun (j : z_Hp → Option (Int32 × z_Hp)) => ∀ (h35 : z_Hp), z_G zi mi_X8_bound 123 [(0, vr (some a24)), (1, vr (some a25)), (4, vi x26), (5, vi x27)] [] h35 (j h35)) (fun h35 => ?_) (fun j123_34 qj123_34 => ?_)
      · refine z_iincl (pc := 123) (L' := fun x36 => [(0, vr (some a24)), (1, vr (some a25)), (4, vi x26), (5, vi x36)]) dX8_bound_123 3 rfl ic_1 (Nat.le_of_ble_eq_true rfl) (fun _ => rfl) (fun x36 => (z_goto (pc := 126) (tgt := 48) dX8_bound_126 (by decide) (?_)))
        exact ih x36 h35
      refine z_if_ne (pc := 69) (tgt := 75) dX8_bound_69 (by decide) ?_ ?_
      · refine z_aload_n (pc := 75) dX8_bound_75 rfl 0 rfl (z_getRl (pc := 76) fl_RX8_27 rfl dX8_bound_76 (fun o37 => (z_iload (pc := 79) dX8_bound_79 3 rfl (z_aload_n (pc := 81) dX8_bound_81 rfl 0 rfl (z_getRl (pc := 82) fl_RX8_27 rfl dX8_bound_82 (fun o38 => (z_iload (pc := 85) dX8_bound_85 3 rfl (?_))))))))
        refine z_nn (fun a39 ea39 => ?_)
        subst ea39
        refine z_iaload (pc := 87) dX8_bound_87 (z_aload_n (pc := 88) dX8_bound_88 rfl 0 rfl (z_getRl (pc := 89) fl_RX8_27 rfl dX8_bound_89 (fun o40 => (z_iload (pc := 92) dX8_bound_92 2 rfl (?_)))))
        refine z_nn (fun a41 ea41 => ?_)
        subst ea41
        refine z_iaload (pc := 94) dX8_bound_94 (z_callS_I (pc := 95) (avs := [vi (hI h32 a39 (ix x27)), vi (hI h32 a41 (ix x26))]) (st := [vi x27, vr o37]) rfl (t_J9_max_7cf53 F (hI h32 a39 (ix x27)) (hI h32 a41 (ix x26)) h32) ky_J9_max_7cf53 ws_J9_max_7cf53 wz_RX8_65 (rm_X8_bound_J9_max_7cf53) (Nat.le_of_ble_eq_true rfl) dX8_bound_95 (fun x43 h42 => (?_)))
        refine z_nn (fun a44 ea44 => ?_)
        subst ea44
        refine z_iastorel (pc := 98) dX8_bound_98 (fun h45 => (z_aload_n (pc := 99) dX8_bound_99 rfl 0 rfl (z_getRl (pc := 100) fl_RX8_30 rfl dX8_bound_100 (fun o46 => (z_iload (pc := 103) dX8_bound_103 2 rfl (z_aload_n (pc := 105) dX8_bound_105 rfl 0 rfl (z_getRl (pc := 106) fl_RX8_30 rfl dX8_bound_106 (fun o47 => (z_iload (pc := 109) dX8_bound_109 2 rfl (?_))))))))))
        refine z_nn (fun a48 ea48 => ?_)
        subst ea48
        refine z_iaload (pc := 111) dX8_bound_111 (z_aload_n (pc := 112) dX8_bound_112 rfl 0 rfl (z_getRl (pc := 113) fl_RX8_30 rfl dX8_bound_113 (fun o49 => (z_iload (pc := 116) dX8_bound_116 3 rfl (?_)))))
        refine z_nn (fun a50 ea50 => ?_)
        subst ea50
        refine z_iaload (pc := 118) dX8_bound_118 (z_callS_I (pc := 119) (avs := [vi (hI h45 a48 (ix x26)), vi (hI h45 a50 (ix x27))]) (st := [vi x26, vr o46]) rfl (t_J9_min_7cf53 F (hI h45 a48 (ix x26)) (hI h45 a50 (ix x27)) h45) ky_J9_min_7cf53 ws_J9_min_7cf53 wz_RX8_71 (rm_X8_bound_J9_min_7cf53) (Nat.le_of_ble_eq_true rfl) dX8_bound_119 (fun x52 h51 => (?_)))
        refine z_nn (fun a53 ea53 => ?_)
        subst ea53
        refine z_iastorel (pc := 122) dX8_bound_122 (fun h54 => (?_))
        exact qj123_34 h54
      · refine z_goto (pc := 72) (tgt := 123) dX8_bound_72 (by decide) (?_)
        exact qj123_34 h32
set_option maxRecDepth 20000 in
set_option maxHeartbeats 4000000 in
theorem g_X8_bound_L36 (F : Nat) (a18 : Nat) (o19 : Option Nat) (k135 : z_Hp → Option (Int32 × z_Hp)) (qk135 : ∀ (h22 : z_Hp), z_G zi mi_X8_bound 135 [(0, vr (some a18)), (1, vr o19)] [] h22 (k135 h22)) : ∀ (n : Nat) (x20 : Int32) (h21 : z_Hp), z_G zi mi_X8_bound 36 [(0, vr (some a18)), (1, vr o19), (4, vi x20)] [] h21 (c_X8_bound_L36 F a18 o19 k135 n x20 h21) := by
  intro n
  induction n with
  | zero => intro x20 h21; rw [c_X8_bound_L36]; exact z_none
  | succ n ih =>
    intro x20 h21
    rw [c_X8_bound_L36]
    refine z_iload (pc := 36) dX8_bound_36 2 rfl (z_aload_n (pc := 38) dX8_bound_38 rfl 1 rfl (?_))
    refine z_nn (fun a23 ea23 => ?_)
    subst ea23
    refine z_getI (pc := 39) fl_RX8_41 rfl dX8_bound_39 (?_)
    refine z_icmp_ge (pc := 42) (tgt := 135) dX8_bound_42 (by decide) ?_ ?_
    · exact z_sub [0, 1] rfl (qk135 h21)
    · refine z_iconst (pc := 45) dX8_bound_45 ic_0 (z_istore (pc := 46) (L' := [(0, vr (some a18)), (1, vr (some a23)), (4, vi x20), (5, vi 0)]) dX8_bound_46 (Nat.le_of_ble_eq_true rfl) rfl (?_))
      refine g_X8_bound_L48 F a18 a23 x20 _ (fun h55 => ?_) F 0 h21
      refine z_iincl (pc := 129) (L' := fun x56 => [(0, vr (some a18)), (1, vr (some a23)), (4, vi x56)]) dX8_bound_129 2 rfl ic_1 (Nat.le_of_ble_eq_true rfl) (fun _ => rfl) (fun x56 => (z_goto (pc := 132) (tgt := 36) dX8_bound_132 (by decide) (?_)))
      exact ih x56 h55
set_option maxRecDepth 20000 in
set_option maxHeartbeats 4000000 in
theorem g_X8_bound_L138 (F : Nat) (a58 : Nat) (o59 : Option Nat) : ∀ (n : Nat) (x60 : Int32) (h61 : z_Hp), z_G zi mi_X8_bound 138 [(0, vr (some a58)), (1, vr o59), (4, vi x60)] [] h61 (c_X8_bound_L138 F a58 o59 n x60 h61) := by
  intro n
  induction n with
  | zero => intro x60 h61; rw [c_X8_bound_L138]; exact z_none
  | succ n ih =>
    intro x60 h61
    rw [c_X8_bound_L138]
    refine z_iload (pc := 138) dX8_bound_138 2 rfl (z_aload_n (pc := 140) dX8_bound_140 rfl 1 rfl (?_))
    refine z_nn (fun a62 ea62 => ?_)
    subst ea62
    refine z_getI (pc := 141) fl_RX8_41 rfl dX8_bound_141 (?_)
    refine z_icmp_ge (pc := 144) (tgt := 172) dX8_bound_144 (by decide) ?_ ?_
    · refine z_iconst (pc := 172) dX8_bound_172 ic_1 (?_)
      exact z_iret (pc := 173) dX8_bound_173 rfl rfl
    · refine z_aload_n (pc := 147) dX8_bound_147 rfl 0 rfl (z_getRl (pc := 148) fl_RX8_27 rfl dX8_bound_148 (fun o63 => (z_iload (pc := 151) dX8_bound_151 2 rfl (?_))))
      refine z_nn (fun a64 ea64 => ?_)
      subst ea64
      refine z_iaload (pc := 153) dX8_bound_153 (z_aload_n (pc := 154) dX8_bound_154 rfl 0 rfl (z_getRl (pc := 155) fl_RX8_30 rfl dX8_bound_155 (fun o65 => (z_iload (pc := 158) dX8_bound_158 2 rfl (?_)))))
      refine z_nn (fun a66 ea66 => ?_)
      subst ea66
      refine z_iaload (pc := 160) dX8_bound_160 (?_)
      refine z_icmp_le (pc := 161) (tgt := 166) dX8_bound_161 (by decide) ?_ ?_
      · refine z_iincl (pc := 166) (L' := fun x67 => [(0, vr (some a58)), (1, vr (some a62)), (4, vi x67)]) dX8_bound_166 2 rfl ic_1 (Nat.le_of_ble_eq_true rfl) (fun _ => rfl) (fun x67 => (z_goto (pc := 169) (tgt := 138) dX8_bound_169 (by decide) (?_)))
        exact ih x67 h61
      · refine z_iconst (pc := 164) dX8_bound_164 ic_0 (?_)
        exact z_iret (pc := 165) dX8_bound_165 rfl rfl
set_option maxRecDepth 20000 in
set_option maxHeartbeats 4000000 in
theorem t_X8_bound (F : Nat) (a0 : Nat) (o1 : Option Nat) (x2 : Int32) (x3 : Int32) (h0 : z_Hp) : z_Ct zi mi_X8_bound [vr (some a0), vr o1, vi x2, vi x3] h0 (c_X8_bound F a0 o1 x2 x3 h0) := by
  refine z_entry (by decide) (Nat.le_of_ble_eq_true rfl) [(0, vr (some a0)), (1, vr o1), (2, vi x2), (3, vi x3)] rfl ?_
  unfold c_X8_bound
  refine z_iconst (pc := 0) dX8_bound_0 ic_0 (z_istore (pc := 1) (L' := [(0, vr (some a0)), (1, vr o1), (2, vi x2), (3, vi x3), (4, vi 0)]) dX8_bound_1 (Nat.le_of_ble_eq_true rfl) rfl (?_))
  refine g_X8_bound_L3 F a0 o1 x2 x3 _ (fun h17 => ?_) F 0 h0
  refine z_iconst (pc := 33) dX8_bound_33 ic_0 (z_istore (pc := 34) (L' := [(0, vr (some a0)), (1, vr o1), (4, vi 0)]) dX8_bound_34 (Nat.le_of_ble_eq_true rfl) rfl (?_))
  refine g_X8_bound_L36 F a0 o1 _ (fun h57 => ?_) F 0 h17
  refine z_iconst (pc := 135) dX8_bound_135 ic_0 (z_istore (pc := 136) (L' := [(0, vr (some a0)), (1, vr o1), (4, vi 0)]) dX8_bound_136 (Nat.le_of_ble_eq_true rfl) rfl (?_))
  refine g_X8_bound_L138 F a0 o1 F 0 h57
theorem dX8_work_0 : decode cX8_work 0 = .ok (.aload_n 0, 1) := by decide +kernel
theorem dX8_work_1 : decode cX8_work 1 = .ok (.aload_n 1, 1) := by decide +kernel
theorem dX8_work_2 : decode cX8_work 2 = .ok (.invokevirtual 33, 3) := by decide +kernel
theorem dX8_work_5 : decode cX8_work 5 = .ok (.aload_n 0, 1) := by decide +kernel
theorem dX8_work_6 : decode cX8_work 6 = .ok (.aload_n 1, 1) := by decide +kernel
theorem dX8_work_7 : decode cX8_work 7 = .ok (.iload_n 2, 1) := by decide +kernel
theorem dX8_work_8 : decode cX8_work 8 = .ok (.iconst 1, 1) := by decide +kernel
theorem dX8_work_9 : decode cX8_work 9 = .ok (.invokevirtual 37, 3) := by decide +kernel
theorem dX8_work_12 : decode cX8_work 12 = .ok (.ireturn, 1) := by decide +kernel
def c_X8_work (F : Nat) (a0 : Nat) (o1 : Option Nat) (x2 : Int32) (h0 : z_Hp) : Option (Int32 × z_Hp) := (if hT h0 a0 = 8 then (bV (c_X8_findNoOlder F a0 o1 h0) (fun h3 => (if hT h3 a0 = 8 then (bI (c_X8_bound F a0 o1 x2 1 h3) (fun x5 h4 => (if x5 = 0 ∨ x5 = 1 then some (x5, h4) else none))) else none))) else none)
set_option maxRecDepth 20000 in
set_option maxHeartbeats 4000000 in
theorem t_X8_work (F : Nat) (a0 : Nat) (o1 : Option Nat) (x2 : Int32) (h0 : z_Hp) : z_Ct zi mi_X8_work [vr (some a0), vr o1, vi x2] h0 (c_X8_work F a0 o1 x2 h0) := by
  refine z_entry (by decide) (Nat.le_of_ble_eq_true rfl) [(0, vr (some a0)), (1, vr o1), (2, vi x2)] rfl ?_
  unfold c_X8_work
  refine z_aload_n (pc := 0) dX8_work_0 rfl 0 rfl (z_aload_n (pc := 1) dX8_work_1 rfl 1 rfl (z_callV_V (pc := 2) (avs := [vr o1]) (st := []) rfl (q := (RX8, TX8, 7)) rfl rfl (t_X8_findNoOlder F a0 o1 h0) ky_X8_findNoOlder wm_X8_findNoOlder we_X8_findNoOlder wz_RX8_33 (rm_X8_work_X8_findNoOlder) (Nat.le_of_ble_eq_true rfl) dX8_work_2 (fun h3 => (?_))))
  refine z_aload_n (pc := 5) dX8_work_5 rfl 0 rfl (z_aload_n (pc := 6) dX8_work_6 rfl 1 rfl (z_iload_n (pc := 7) dX8_work_7 rfl 2 rfl (z_iconst (pc := 8) dX8_work_8 ic_1 (z_callV_I (pc := 9) (avs := [vr o1, vi x2, vi 1]) (st := []) rfl (q := (RX8, TX8, 7)) rfl rfl (t_X8_bound F a0 o1 x2 1 h3) ky_X8_bound wm_X8_bound we_X8_bound wz_RX8_37 (rm_X8_work_X8_bound) (Nat.le_of_ble_eq_true rfl) dX8_work_9 (fun x5 h4 => (?_))))))
  exact z_zret (pc := 12) dX8_work_12 rfl
theorem dX8_findClashes_0 : decode cX8_findClashes 0 = .ok (.iconst 0, 1) := by decide +kernel
theorem dX8_findClashes_1 : decode cX8_findClashes 1 = .ok (.istore_n 3, 1) := by decide +kernel
theorem dX8_findClashes_2 : decode cX8_findClashes 2 = .ok (.iconst 0, 1) := by decide +kernel
theorem dX8_findClashes_3 : decode cX8_findClashes 3 = .ok (.istore 4, 2) := by decide +kernel
theorem dX8_findClashes_5 : decode cX8_findClashes 5 = .ok (.iload 4, 2) := by decide +kernel
theorem dX8_findClashes_7 : decode cX8_findClashes 7 = .ok (.iload_n 2, 1) := by decide +kernel
theorem dX8_findClashes_8 : decode cX8_findClashes 8 = .ok (.if_icmp .ge 143, 3) := by decide +kernel
theorem dX8_findClashes_11 : decode cX8_findClashes 11 = .ok (.aload_n 0, 1) := by decide +kernel
theorem dX8_findClashes_12 : decode cX8_findClashes 12 = .ok (.getfield 24, 3) := by decide +kernel
theorem dX8_findClashes_15 : decode cX8_findClashes 15 = .ok (.iload 4, 2) := by decide +kernel
theorem dX8_findClashes_17 : decode cX8_findClashes 17 = .ok (.iconst 0, 1) := by decide +kernel
theorem dX8_findClashes_18 : decode cX8_findClashes 18 = .ok (.iastore, 1) := by decide +kernel
theorem dX8_findClashes_19 : decode cX8_findClashes 19 = .ok (.aload_n 0, 1) := by decide +kernel
theorem dX8_findClashes_20 : decode cX8_findClashes 20 = .ok (.getfield 21, 3) := by decide +kernel
theorem dX8_findClashes_23 : decode cX8_findClashes 23 = .ok (.iload 4, 2) := by decide +kernel
theorem dX8_findClashes_25 : decode cX8_findClashes 25 = .ok (.iaload, 1) := by decide +kernel
theorem dX8_findClashes_26 : decode cX8_findClashes 26 = .ok (.istore 5, 2) := by decide +kernel
theorem dX8_findClashes_28 : decode cX8_findClashes 28 = .ok (.aload_n 1, 1) := by decide +kernel
theorem dX8_findClashes_29 : decode cX8_findClashes 29 = .ok (.getfield 47, 3) := by decide +kernel
theorem dX8_findClashes_32 : decode cX8_findClashes 32 = .ok (.iload 5, 2) := by decide +kernel
theorem dX8_findClashes_34 : decode cX8_findClashes 34 = .ok (.aaload, 1) := by decide +kernel
theorem dX8_findClashes_35 : decode cX8_findClashes 35 = .ok (.astore 6, 2) := by decide +kernel
theorem dX8_findClashes_37 : decode cX8_findClashes 37 = .ok (.aload 6, 2) := by decide +kernel
theorem dX8_findClashes_39 : decode cX8_findClashes 39 = .ok (.getfield 81, 3) := by decide +kernel
theorem dX8_findClashes_42 : decode cX8_findClashes 42 = .ok (.aload_n 0, 1) := by decide +kernel
theorem dX8_findClashes_43 : decode cX8_findClashes 43 = .ok (.getfield 30, 3) := by decide +kernel
theorem dX8_findClashes_46 : decode cX8_findClashes 46 = .ok (.iload 5, 2) := by decide +kernel
theorem dX8_findClashes_48 : decode cX8_findClashes 48 = .ok (.iaload, 1) := by decide +kernel
theorem dX8_findClashes_49 : decode cX8_findClashes 49 = .ok (.if_icmp .gt 18, 3) := by decide +kernel
theorem dX8_findClashes_52 : decode cX8_findClashes 52 = .ok (.aload 6, 2) := by decide +kernel
theorem dX8_findClashes_54 : decode cX8_findClashes 54 = .ok (.getfield 84, 3) := by decide +kernel
theorem dX8_findClashes_57 : decode cX8_findClashes 57 = .ok (.aload_n 0, 1) := by decide +kernel
theorem dX8_findClashes_58 : decode cX8_findClashes 58 = .ok (.getfield 27, 3) := by decide +kernel
theorem dX8_findClashes_61 : decode cX8_findClashes 61 = .ok (.iload 5, 2) := by decide +kernel
theorem dX8_findClashes_63 : decode cX8_findClashes 63 = .ok (.iaload, 1) := by decide +kernel
theorem dX8_findClashes_64 : decode cX8_findClashes 64 = .ok (.if_icmp .ge 10, 3) := by decide +kernel
theorem dX8_findClashes_67 : decode cX8_findClashes 67 = .ok (.iload_n 3, 1) := by decide +kernel
theorem dX8_findClashes_68 : decode cX8_findClashes 68 = .ok (.iconst 1, 1) := by decide +kernel
theorem dX8_findClashes_69 : decode cX8_findClashes 69 = .ok (.iload 4, 2) := by decide +kernel
theorem dX8_findClashes_71 : decode cX8_findClashes 71 = .ok (.ishl, 1) := by decide +kernel
theorem dX8_findClashes_72 : decode cX8_findClashes 72 = .ok (.ior, 1) := by decide +kernel
theorem dX8_findClashes_73 : decode cX8_findClashes 73 = .ok (.istore_n 3, 1) := by decide +kernel
theorem dX8_findClashes_74 : decode cX8_findClashes 74 = .ok (.iconst 0, 1) := by decide +kernel
theorem dX8_findClashes_75 : decode cX8_findClashes 75 = .ok (.istore 7, 2) := by decide +kernel
theorem dX8_findClashes_77 : decode cX8_findClashes 77 = .ok (.iload 7, 2) := by decide +kernel
theorem dX8_findClashes_79 : decode cX8_findClashes 79 = .ok (.iload_n 2, 1) := by decide +kernel
theorem dX8_findClashes_80 : decode cX8_findClashes 80 = .ok (.if_icmp .ge 65, 3) := by decide +kernel
theorem dX8_findClashes_83 : decode cX8_findClashes 83 = .ok (.aload_n 0, 1) := by decide +kernel
theorem dX8_findClashes_84 : decode cX8_findClashes 84 = .ok (.getfield 21, 3) := by decide +kernel
theorem dX8_findClashes_87 : decode cX8_findClashes 87 = .ok (.iload 7, 2) := by decide +kernel
theorem dX8_findClashes_89 : decode cX8_findClashes 89 = .ok (.iaload, 1) := by decide +kernel
theorem dX8_findClashes_90 : decode cX8_findClashes 90 = .ok (.istore 8, 2) := by decide +kernel
theorem dX8_findClashes_92 : decode cX8_findClashes 92 = .ok (.aload_n 0, 1) := by decide +kernel
theorem dX8_findClashes_93 : decode cX8_findClashes 93 = .ok (.getfield 18, 3) := by decide +kernel
theorem dX8_findClashes_96 : decode cX8_findClashes 96 = .ok (.iload 5, 2) := by decide +kernel
theorem dX8_findClashes_98 : decode cX8_findClashes 98 = .ok (.iaload, 1) := by decide +kernel
theorem dX8_findClashes_99 : decode cX8_findClashes 99 = .ok (.iload 8, 2) := by decide +kernel
theorem dX8_findClashes_101 : decode cX8_findClashes 101 = .ok (.invokestatic 57, 3) := by decide +kernel
theorem dX8_findClashes_104 : decode cX8_findClashes 104 = .ok (.ifCond .eq 35, 3) := by decide +kernel
theorem dX8_findClashes_107 : decode cX8_findClashes 107 = .ok (.aload 6, 2) := by decide +kernel
theorem dX8_findClashes_109 : decode cX8_findClashes 109 = .ok (.getfield 81, 3) := by decide +kernel
theorem dX8_findClashes_112 : decode cX8_findClashes 112 = .ok (.aload_n 1, 1) := by decide +kernel
theorem dX8_findClashes_113 : decode cX8_findClashes 113 = .ok (.getfield 47, 3) := by decide +kernel
theorem dX8_findClashes_116 : decode cX8_findClashes 116 = .ok (.iload 8, 2) := by decide +kernel
theorem dX8_findClashes_118 : decode cX8_findClashes 118 = .ok (.aaload, 1) := by decide +kernel
theorem dX8_findClashes_119 : decode cX8_findClashes 119 = .ok (.getfield 84, 3) := by decide +kernel
theorem dX8_findClashes_122 : decode cX8_findClashes 122 = .ok (.if_icmp .le 17, 3) := by decide +kernel
theorem dX8_findClashes_125 : decode cX8_findClashes 125 = .ok (.aload_n 0, 1) := by decide +kernel
theorem dX8_findClashes_126 : decode cX8_findClashes 126 = .ok (.getfield 24, 3) := by decide +kernel
theorem dX8_findClashes_129 : decode cX8_findClashes 129 = .ok (.iload 4, 2) := by decide +kernel
theorem dX8_findClashes_131 : decode cX8_findClashes 131 = .ok (.dup2, 1) := by decide +kernel
theorem dX8_findClashes_132 : decode cX8_findClashes 132 = .ok (.iaload, 1) := by decide +kernel
theorem dX8_findClashes_133 : decode cX8_findClashes 133 = .ok (.iconst 1, 1) := by decide +kernel
theorem dX8_findClashes_134 : decode cX8_findClashes 134 = .ok (.iload 7, 2) := by decide +kernel
theorem dX8_findClashes_136 : decode cX8_findClashes 136 = .ok (.ishl, 1) := by decide +kernel
theorem dX8_findClashes_137 : decode cX8_findClashes 137 = .ok (.ior, 1) := by decide +kernel
theorem dX8_findClashes_138 : decode cX8_findClashes 138 = .ok (.iastore, 1) := by decide +kernel
theorem dX8_findClashes_139 : decode cX8_findClashes 139 = .ok (.iinc 7 1, 3) := by decide +kernel
theorem dX8_findClashes_142 : decode cX8_findClashes 142 = .ok (.goto (-65), 3) := by decide +kernel
theorem dX8_findClashes_145 : decode cX8_findClashes 145 = .ok (.iinc 4 1, 3) := by decide +kernel
theorem dX8_findClashes_148 : decode cX8_findClashes 148 = .ok (.goto (-143), 3) := by decide +kernel
theorem dX8_findClashes_151 : decode cX8_findClashes 151 = .ok (.iload_n 3, 1) := by decide +kernel
theorem dX8_findClashes_152 : decode cX8_findClashes 152 = .ok (.ireturn, 1) := by decide +kernel
def c_X8_findClashes_L77 (F : Nat) (a25 : Nat) (a26 : Nat) (x27 : Int32) (x28 : Int32) (x29 : Int32) (x30 : Int32) (a31 : Nat) (k145 : z_Hp → Option (Int32 × z_Hp)) : Nat → Int32 → z_Hp → Option (Int32 × z_Hp)
  | 0, _, _ => none
  | n + 1, x32, h33 => (if x27 ≤ x32 then (k145 h33) else (if hT h33 a25 = 8 then (lt_ (hR h33 a25 3) (fun o35 => (nn o35 (fun a36 => (if okA h33 a36 20 x32 = true then (lt_ (hI h33 a36 (ix x32)) (fun x37 => (if hT h33 a25 = 8 then (lt_ (hR h33 a25 2) (fun o38 => (nn o38 (fun a39 => (if okA h33 a39 20 x30 = true then (bI (c_X9_has F (hI h33 a39 (ix x30)) x37 h33) (fun x41 h40 => (lt_ (fun (h43 : z_Hp) => (lt_ (x32 + 1) (fun x44 => (c_X8_findClashes_L77 F a25 a26 x27 x28 x29 x30 a31 k145 n x44 h43)))) (fun (j139_42 : z_Hp → Option (Int32 × z_Hp)) => (if x41 = 0 then (j139_42 h40) else (if hT h40 a31 = 5 then (if hT h40 a26 = 6 then (lt_ (hR h40 a26 0) (fun o45 => (nn o45 (fun a46 => (if okA h40 a46 26 x37 = true then (lt_ (hR h40 a46 (ix x37)) (fun o47 => (nn o47 (fun a48 => (if hT h40 a48 = 5 then (if (hI h40 a31 9) ≤ (hI h40 a48 10) then (j139_42 h40) else (if hT h40 a25 = 8 then (lt_ (hR h40 a25 4) (fun o49 => (nn o49 (fun a50 => (if okA h40 a50 20 x29 = true then (if okA h40 a50 20 x29 = true then (lt_ (sI h40 a50 (ix x29) ((hI h40 a50 (ix x29)) ||| (1 <<< (x32 &&& 31)))) (fun h51 => (j139_42 h51))) else none) else none))))) else none)) else none))))) else none))))) else none) else none)))))) else none))))) else none))) else none))))) else none))
def c_X8_findClashes_L5 (F : Nat) (a3 : Nat) (o4 : Option Nat) (x5 : Int32) : Nat → Int32 → Int32 → z_Hp → Option (Int32 × z_Hp)
  | 0, _, _, _ => none
  | n + 1, x6, x7, h8 => (if x5 ≤ x7 then (some (x6, h8)) else (if hT h8 a3 = 8 then (lt_ (hR h8 a3 4) (fun o9 => (nn o9 (fun a10 => (if okA h8 a10 20 x7 = true then (lt_ (sI h8 a10 (ix x7) 0) (fun h11 => (if hT h11 a3 = 8 then (lt_ (hR h11 a3 3) (fun o12 => (nn o12 (fun a13 => (if okA h11 a13 20 x7 = true then (lt_ (hI h11 a13 (ix x7)) (fun x14 => (nn o4 (fun a15 => (if hT h11 a15 = 6 then (lt_ (hR h11 a15 0) (fun o16 => (nn o16 (fun a17 => (if okA h11 a17 26 x14 = true then (lt_ (hR h11 a17 (ix x14)) (fun o18 => (nn o18 (fun a19 => (if hT h11 a19 = 5 then (if hT h11 a3 = 8 then (lt_ (hR h11 a3 6) (fun o20 => (nn o20 (fun a21 => (if okA h11 a21 20 x14 = true then (lt_ (fun (x23 : Int32) (h24 : z_Hp) => (c_X8_findClashes_L77 F a3 a15 x5 x23 x7 x14 a19 (fun h52 => (lt_ (x7 + 1) (fun x53 => (c_X8_findClashes_L5 F a3 o4 x5 n x23 x53 h52)))) F 0 h24)) (fun (j74_22 : Int32 → z_Hp → Option (Int32 × z_Hp)) => (lt_ (fun (h55 : z_Hp) => (lt_ (x6 ||| (1 <<< (x7 &&& 31))) (fun x56 => (j74_22 x56 h55)))) (fun (j67_54 : z_Hp → Option (Int32 × z_Hp)) => (if (hI h11 a21 (ix x14)) < (hI h11 a19 9) then (j67_54 h11) else (if hT h11 a19 = 5 then (if hT h11 a3 = 8 then (lt_ (hR h11 a3 5) (fun o57 => (nn o57 (fun a58 => (if okA h11 a58 20 x14 = true then (if (hI h11 a58 (ix x14)) ≤ (hI h11 a19 10) then (j74_22 x6 h11) else (j67_54 h11)) else none))))) else none) else none)))))) else none))))) else none) else none))))) else none))))) else none))))) else none))))) else none))) else none))))) else none))
def c_X8_findClashes (F : Nat) (a0 : Nat) (o1 : Option Nat) (x2 : Int32) (h0 : z_Hp) : Option (Int32 × z_Hp) := (c_X8_findClashes_L5 F a0 o1 x2 F 0 0 h0)
set_option maxRecDepth 20000 in
set_option maxHeartbeats 4000000 in
theorem g_X8_findClashes_L77 (F : Nat) (a25 : Nat) (a26 : Nat) (x27 : Int32) (x28 : Int32) (x29 : Int32) (x30 : Int32) (a31 : Nat) (k145 : z_Hp → Option (Int32 × z_Hp)) (qk145 : ∀ (h34 : z_Hp), z_G zi mi_X8_findClashes 145 [(0, vr (some a25)), (1, vr (some a26)), (2, vi x27), (3, vi x28), (4, vi x29)] [] h34 (k145 h34)) : ∀ (n : Nat) (x32 : Int32) (h33 : z_Hp), z_G zi mi_X8_findClashes 77 [(0, vr (some a25)), (1, vr (some a26)), (2, vi x27), (3, vi x28), (4, vi x29), (5, vi x30), (6, vr (some a31)), (7, vi x32)] [] h33 (c_X8_findClashes_L77 F a25 a26 x27 x28 x29 x30 a31 k145 n x32 h33) := by
  intro n
  induction n with
  | zero => intro x32 h33; rw [c_X8_findClashes_L77]; exact z_none
  | succ n ih =>
    intro x32 h33
    rw [c_X8_findClashes_L77]
    refine z_iload (pc := 77) dX8_findClashes_77 7 rfl (z_iload_n (pc := 79) dX8_findClashes_79 rfl 2 rfl (?_))
    refine z_icmp_ge (pc := 80) (tgt := 145) dX8_findClashes_80 (by decide) ?_ ?_
    · exact z_sub [0, 1, 2, 3, 4] rfl (qk145 h33)
    · refine z_aload_n (pc := 83) dX8_findClashes_83 rfl 0 rfl (z_getRl (pc := 84) fl_RX8_21 rfl dX8_findClashes_84 (fun o35 => (z_iload (pc := 87) dX8_findClashes_87 7 rfl (?_))))
      refine z_nn (fun a36 ea36 => ?_)
      subst ea36
      refine z_iaload (pc := 89) dX8_findClashes_89 (z_istorel (pc := 90) (L' := fun x37 => [(0, vr (some a25)), (1, vr (some a26)), (2, vi x27), (3, vi x28), (4, vi x29), (5, vi x30), (6, vr (some a31)), (7, vi x32), (8, vi x37)]) dX8_findClashes_90 (Nat.le_of_ble_eq_true rfl) (fun _ => rfl) (fun x37 => (z_aload_n (pc := 92) dX8_findClashes_92 rfl 0 rfl (z_getRl (pc := 93) fl_RX8_18 rfl dX8_findClashes_93 (fun o38 => (z_iload (pc := 96) dX8_findClashes_96 5 rfl (?_)))))))
      refine z_nn (fun a39 ea39 => ?_)
      subst ea39
      refine z_iaload (pc := 98) dX8_findClashes_98 (z_iload (pc := 99) dX8_findClashes_99 8 rfl (z_callSN_I (pc := 101) (host := "BalladSheets") (avs := [vi (hI h33 a39 (ix x30)), vi x37]) (st := []) rfl (t_X9_has F (hI h33 a39 (ix x30)) x37 h33) ky_X9_has ws_X9_has (by decide +kernel) (rm_X8_findClashes_X9_has) (Nat.le_of_ble_eq_true rfl) dX8_findClashes_101 (fun x41 h40 => (?_))))
      refine z_jn (P := fun (j : z_Hp → Option (Int32 × z_Hp)) => ∀ (h43 : z_Hp), z_G zi mi_X8_findClashes 139 [(0, vr (some a25)), (1, vr (some a26)), (2, vi x27), (3, vi x28), (4, vi x29), (5, vi x30), (6, vr (some a31)), (7, vi x32)] [] h43 (j h43)) (fun h43 => ?_) (fun j139_42 qj139_42 => ?_)
      · refine z_iincl (pc := 139) (L' := fun x44 => [(0, vr (some a25)), (1, vr (some a26)), (2, vi x27), (3, vi x28), (4, vi x29), (5, vi x30), (6, vr (some a31)), (7, vi x44)]) dX8_findClashes_139 7 rfl ic_1 (Nat.le_of_ble_eq_true rfl) (fun _ => rfl) (fun x44 => (z_goto (pc := 142) (tgt := 77) dX8_findClashes_142 (by decide) (?_)))
        exact ih x44 h43
      refine z_if_eq (pc := 104) (tgt := 139) dX8_findClashes_104 (by decide) ?_ ?_
      · exact z_sub [0, 1, 2, 3, 4, 5, 6, 7] rfl (qj139_42 h40)
      · refine z_aload (pc := 107) dX8_findClashes_107 6 rfl (z_getI (pc := 109) fl_RX8_81 rfl dX8_findClashes_109 (z_aload_n (pc := 112) dX8_findClashes_112 rfl 1 rfl (z_getRl (pc := 113) fl_RX8_47 rfl dX8_findClashes_113 (fun o45 => (z_iload (pc := 116) dX8_findClashes_116 8 rfl (?_))))))
        refine z_nn (fun a46 ea46 => ?_)
        subst ea46
        refine z_aaloadl (pc := 118) 26 (by decide) dX8_findClashes_118 (fun o47 => (?_))
        refine z_nn (fun a48 ea48 => ?_)
        subst ea48
        refine z_getI (pc := 119) fl_RX8_84 rfl dX8_findClashes_119 (?_)
        refine z_icmp_le (pc := 122) (tgt := 139) dX8_findClashes_122 (by decide) ?_ ?_
        · exact z_sub [0, 1, 2, 3, 4, 5, 6, 7] rfl (qj139_42 h40)
        · refine z_aload_n (pc := 125) dX8_findClashes_125 rfl 0 rfl (z_getRl (pc := 126) fl_RX8_24 rfl dX8_findClashes_126 (fun o49 => (z_iload (pc := 129) dX8_findClashes_129 4 rfl (z_dup2 (pc := 131) dX8_findClashes_131 rfl rfl (?_)))))
          refine z_nn (fun a50 ea50 => ?_)
          subst ea50
          refine z_iaload (pc := 132) dX8_findClashes_132 (z_iconst (pc := 133) dX8_findClashes_133 ic_1 (z_iload (pc := 134) dX8_findClashes_134 7 rfl (z_ishl (pc := 136) dX8_findClashes_136 (z_ior (pc := 137) dX8_findClashes_137 (z_iastorel (pc := 138) dX8_findClashes_138 (fun h51 => (?_)))))))
          exact z_sub [0, 1, 2, 3, 4, 5, 6, 7] rfl (qj139_42 h51)
set_option maxRecDepth 20000 in
set_option maxHeartbeats 4000000 in
theorem g_X8_findClashes_L5 (F : Nat) (a3 : Nat) (o4 : Option Nat) (x5 : Int32) : ∀ (n : Nat) (x6 : Int32) (x7 : Int32) (h8 : z_Hp), z_G zi mi_X8_findClashes 5 [(0, vr (some a3)), (1, vr o4), (2, vi x5), (3, vi x6), (4, vi x7)] [] h8 (c_X8_findClashes_L5 F a3 o4 x5 n x6 x7 h8) := by
  intro n
  induction n with
  | zero => intro x6 x7 h8; rw [c_X8_findClashes_L5]; exact z_none
  | succ n ih =>
    intro x6 x7 h8
    rw [c_X8_findClashes_L5]
    refine z_iload (pc := 5) dX8_findClashes_5 4 rfl (z_iload_n (pc := 7) dX8_findClashes_7 rfl 2 rfl (?_))
    refine z_icmp_ge (pc := 8) (tgt := 151) dX8_findClashes_8 (by decide) ?_ ?_
    · refine z_iload_n (pc := 151) dX8_findClashes_151 rfl 3 rfl (?_)
      exact z_iret (pc := 152) dX8_findClashes_152 rfl rfl
    · refine z_aload_n (pc := 11) dX8_findClashes_11 rfl 0 rfl (z_getRl (pc := 12) fl_RX8_24 rfl dX8_findClashes_12 (fun o9 => (z_iload (pc := 15) dX8_findClashes_15 4 rfl (z_iconst (pc := 17) dX8_findClashes_17 ic_0 (?_)))))
      refine z_nn (fun a10 ea10 => ?_)
      subst ea10
      refine z_iastorel (pc := 18) dX8_findClashes_18 (fun h11 => (z_aload_n (pc := 19) dX8_findClashes_19 rfl 0 rfl (z_getRl (pc := 20) fl_RX8_21 rfl dX8_findClashes_20 (fun o12 => (z_iload (pc := 23) dX8_findClashes_23 4 rfl (?_))))))
      refine z_nn (fun a13 ea13 => ?_)
      subst ea13
      refine z_iaload (pc := 25) dX8_findClashes_25 (z_istorel (pc := 26) (L' := fun x14 => [(0, vr (some a3)), (1, vr o4), (2, vi x5), (3, vi x6), (4, vi x7), (5, vi x14)]) dX8_findClashes_26 (Nat.le_of_ble_eq_true rfl) (fun _ => rfl) (fun x14 => (z_aload_n (pc := 28) dX8_findClashes_28 rfl 1 rfl (?_))))
      refine z_nn (fun a15 ea15 => ?_)
      subst ea15
      refine z_getRl (pc := 29) fl_RX8_47 rfl dX8_findClashes_29 (fun o16 => (z_iload (pc := 32) dX8_findClashes_32 5 rfl (?_)))
      refine z_nn (fun a17 ea17 => ?_)
      subst ea17
      refine z_aaloadl (pc := 34) 26 (by decide) dX8_findClashes_34 (fun o18 => (z_astore (pc := 35) (L' := [(0, vr (some a3)), (1, vr (some a15)), (2, vi x5), (3, vi x6), (4, vi x7), (5, vi x14), (6, vr o18)]) dX8_findClashes_35 (Nat.le_of_ble_eq_true rfl) rfl (z_aload (pc := 37) dX8_findClashes_37 6 rfl (?_))))
      refine z_nn (fun a19 ea19 => ?_)
      subst ea19
      refine z_getI (pc := 39) fl_RX8_81 rfl dX8_findClashes_39 (z_aload_n (pc := 42) dX8_findClashes_42 rfl 0 rfl (z_getRl (pc := 43) fl_RX8_30 rfl dX8_findClashes_43 (fun o20 => (z_iload (pc := 46) dX8_findClashes_46 5 rfl (?_)))))
      refine z_nn (fun a21 ea21 => ?_)
      subst ea21
      refine z_iaload (pc := 48) dX8_findClashes_48 (?_)
      refine z_jn (P := fun (j : Int32 → z_Hp → Option (Int32 × z_Hp)) => ∀ (x23 : Int32) (h24 : z_Hp), z_G zi mi_X8_findClashes 74 [(0, vr (some a3)), (1, vr (some a15)), (2, vi x5), (3, vi x23), (4, vi x7), (5, vi x14), (6, vr (some a19))] [] h24 (j x23 h24)) (fun x23 h24 => ?_) (fun j74_22 qj74_22 => ?_)
      · refine z_iconst (pc := 74) dX8_findClashes_74 ic_0 (z_istore (pc := 75) (L' := [(0, vr (some a3)), (1, vr (some a15)), (2, vi x5), (3, vi x23), (4, vi x7), (5, vi x14), (6, vr (some a19)), (7, vi 0)]) dX8_findClashes_75 (Nat.le_of_ble_eq_true rfl) rfl (?_))
        refine g_X8_findClashes_L77 F a3 a15 x5 x23 x7 x14 a19 _ (fun h52 => ?_) F 0 h24
        refine z_iincl (pc := 145) (L' := fun x53 => [(0, vr (some a3)), (1, vr (some a15)), (2, vi x5), (3, vi x23), (4, vi x53)]) dX8_findClashes_145 4 rfl ic_1 (Nat.le_of_ble_eq_true rfl) (fun _ => rfl) (fun x53 => (z_goto (pc := 148) (tgt := 5) dX8_findClashes_148 (by decide) (?_)))
        exact ih x23 x53 h52
      refine z_jn (P := fun (j : z_Hp → Option (Int32 × z_Hp)) => ∀ (h55 : z_Hp), z_G zi mi_X8_findClashes 67 [(0, vr (some a3)), (1, vr (some a15)), (2, vi x5), (3, vi x6), (4, vi x7), (5, vi x14), (6, vr (some a19))] [] h55 (j h55)) (fun h55 => ?_) (fun j67_54 qj67_54 => ?_)
      · refine z_iload_n (pc := 67) dX8_findClashes_67 rfl 3 rfl (z_iconst (pc := 68) dX8_findClashes_68 ic_1 (z_iload (pc := 69) dX8_findClashes_69 4 rfl (z_ishl (pc := 71) dX8_findClashes_71 (z_ior (pc := 72) dX8_findClashes_72 (z_istorel_n (pc := 73) (L' := fun x56 => [(0, vr (some a3)), (1, vr (some a15)), (2, vi x5), (3, vi x56), (4, vi x7), (5, vi x14), (6, vr (some a19))]) dX8_findClashes_73 rfl (Nat.le_of_ble_eq_true rfl) (fun _ => rfl) (fun x56 => (?_)))))))
        exact qj74_22 x56 h55
      refine z_icmp_gt (pc := 49) (tgt := 67) dX8_findClashes_49 (by decide) ?_ ?_
      · exact qj67_54 h11
      · refine z_aload (pc := 52) dX8_findClashes_52 6 rfl (z_getI (pc := 54) fl_RX8_84 rfl dX8_findClashes_54 (z_aload_n (pc := 57) dX8_findClashes_57 rfl 0 rfl (z_getRl (pc := 58) fl_RX8_27 rfl dX8_findClashes_58 (fun o57 => (z_iload (pc := 61) dX8_findClashes_61 5 rfl (?_))))))
        refine z_nn (fun a58 ea58 => ?_)
        subst ea58
        refine z_iaload (pc := 63) dX8_findClashes_63 (?_)
        refine z_icmp_ge (pc := 64) (tgt := 74) dX8_findClashes_64 (by decide) ?_ ?_
        · exact qj74_22 x6 h11
        · exact qj67_54 h11
set_option maxRecDepth 20000 in
set_option maxHeartbeats 4000000 in
theorem t_X8_findClashes (F : Nat) (a0 : Nat) (o1 : Option Nat) (x2 : Int32) (h0 : z_Hp) : z_Ct zi mi_X8_findClashes [vr (some a0), vr o1, vi x2] h0 (c_X8_findClashes F a0 o1 x2 h0) := by
  refine z_entry (by decide) (Nat.le_of_ble_eq_true rfl) [(0, vr (some a0)), (1, vr o1), (2, vi x2)] rfl ?_
  unfold c_X8_findClashes
  refine z_iconst (pc := 0) dX8_findClashes_0 ic_0 (z_istore_n (pc := 1) (L' := [(0, vr (some a0)), (1, vr o1), (2, vi x2), (3, vi 0)]) dX8_findClashes_1 rfl (Nat.le_of_ble_eq_true rfl) rfl (z_iconst (pc := 2) dX8_findClashes_2 ic_0 (z_istore (pc := 3) (L' := [(0, vr (some a0)), (1, vr o1), (2, vi x2), (3, vi 0), (4, vi 0)]) dX8_findClashes_3 (Nat.le_of_ble_eq_true rfl) rfl (?_))))
  refine g_X8_findClashes_L5 F a0 o1 x2 F 0 0 h0
theorem dX8_clear_0 : decode cX8_clear 0 = .ok (.iconst 0, 1) := by decide +kernel
theorem dX8_clear_1 : decode cX8_clear 1 = .ok (.istore_n 3, 1) := by decide +kernel
theorem dX8_clear_2 : decode cX8_clear 2 = .ok (.iload_n 3, 1) := by decide +kernel
theorem dX8_clear_3 : decode cX8_clear 3 = .ok (.iload_n 2, 1) := by decide +kernel
theorem dX8_clear_4 : decode cX8_clear 4 = .ok (.if_icmp .ge 32, 3) := by decide +kernel
theorem dX8_clear_7 : decode cX8_clear 7 = .ok (.iload_n 1, 1) := by decide +kernel
theorem dX8_clear_8 : decode cX8_clear 8 = .ok (.iload_n 3, 1) := by decide +kernel
theorem dX8_clear_9 : decode cX8_clear 9 = .ok (.invokestatic 57, 3) := by decide +kernel
theorem dX8_clear_12 : decode cX8_clear 12 = .ok (.ifCond .ne 18, 3) := by decide +kernel
theorem dX8_clear_15 : decode cX8_clear 15 = .ok (.aload_n 0, 1) := by decide +kernel
theorem dX8_clear_16 : decode cX8_clear 16 = .ok (.getfield 24, 3) := by decide +kernel
theorem dX8_clear_19 : decode cX8_clear 19 = .ok (.iload_n 3, 1) := by decide +kernel
theorem dX8_clear_20 : decode cX8_clear 20 = .ok (.iaload, 1) := by decide +kernel
theorem dX8_clear_21 : decode cX8_clear 21 = .ok (.iload_n 1, 1) := by decide +kernel
theorem dX8_clear_22 : decode cX8_clear 22 = .ok (.iconst (-1), 1) := by decide +kernel
theorem dX8_clear_23 : decode cX8_clear 23 = .ok (.ixor, 1) := by decide +kernel
theorem dX8_clear_24 : decode cX8_clear 24 = .ok (.iand, 1) := by decide +kernel
theorem dX8_clear_25 : decode cX8_clear 25 = .ok (.ifCond .eq 5, 3) := by decide +kernel
theorem dX8_clear_28 : decode cX8_clear 28 = .ok (.iconst 0, 1) := by decide +kernel
theorem dX8_clear_29 : decode cX8_clear 29 = .ok (.ireturn, 1) := by decide +kernel
theorem dX8_clear_30 : decode cX8_clear 30 = .ok (.iinc 3 1, 3) := by decide +kernel
theorem dX8_clear_33 : decode cX8_clear 33 = .ok (.goto (-31), 3) := by decide +kernel
theorem dX8_clear_36 : decode cX8_clear 36 = .ok (.iconst 1, 1) := by decide +kernel
theorem dX8_clear_37 : decode cX8_clear 37 = .ok (.ireturn, 1) := by decide +kernel
def c_X8_clear_L2 (F : Nat) (a3 : Nat) (x4 : Int32) (x5 : Int32) : Nat → Int32 → z_Hp → Option (Int32 × z_Hp)
  | 0, _, _ => none
  | n + 1, x6, h7 => (if x5 ≤ x6 then (some (1, h7)) else (bI (c_X9_has F x4 x6 h7) (fun x9 h8 => (lt_ (fun (h11 : z_Hp) => (lt_ (x6 + 1) (fun x12 => (c_X8_clear_L2 F a3 x4 x5 n x12 h11)))) (fun (j30_10 : z_Hp → Option (Int32 × z_Hp)) => (if x9 = 0 then (if hT h8 a3 = 8 then (lt_ (hR h8 a3 4) (fun o13 => (nn o13 (fun a14 => (if okA h8 a14 20 x6 = true then (if ((hI h8 a14 (ix x6)) &&& (x4 ^^^ (-1))) = 0 then (j30_10 h8) else (some (0, h8))) else none))))) else none) else (j30_10 h8)))))))
def c_X8_clear (F : Nat) (a0 : Nat) (x1 : Int32) (x2 : Int32) (h0 : z_Hp) : Option (Int32 × z_Hp) := (c_X8_clear_L2 F a0 x1 x2 F 0 h0)
set_option maxRecDepth 20000 in
set_option maxHeartbeats 4000000 in
theorem g_X8_clear_L2 (F : Nat) (a3 : Nat) (x4 : Int32) (x5 : Int32) : ∀ (n : Nat) (x6 : Int32) (h7 : z_Hp), z_G zi mi_X8_clear 2 [(0, vr (some a3)), (1, vi x4), (2, vi x5), (3, vi x6)] [] h7 (c_X8_clear_L2 F a3 x4 x5 n x6 h7) := by
  intro n
  induction n with
  | zero => intro x6 h7; rw [c_X8_clear_L2]; exact z_none
  | succ n ih =>
    intro x6 h7
    rw [c_X8_clear_L2]
    refine z_iload_n (pc := 2) dX8_clear_2 rfl 3 rfl (z_iload_n (pc := 3) dX8_clear_3 rfl 2 rfl (?_))
    refine z_icmp_ge (pc := 4) (tgt := 36) dX8_clear_4 (by decide) ?_ ?_
    · refine z_iconst (pc := 36) dX8_clear_36 ic_1 (?_)
      exact z_iret (pc := 37) dX8_clear_37 rfl rfl
    · refine z_iload_n (pc := 7) dX8_clear_7 rfl 1 rfl (z_iload_n (pc := 8) dX8_clear_8 rfl 3 rfl (z_callSN_I (pc := 9) (host := "BalladSheets") (avs := [vi x4, vi x6]) (st := []) rfl (t_X9_has F x4 x6 h7) ky_X9_has ws_X9_has (by decide +kernel) (rm_X8_clear_X9_has) (Nat.le_of_ble_eq_true rfl) dX8_clear_9 (fun x9 h8 => (?_))))
      refine z_jn (P := fun (j : z_Hp → Option (Int32 × z_Hp)) => ∀ (h11 : z_Hp), z_G zi mi_X8_clear 30 [(0, vr (some a3)), (1, vi x4), (2, vi x5), (3, vi x6)] [] h11 (j h11)) (fun h11 => ?_) (fun j30_10 qj30_10 => ?_)
      · refine z_iincl (pc := 30) (L' := fun x12 => [(0, vr (some a3)), (1, vi x4), (2, vi x5), (3, vi x12)]) dX8_clear_30 3 rfl ic_1 (Nat.le_of_ble_eq_true rfl) (fun _ => rfl) (fun x12 => (z_goto (pc := 33) (tgt := 2) dX8_clear_33 (by decide) (?_)))
        exact ih x12 h11
      refine z_if_ne (pc := 12) (tgt := 30) dX8_clear_12 (by decide) ?_ ?_
      · exact qj30_10 h8
      · refine z_aload_n (pc := 15) dX8_clear_15 rfl 0 rfl (z_getRl (pc := 16) fl_RX8_24 rfl dX8_clear_16 (fun o13 => (z_iload_n (pc := 19) dX8_clear_19 rfl 3 rfl (?_))))
        refine z_nn (fun a14 ea14 => ?_)
        subst ea14
        refine z_iaload (pc := 20) dX8_clear_20 (z_iload_n (pc := 21) dX8_clear_21 rfl 1 rfl (z_iconst (pc := 22) dX8_clear_22 ic_m1 (z_ixor (pc := 23) dX8_clear_23 (z_iand (pc := 24) dX8_clear_24 (?_)))))
        refine z_if_eq (pc := 25) (tgt := 30) dX8_clear_25 (by decide) ?_ ?_
        · exact qj30_10 h8
        · refine z_iconst (pc := 28) dX8_clear_28 ic_0 (?_)
          exact z_iret (pc := 29) dX8_clear_29 rfl rfl
set_option maxRecDepth 20000 in
set_option maxHeartbeats 4000000 in
theorem t_X8_clear (F : Nat) (a0 : Nat) (x1 : Int32) (x2 : Int32) (h0 : z_Hp) : z_Ct zi mi_X8_clear [vr (some a0), vi x1, vi x2] h0 (c_X8_clear F a0 x1 x2 h0) := by
  refine z_entry (by decide) (Nat.le_of_ble_eq_true rfl) [(0, vr (some a0)), (1, vi x1), (2, vi x2)] rfl ?_
  unfold c_X8_clear
  refine z_iconst (pc := 0) dX8_clear_0 ic_0 (z_istore_n (pc := 1) (L' := [(0, vr (some a0)), (1, vi x1), (2, vi x2), (3, vi 0)]) dX8_clear_1 rfl (Nat.le_of_ble_eq_true rfl) rfl (?_))
  refine g_X8_clear_L2 F a0 x1 x2 F 0 h0
theorem dX8_spread_0 : decode cX8_spread 0 = .ok (.iconst 0, 1) := by decide +kernel
theorem dX8_spread_1 : decode cX8_spread 1 = .ok (.istore_n 3, 1) := by decide +kernel
theorem dX8_spread_2 : decode cX8_spread 2 = .ok (.iconst 0, 1) := by decide +kernel
theorem dX8_spread_3 : decode cX8_spread 3 = .ok (.istore 4, 2) := by decide +kernel
theorem dX8_spread_5 : decode cX8_spread 5 = .ok (.iload 4, 2) := by decide +kernel
theorem dX8_spread_7 : decode cX8_spread 7 = .ok (.iload_n 2, 1) := by decide +kernel
theorem dX8_spread_8 : decode cX8_spread 8 = .ok (.if_icmp .ge 30, 3) := by decide +kernel
theorem dX8_spread_11 : decode cX8_spread 11 = .ok (.iload_n 1, 1) := by decide +kernel
theorem dX8_spread_12 : decode cX8_spread 12 = .ok (.iload 4, 2) := by decide +kernel
theorem dX8_spread_14 : decode cX8_spread 14 = .ok (.invokestatic 57, 3) := by decide +kernel
theorem dX8_spread_17 : decode cX8_spread 17 = .ok (.ifCond .eq 15, 3) := by decide +kernel
theorem dX8_spread_20 : decode cX8_spread 20 = .ok (.iload_n 3, 1) := by decide +kernel
theorem dX8_spread_21 : decode cX8_spread 21 = .ok (.iconst 1, 1) := by decide +kernel
theorem dX8_spread_22 : decode cX8_spread 22 = .ok (.aload_n 0, 1) := by decide +kernel
theorem dX8_spread_23 : decode cX8_spread 23 = .ok (.getfield 21, 3) := by decide +kernel
theorem dX8_spread_26 : decode cX8_spread 26 = .ok (.iload 4, 2) := by decide +kernel
theorem dX8_spread_28 : decode cX8_spread 28 = .ok (.iaload, 1) := by decide +kernel
theorem dX8_spread_29 : decode cX8_spread 29 = .ok (.ishl, 1) := by decide +kernel
theorem dX8_spread_30 : decode cX8_spread 30 = .ok (.ior, 1) := by decide +kernel
theorem dX8_spread_31 : decode cX8_spread 31 = .ok (.istore_n 3, 1) := by decide +kernel
theorem dX8_spread_32 : decode cX8_spread 32 = .ok (.iinc 4 1, 3) := by decide +kernel
theorem dX8_spread_35 : decode cX8_spread 35 = .ok (.goto (-30), 3) := by decide +kernel
theorem dX8_spread_38 : decode cX8_spread 38 = .ok (.iload_n 3, 1) := by decide +kernel
theorem dX8_spread_39 : decode cX8_spread 39 = .ok (.ireturn, 1) := by decide +kernel
def c_X8_spread_L5 (F : Nat) (a3 : Nat) (x4 : Int32) (x5 : Int32) : Nat → Int32 → Int32 → z_Hp → Option (Int32 × z_Hp)
  | 0, _, _, _ => none
  | n + 1, x6, x7, h8 => (if x5 ≤ x7 then (some (x6, h8)) else (bI (c_X9_has F x4 x7 h8) (fun x10 h9 => (lt_ (fun (x12 : Int32) (h13 : z_Hp) => (lt_ (x7 + 1) (fun x14 => (c_X8_spread_L5 F a3 x4 x5 n x12 x14 h13)))) (fun (j32_11 : Int32 → z_Hp → Option (Int32 × z_Hp)) => (if x10 = 0 then (j32_11 x6 h9) else (if hT h9 a3 = 8 then (lt_ (hR h9 a3 3) (fun o15 => (nn o15 (fun a16 => (if okA h9 a16 20 x7 = true then (lt_ (x6 ||| (1 <<< ((hI h9 a16 (ix x7)) &&& 31))) (fun x17 => (j32_11 x17 h9))) else none))))) else none)))))))
def c_X8_spread (F : Nat) (a0 : Nat) (x1 : Int32) (x2 : Int32) (h0 : z_Hp) : Option (Int32 × z_Hp) := (c_X8_spread_L5 F a0 x1 x2 F 0 0 h0)
set_option maxRecDepth 20000 in
set_option maxHeartbeats 4000000 in
theorem g_X8_spread_L5 (F : Nat) (a3 : Nat) (x4 : Int32) (x5 : Int32) : ∀ (n : Nat) (x6 : Int32) (x7 : Int32) (h8 : z_Hp), z_G zi mi_X8_spread 5 [(0, vr (some a3)), (1, vi x4), (2, vi x5), (3, vi x6), (4, vi x7)] [] h8 (c_X8_spread_L5 F a3 x4 x5 n x6 x7 h8) := by
  intro n
  induction n with
  | zero => intro x6 x7 h8; rw [c_X8_spread_L5]; exact z_none
  | succ n ih =>
    intro x6 x7 h8
    rw [c_X8_spread_L5]
    refine z_iload (pc := 5) dX8_spread_5 4 rfl (z_iload_n (pc := 7) dX8_spread_7 rfl 2 rfl (?_))
    refine z_icmp_ge (pc := 8) (tgt := 38) dX8_spread_8 (by decide) ?_ ?_
    · refine z_iload_n (pc := 38) dX8_spread_38 rfl 3 rfl (?_)
      exact z_iret (pc := 39) dX8_spread_39 rfl rfl
    · refine z_iload_n (pc := 11) dX8_spread_11 rfl 1 rfl (z_iload (pc := 12) dX8_spread_12 4 rfl (z_callSN_I (pc := 14) (host := "BalladSheets") (avs := [vi x4, vi x7]) (st := []) rfl (t_X9_has F x4 x7 h8) ky_X9_has ws_X9_has (by decide +kernel) (rm_X8_spread_X9_has) (Nat.le_of_ble_eq_true rfl) dX8_spread_14 (fun x10 h9 => (?_))))
      refine z_jn (P := fun (j : Int32 → z_Hp → Option (Int32 × z_Hp)) => ∀ (x12 : Int32) (h13 : z_Hp), z_G zi mi_X8_spread 32 [(0, vr (some a3)), (1, vi x4), (2, vi x5), (3, vi x12), (4, vi x7)] [] h13 (j x12 h13)) (fun x12 h13 => ?_) (fun j32_11 qj32_11 => ?_)
      · refine z_iincl (pc := 32) (L' := fun x14 => [(0, vr (some a3)), (1, vi x4), (2, vi x5), (3, vi x12), (4, vi x14)]) dX8_spread_32 4 rfl ic_1 (Nat.le_of_ble_eq_true rfl) (fun _ => rfl) (fun x14 => (z_goto (pc := 35) (tgt := 5) dX8_spread_35 (by decide) (?_)))
        exact ih x12 x14 h13
      refine z_if_eq (pc := 17) (tgt := 32) dX8_spread_17 (by decide) ?_ ?_
      · exact qj32_11 x6 h9
      · refine z_iload_n (pc := 20) dX8_spread_20 rfl 3 rfl (z_iconst (pc := 21) dX8_spread_21 ic_1 (z_aload_n (pc := 22) dX8_spread_22 rfl 0 rfl (z_getRl (pc := 23) fl_RX8_21 rfl dX8_spread_23 (fun o15 => (z_iload (pc := 26) dX8_spread_26 4 rfl (?_))))))
        refine z_nn (fun a16 ea16 => ?_)
        subst ea16
        refine z_iaload (pc := 28) dX8_spread_28 (z_ishl (pc := 29) dX8_spread_29 (z_ior (pc := 30) dX8_spread_30 (z_istorel_n (pc := 31) (L' := fun x17 => [(0, vr (some a3)), (1, vi x4), (2, vi x5), (3, vi x17), (4, vi x7)]) dX8_spread_31 rfl (Nat.le_of_ble_eq_true rfl) (fun _ => rfl) (fun x17 => (?_)))))
        exact qj32_11 x17 h9
set_option maxRecDepth 20000 in
set_option maxHeartbeats 4000000 in
theorem t_X8_spread (F : Nat) (a0 : Nat) (x1 : Int32) (x2 : Int32) (h0 : z_Hp) : z_Ct zi mi_X8_spread [vr (some a0), vi x1, vi x2] h0 (c_X8_spread F a0 x1 x2 h0) := by
  refine z_entry (by decide) (Nat.le_of_ble_eq_true rfl) [(0, vr (some a0)), (1, vi x1), (2, vi x2)] rfl ?_
  unfold c_X8_spread
  refine z_iconst (pc := 0) dX8_spread_0 ic_0 (z_istore_n (pc := 1) (L' := [(0, vr (some a0)), (1, vi x1), (2, vi x2), (3, vi 0)]) dX8_spread_1 rfl (Nat.le_of_ble_eq_true rfl) rfl (z_iconst (pc := 2) dX8_spread_2 ic_0 (z_istore (pc := 3) (L' := [(0, vr (some a0)), (1, vi x1), (2, vi x2), (3, vi 0), (4, vi 0)]) dX8_spread_3 (Nat.le_of_ble_eq_true rfl) rfl (?_))))
  refine g_X8_spread_L5 F a0 x1 x2 F 0 0 h0
theorem dX8_fewestDoubts_0 : decode cX8_fewestDoubts 0 = .ok (.aload_n 0, 1) := by decide +kernel
theorem dX8_fewestDoubts_1 : decode cX8_fewestDoubts 1 = .ok (.aload_n 1, 1) := by decide +kernel
theorem dX8_fewestDoubts_2 : decode cX8_fewestDoubts 2 = .ok (.iload_n 2, 1) := by decide +kernel
theorem dX8_fewestDoubts_3 : decode cX8_fewestDoubts 3 = .ok (.iconst 0, 1) := by decide +kernel
theorem dX8_fewestDoubts_4 : decode cX8_fewestDoubts 4 = .ok (.invokevirtual 37, 3) := by decide +kernel
theorem dX8_fewestDoubts_7 : decode cX8_fewestDoubts 7 = .ok (.ifCond .ne 6, 3) := by decide +kernel
theorem dX8_fewestDoubts_10 : decode cX8_fewestDoubts 10 = .ok (.bipush (-9), 2) := by decide +kernel
theorem dX8_fewestDoubts_12 : decode cX8_fewestDoubts 12 = .ok (.ireturn, 1) := by decide +kernel
theorem dX8_fewestDoubts_13 : decode cX8_fewestDoubts 13 = .ok (.iconst 0, 1) := by decide +kernel
theorem dX8_fewestDoubts_14 : decode cX8_fewestDoubts 14 = .ok (.istore_n 3, 1) := by decide +kernel
theorem dX8_fewestDoubts_15 : decode cX8_fewestDoubts 15 = .ok (.iconst 0, 1) := by decide +kernel
theorem dX8_fewestDoubts_16 : decode cX8_fewestDoubts 16 = .ok (.istore 4, 2) := by decide +kernel
theorem dX8_fewestDoubts_18 : decode cX8_fewestDoubts 18 = .ok (.iload 4, 2) := by decide +kernel
theorem dX8_fewestDoubts_20 : decode cX8_fewestDoubts 20 = .ok (.aload_n 1, 1) := by decide +kernel
theorem dX8_fewestDoubts_21 : decode cX8_fewestDoubts 21 = .ok (.getfield 41, 3) := by decide +kernel
theorem dX8_fewestDoubts_24 : decode cX8_fewestDoubts 24 = .ok (.if_icmp .ge 39, 3) := by decide +kernel
theorem dX8_fewestDoubts_27 : decode cX8_fewestDoubts 27 = .ok (.iload_n 3, 1) := by decide +kernel
theorem dX8_fewestDoubts_28 : decode cX8_fewestDoubts 28 = .ok (.bipush 10, 2) := by decide +kernel
theorem dX8_fewestDoubts_30 : decode cX8_fewestDoubts 30 = .ok (.if_icmp .ge 33, 3) := by decide +kernel
theorem dX8_fewestDoubts_33 : decode cX8_fewestDoubts 33 = .ok (.aload_n 1, 1) := by decide +kernel
theorem dX8_fewestDoubts_34 : decode cX8_fewestDoubts 34 = .ok (.getfield 47, 3) := by decide +kernel
theorem dX8_fewestDoubts_37 : decode cX8_fewestDoubts 37 = .ok (.iload 4, 2) := by decide +kernel
theorem dX8_fewestDoubts_39 : decode cX8_fewestDoubts 39 = .ok (.aaload, 1) := by decide +kernel
theorem dX8_fewestDoubts_40 : decode cX8_fewestDoubts 40 = .ok (.invokevirtual 77, 3) := by decide +kernel
theorem dX8_fewestDoubts_43 : decode cX8_fewestDoubts 43 = .ok (.ifCond .eq 14, 3) := by decide +kernel
theorem dX8_fewestDoubts_46 : decode cX8_fewestDoubts 46 = .ok (.aload_n 0, 1) := by decide +kernel
theorem dX8_fewestDoubts_47 : decode cX8_fewestDoubts 47 = .ok (.getfield 21, 3) := by decide +kernel
theorem dX8_fewestDoubts_50 : decode cX8_fewestDoubts 50 = .ok (.iload_n 3, 1) := by decide +kernel
theorem dX8_fewestDoubts_51 : decode cX8_fewestDoubts 51 = .ok (.iinc 3 1, 3) := by decide +kernel
theorem dX8_fewestDoubts_54 : decode cX8_fewestDoubts 54 = .ok (.iload 4, 2) := by decide +kernel
theorem dX8_fewestDoubts_56 : decode cX8_fewestDoubts 56 = .ok (.iastore, 1) := by decide +kernel
theorem dX8_fewestDoubts_57 : decode cX8_fewestDoubts 57 = .ok (.iinc 4 1, 3) := by decide +kernel
theorem dX8_fewestDoubts_60 : decode cX8_fewestDoubts 60 = .ok (.goto (-42), 3) := by decide +kernel
theorem dX8_fewestDoubts_63 : decode cX8_fewestDoubts 63 = .ok (.aload_n 0, 1) := by decide +kernel
theorem dX8_fewestDoubts_64 : decode cX8_fewestDoubts 64 = .ok (.aload_n 1, 1) := by decide +kernel
theorem dX8_fewestDoubts_65 : decode cX8_fewestDoubts 65 = .ok (.iload_n 3, 1) := by decide +kernel
theorem dX8_fewestDoubts_66 : decode cX8_fewestDoubts 66 = .ok (.invokevirtual 87, 3) := by decide +kernel
theorem dX8_fewestDoubts_69 : decode cX8_fewestDoubts 69 = .ok (.istore 4, 2) := by decide +kernel
theorem dX8_fewestDoubts_71 : decode cX8_fewestDoubts 71 = .ok (.iconst 1, 1) := by decide +kernel
theorem dX8_fewestDoubts_72 : decode cX8_fewestDoubts 72 = .ok (.iload_n 3, 1) := by decide +kernel
theorem dX8_fewestDoubts_73 : decode cX8_fewestDoubts 73 = .ok (.ishl, 1) := by decide +kernel
theorem dX8_fewestDoubts_74 : decode cX8_fewestDoubts 74 = .ok (.iconst 1, 1) := by decide +kernel
theorem dX8_fewestDoubts_75 : decode cX8_fewestDoubts 75 = .ok (.isub, 1) := by decide +kernel
theorem dX8_fewestDoubts_76 : decode cX8_fewestDoubts 76 = .ok (.istore 5, 2) := by decide +kernel
theorem dX8_fewestDoubts_78 : decode cX8_fewestDoubts 78 = .ok (.iload 5, 2) := by decide +kernel
theorem dX8_fewestDoubts_80 : decode cX8_fewestDoubts 80 = .ok (.istore 6, 2) := by decide +kernel
theorem dX8_fewestDoubts_82 : decode cX8_fewestDoubts 82 = .ok (.iload 6, 2) := by decide +kernel
theorem dX8_fewestDoubts_84 : decode cX8_fewestDoubts 84 = .ok (.ifCond .lt 49, 3) := by decide +kernel
theorem dX8_fewestDoubts_87 : decode cX8_fewestDoubts 87 = .ok (.iload 4, 2) := by decide +kernel
theorem dX8_fewestDoubts_89 : decode cX8_fewestDoubts 89 = .ok (.iload 6, 2) := by decide +kernel
theorem dX8_fewestDoubts_91 : decode cX8_fewestDoubts 91 = .ok (.iconst (-1), 1) := by decide +kernel
theorem dX8_fewestDoubts_92 : decode cX8_fewestDoubts 92 = .ok (.ixor, 1) := by decide +kernel
theorem dX8_fewestDoubts_93 : decode cX8_fewestDoubts 93 = .ok (.iand, 1) := by decide +kernel
theorem dX8_fewestDoubts_94 : decode cX8_fewestDoubts 94 = .ok (.ifCond .ne 33, 3) := by decide +kernel
theorem dX8_fewestDoubts_97 : decode cX8_fewestDoubts 97 = .ok (.aload_n 0, 1) := by decide +kernel
theorem dX8_fewestDoubts_98 : decode cX8_fewestDoubts 98 = .ok (.iload 6, 2) := by decide +kernel
theorem dX8_fewestDoubts_100 : decode cX8_fewestDoubts 100 = .ok (.iload_n 3, 1) := by decide +kernel
theorem dX8_fewestDoubts_101 : decode cX8_fewestDoubts 101 = .ok (.invokevirtual 91, 3) := by decide +kernel
theorem dX8_fewestDoubts_104 : decode cX8_fewestDoubts 104 = .ok (.ifCond .ne 6, 3) := by decide +kernel
theorem dX8_fewestDoubts_107 : decode cX8_fewestDoubts 107 = .ok (.goto 20, 3) := by decide +kernel
theorem dX8_fewestDoubts_110 : decode cX8_fewestDoubts 110 = .ok (.iload 6, 2) := by decide +kernel
theorem dX8_fewestDoubts_112 : decode cX8_fewestDoubts 112 = .ok (.invokestatic 94, 3) := by decide +kernel
theorem dX8_fewestDoubts_115 : decode cX8_fewestDoubts 115 = .ok (.iload 5, 2) := by decide +kernel
theorem dX8_fewestDoubts_117 : decode cX8_fewestDoubts 117 = .ok (.invokestatic 94, 3) := by decide +kernel
theorem dX8_fewestDoubts_120 : decode cX8_fewestDoubts 120 = .ok (.if_icmp .gt 7, 3) := by decide +kernel
theorem dX8_fewestDoubts_123 : decode cX8_fewestDoubts 123 = .ok (.iload 6, 2) := by decide +kernel
theorem dX8_fewestDoubts_125 : decode cX8_fewestDoubts 125 = .ok (.istore 5, 2) := by decide +kernel
theorem dX8_fewestDoubts_127 : decode cX8_fewestDoubts 127 = .ok (.iinc 6 (-1), 3) := by decide +kernel
theorem dX8_fewestDoubts_130 : decode cX8_fewestDoubts 130 = .ok (.goto (-48), 3) := by decide +kernel
theorem dX8_fewestDoubts_133 : decode cX8_fewestDoubts 133 = .ok (.aload_n 0, 1) := by decide +kernel
theorem dX8_fewestDoubts_134 : decode cX8_fewestDoubts 134 = .ok (.iload 5, 2) := by decide +kernel
theorem dX8_fewestDoubts_136 : decode cX8_fewestDoubts 136 = .ok (.iload_n 3, 1) := by decide +kernel
theorem dX8_fewestDoubts_137 : decode cX8_fewestDoubts 137 = .ok (.invokevirtual 100, 3) := by decide +kernel
theorem dX8_fewestDoubts_140 : decode cX8_fewestDoubts 140 = .ok (.ireturn, 1) := by decide +kernel
def c_X8_fewestDoubts_L18 (F : Nat) (a5 : Nat) (o6 : Option Nat) (k63 : Int32 → z_Hp → Option (Int32 × z_Hp)) : Nat → Int32 → Int32 → z_Hp → Option (Int32 × z_Hp)
  | 0, _, _, _ => none
  | n + 1, x7, x8, h9 => (nn o6 (fun a12 => (if hT h9 a12 = 6 then (if (hI h9 a12 1) ≤ x8 then (k63 x7 h9) else (if 10 ≤ x7 then (k63 x7 h9) else (if hT h9 a12 = 6 then (lt_ (hR h9 a12 0) (fun o13 => (nn o13 (fun a14 => (if okA h9 a14 26 x8 = true then (lt_ (hR h9 a14 (ix x8)) (fun o15 => (nn o15 (fun a16 => (if hT h9 a16 = 5 then (bI (c_X5_hasSpan F a16 h9) (fun x18 h17 => (lt_ (fun (x20 : Int32) (h21 : z_Hp) => (lt_ (x8 + 1) (fun x22 => (c_X8_fewestDoubts_L18 F a5 o6 k63 n x20 x22 h21)))) (fun (j57_19 : Int32 → z_Hp → Option (Int32 × z_Hp)) => (if x18 = 0 then (j57_19 x7 h17) else (if hT h17 a5 = 8 then (lt_ (hR h17 a5 3) (fun o23 => (lt_ (x7 + 1) (fun x24 => (nn o23 (fun a25 => (if okA h17 a25 20 x7 = true then (lt_ (sI h17 a25 (ix x7) x8) (fun h26 => (j57_19 x24 h26))) else none))))))) else none)))))) else none))))) else none))))) else none))) else none)))
def c_X8_fewestDoubts_L82 (F : Nat) (a32 : Nat) (x33 : Int32) (x34 : Int32) (k133 : Int32 → z_Hp → Option (Int32 × z_Hp)) : Nat → Int32 → Int32 → z_Hp → Option (Int32 × z_Hp)
  | 0, _, _, _ => none
  | n + 1, x35, x36, h37 => (if x36 < 0 then (k133 x35 h37) else (lt_ (fun (x41 : Int32) (h42 : z_Hp) => (lt_ (x36 + (-1)) (fun x43 => (c_X8_fewestDoubts_L82 F a32 x33 x34 k133 n x41 x43 h42)))) (fun (j127_40 : Int32 → z_Hp → Option (Int32 × z_Hp)) => (if (x34 &&& (x36 ^^^ (-1))) = 0 then (if hT h37 a32 = 8 then (bI (c_X8_clear F a32 x36 x33 h37) (fun x45 h44 => (if x45 = 0 then (j127_40 x35 h44) else (bI (c_J6_bitCount_0f7a4 F x36 h44) (fun x47 h46 => (bI (c_J6_bitCount_0f7a4 F x35 h46) (fun x49 h48 => (if x49 < x47 then (j127_40 x35 h48) else (j127_40 x36 h48))))))))) else none) else (j127_40 x35 h37)))))
def c_X8_fewestDoubts (F : Nat) (a0 : Nat) (o1 : Option Nat) (x2 : Int32) (h0 : z_Hp) : Option (Int32 × z_Hp) := (if hT h0 a0 = 8 then (bI (c_X8_bound F a0 o1 x2 0 h0) (fun x4 h3 => (if x4 = 0 then (some ((-9), h3)) else (c_X8_fewestDoubts_L18 F a0 o1 (fun x27 h28 => (if hT h28 a0 = 8 then (bI (c_X8_findClashes F a0 o1 x27 h28) (fun x30 h29 => (lt_ ((1 <<< (x27 &&& 31)) - 1) (fun x31 => (c_X8_fewestDoubts_L82 F a0 x27 x30 (fun x50 h51 => (if hT h51 a0 = 8 then (bI (c_X8_spread F a0 x50 x27 h51) (fun x53 h52 => (some (x53, h52)))) else none)) F x31 x31 h29))))) else none)) F 0 0 h3)))) else none)
set_option maxRecDepth 20000 in
set_option maxHeartbeats 4000000 in
theorem g_X8_fewestDoubts_L18 (F : Nat) (a5 : Nat) (o6 : Option Nat) (k63 : Int32 → z_Hp → Option (Int32 × z_Hp)) (qk63 : ∀ (x10 : Int32) (h11 : z_Hp), z_G zi mi_X8_fewestDoubts 63 [(0, vr (some a5)), (1, vr o6), (3, vi x10)] [] h11 (k63 x10 h11)) : ∀ (n : Nat) (x7 : Int32) (x8 : Int32) (h9 : z_Hp), z_G zi mi_X8_fewestDoubts 18 [(0, vr (some a5)), (1, vr o6), (3, vi x7), (4, vi x8)] [] h9 (c_X8_fewestDoubts_L18 F a5 o6 k63 n x7 x8 h9) := by
  intro n
  induction n with
  | zero => intro x7 x8 h9; rw [c_X8_fewestDoubts_L18]; exact z_none
  | succ n ih =>
    intro x7 x8 h9
    rw [c_X8_fewestDoubts_L18]
    refine z_iload (pc := 18) dX8_fewestDoubts_18 3 rfl (z_aload_n (pc := 20) dX8_fewestDoubts_20 rfl 1 rfl (?_))
    refine z_nn (fun a12 ea12 => ?_)
    subst ea12
    refine z_getI (pc := 21) fl_RX8_41 rfl dX8_fewestDoubts_21 (?_)
    refine z_icmp_ge (pc := 24) (tgt := 63) dX8_fewestDoubts_24 (by decide) ?_ ?_
    · exact z_sub [0, 1, 2] rfl (qk63 x7 h9)
    · refine z_iload_n (pc := 27) dX8_fewestDoubts_27 rfl 2 rfl (z_bipush (pc := 28) dX8_fewestDoubts_28 bp_10 (?_))
      refine z_icmp_ge (pc := 30) (tgt := 63) dX8_fewestDoubts_30 (by decide) ?_ ?_
      · exact z_sub [0, 1, 2] rfl (qk63 x7 h9)
      · refine z_aload_n (pc := 33) dX8_fewestDoubts_33 rfl 1 rfl (z_getRl (pc := 34) fl_RX8_47 rfl dX8_fewestDoubts_34 (fun o13 => (z_iload (pc := 37) dX8_fewestDoubts_37 3 rfl (?_))))
        refine z_nn (fun a14 ea14 => ?_)
        subst ea14
        refine z_aaloadl (pc := 39) 26 (by decide) dX8_fewestDoubts_39 (fun o15 => (?_))
        refine z_nn (fun a16 ea16 => ?_)
        subst ea16
        refine z_callV_I (pc := 40) (avs := []) (st := []) rfl (q := (RX5, TX5, 11)) rfl rfl (t_X5_hasSpan F a16 h9) ky_X5_hasSpan wm_X5_hasSpan we_X5_hasSpan wz_RX8_77 (rm_X8_fewestDoubts_X5_hasSpan) (Nat.le_of_ble_eq_true rfl) dX8_fewestDoubts_40 (fun x18 h17 => (?_))
        refine z_jn (P := fun (j : Int32 → z_Hp → Option (Int32 × z_Hp)) => ∀ (x20 : Int32) (h21 : z_Hp), z_G zi mi_X8_fewestDoubts 57 [(0, vr (some a5)), (1, vr (some a12)), (3, vi x20), (4, vi x8)] [] h21 (j x20 h21)) (fun x20 h21 => ?_) (fun j57_19 qj57_19 => ?_)
        · refine z_iincl (pc := 57) (L' := fun x22 => [(0, vr (some a5)), (1, vr (some a12)), (3, vi x20), (4, vi x22)]) dX8_fewestDoubts_57 3 rfl ic_1 (Nat.le_of_ble_eq_true rfl) (fun _ => rfl) (fun x22 => (z_goto (pc := 60) (tgt := 18) dX8_fewestDoubts_60 (by decide) (?_)))
          exact ih x20 x22 h21
        refine z_if_eq (pc := 43) (tgt := 57) dX8_fewestDoubts_43 (by decide) ?_ ?_
        · exact qj57_19 x7 h17
        · refine z_aload_n (pc := 46) dX8_fewestDoubts_46 rfl 0 rfl (z_getRl (pc := 47) fl_RX8_21 rfl dX8_fewestDoubts_47 (fun o23 => (z_iload_n (pc := 50) dX8_fewestDoubts_50 rfl 2 rfl (z_iincl (pc := 51) (L' := fun x24 => [(0, vr (some a5)), (1, vr (some a12)), (3, vi x24), (4, vi x8)]) dX8_fewestDoubts_51 2 rfl ic_1 (Nat.le_of_ble_eq_true rfl) (fun _ => rfl) (fun x24 => (z_iload (pc := 54) dX8_fewestDoubts_54 3 rfl (?_)))))))
          refine z_nn (fun a25 ea25 => ?_)
          subst ea25
          refine z_iastorel (pc := 56) dX8_fewestDoubts_56 (fun h26 => (?_))
          exact qj57_19 x24 h26
set_option maxRecDepth 20000 in
set_option maxHeartbeats 4000000 in
theorem g_X8_fewestDoubts_L82 (F : Nat) (a32 : Nat) (x33 : Int32) (x34 : Int32) (k133 : Int32 → z_Hp → Option (Int32 × z_Hp)) (qk133 : ∀ (x38 : Int32) (h39 : z_Hp), z_G zi mi_X8_fewestDoubts 133 [(0, vr (some a32)), (3, vi x33), (5, vi x38)] [] h39 (k133 x38 h39)) : ∀ (n : Nat) (x35 : Int32) (x36 : Int32) (h37 : z_Hp), z_G zi mi_X8_fewestDoubts 82 [(0, vr (some a32)), (3, vi x33), (4, vi x34), (5, vi x35), (6, vi x36)] [] h37 (c_X8_fewestDoubts_L82 F a32 x33 x34 k133 n x35 x36 h37) := by
  intro n
  induction n with
  | zero => intro x35 x36 h37; rw [c_X8_fewestDoubts_L82]; exact z_none
  | succ n ih =>
    intro x35 x36 h37
    rw [c_X8_fewestDoubts_L82]
    refine z_iload (pc := 82) dX8_fewestDoubts_82 4 rfl (?_)
    refine z_if_lt (pc := 84) (tgt := 133) dX8_fewestDoubts_84 (by decide) ?_ ?_
    · exact z_sub [0, 1, 3] rfl (qk133 x35 h37)
    · refine z_iload (pc := 87) dX8_fewestDoubts_87 2 rfl (z_iload (pc := 89) dX8_fewestDoubts_89 4 rfl (z_iconst (pc := 91) dX8_fewestDoubts_91 ic_m1 (z_ixor (pc := 92) dX8_fewestDoubts_92 (z_iand (pc := 93) dX8_fewestDoubts_93 (?_)))))
      refine z_jn (P := fun (j : Int32 → z_Hp → Option (Int32 × z_Hp)) => ∀ (x41 : Int32) (h42 : z_Hp), z_G zi mi_X8_fewestDoubts 127 [(0, vr (some a32)), (3, vi x33), (4, vi x34), (5, vi x41), (6, vi x36)] [] h42 (j x41 h42)) (fun x41 h42 => ?_) (fun j127_40 qj127_40 => ?_)
      · refine z_iincl (pc := 127) (L' := fun x43 => [(0, vr (some a32)), (3, vi x33), (4, vi x34), (5, vi x41), (6, vi x43)]) dX8_fewestDoubts_127 4 rfl ic_m1 (Nat.le_of_ble_eq_true rfl) (fun _ => rfl) (fun x43 => (z_goto (pc := 130) (tgt := 82) dX8_fewestDoubts_130 (by decide) (?_)))
        exact ih x41 x43 h42
      refine z_if_ne (pc := 94) (tgt := 127) dX8_fewestDoubts_94 (by decide) ?_ ?_
      · exact qj127_40 x35 h37
      · refine z_aload_n (pc := 97) dX8_fewestDoubts_97 rfl 0 rfl (z_iload (pc := 98) dX8_fewestDoubts_98 4 rfl (z_iload_n (pc := 100) dX8_fewestDoubts_100 rfl 1 rfl (z_callV_I (pc := 101) (avs := [vi x36, vi x33]) (st := []) rfl (q := (RX8, TX8, 7)) rfl rfl (t_X8_clear F a32 x36 x33 h37) ky_X8_clear wm_X8_clear we_X8_clear wz_RX8_91 (rm_X8_fewestDoubts_X8_clear) (Nat.le_of_ble_eq_true rfl) dX8_fewestDoubts_101 (fun x45 h44 => (?_)))))
        refine z_if_ne (pc := 104) (tgt := 110) dX8_fewestDoubts_104 (by decide) ?_ ?_
        · refine z_iload (pc := 110) dX8_fewestDoubts_110 4 rfl (z_callS_I (pc := 112) (avs := [vi x36]) (st := []) rfl (t_J6_bitCount_0f7a4 F x36 h44) ky_J6_bitCount_0f7a4 ws_J6_bitCount_0f7a4 wz_RX8_94 (rm_X8_fewestDoubts_J6_bitCount_0f7a4) (Nat.le_of_ble_eq_true rfl) dX8_fewestDoubts_112 (fun x47 h46 => (?_)))
          refine z_iload (pc := 115) dX8_fewestDoubts_115 3 rfl (z_callS_I (pc := 117) (avs := [vi x35]) (st := [vi x47]) rfl (t_J6_bitCount_0f7a4 F x35 h46) ky_J6_bitCount_0f7a4 ws_J6_bitCount_0f7a4 wz_RX8_94 (rm_X8_fewestDoubts_J6_bitCount_0f7a4) (Nat.le_of_ble_eq_true rfl) dX8_fewestDoubts_117 (fun x49 h48 => (?_)))
          refine z_icmp_gt (pc := 120) (tgt := 127) dX8_fewestDoubts_120 (by decide) ?_ ?_
          · exact qj127_40 x35 h48
          · refine z_iload (pc := 123) dX8_fewestDoubts_123 4 rfl (z_istore (pc := 125) (L' := [(0, vr (some a32)), (3, vi x33), (4, vi x34), (5, vi x36), (6, vi x36)]) dX8_fewestDoubts_125 (Nat.le_of_ble_eq_true rfl) rfl (?_))
            exact qj127_40 x36 h48
        · refine z_goto (pc := 107) (tgt := 127) dX8_fewestDoubts_107 (by decide) (?_)
          exact qj127_40 x35 h44
set_option maxRecDepth 20000 in
set_option maxHeartbeats 4000000 in
theorem t_X8_fewestDoubts (F : Nat) (a0 : Nat) (o1 : Option Nat) (x2 : Int32) (h0 : z_Hp) : z_Ct zi mi_X8_fewestDoubts [vr (some a0), vr o1, vi x2] h0 (c_X8_fewestDoubts F a0 o1 x2 h0) := by
  refine z_entry (by decide) (Nat.le_of_ble_eq_true rfl) [(0, vr (some a0)), (1, vr o1), (2, vi x2)] rfl ?_
  unfold c_X8_fewestDoubts
  refine z_aload_n (pc := 0) dX8_fewestDoubts_0 rfl 0 rfl (z_aload_n (pc := 1) dX8_fewestDoubts_1 rfl 1 rfl (z_iload_n (pc := 2) dX8_fewestDoubts_2 rfl 2 rfl (z_iconst (pc := 3) dX8_fewestDoubts_3 ic_0 (z_callV_I (pc := 4) (avs := [vr o1, vi x2, vi 0]) (st := []) rfl (q := (RX8, TX8, 7)) rfl rfl (t_X8_bound F a0 o1 x2 0 h0) ky_X8_bound wm_X8_bound we_X8_bound wz_RX8_37 (rm_X8_fewestDoubts_X8_bound) (Nat.le_of_ble_eq_true rfl) dX8_fewestDoubts_4 (fun x4 h3 => (?_))))))
  refine z_if_ne (pc := 7) (tgt := 13) dX8_fewestDoubts_7 (by decide) ?_ ?_
  · refine z_iconst (pc := 13) dX8_fewestDoubts_13 ic_0 (z_istore_n (pc := 14) (L' := [(0, vr (some a0)), (1, vr o1), (2, vi x2), (3, vi 0)]) dX8_fewestDoubts_14 rfl (Nat.le_of_ble_eq_true rfl) rfl (z_iconst (pc := 15) dX8_fewestDoubts_15 ic_0 (z_istore (pc := 16) (L' := [(0, vr (some a0)), (1, vr o1), (2, vi x2), (3, vi 0), (4, vi 0)]) dX8_fewestDoubts_16 (Nat.le_of_ble_eq_true rfl) rfl (?_))))
    refine z_sub [0, 1, 3, 4] rfl (g_X8_fewestDoubts_L18 F a0 o1 _ (fun x27 h28 => ?_) F 0 0 h3)
    refine z_aload_n (pc := 63) dX8_fewestDoubts_63 rfl 0 rfl (z_aload_n (pc := 64) dX8_fewestDoubts_64 rfl 1 rfl (z_iload_n (pc := 65) dX8_fewestDoubts_65 rfl 2 rfl (z_callV_I (pc := 66) (avs := [vr o1, vi x27]) (st := []) rfl (q := (RX8, TX8, 7)) rfl rfl (t_X8_findClashes F a0 o1 x27 h28) ky_X8_findClashes wm_X8_findClashes we_X8_findClashes wz_RX8_87 (rm_X8_fewestDoubts_X8_findClashes) (Nat.le_of_ble_eq_true rfl) dX8_fewestDoubts_66 (fun x30 h29 => (?_)))))
    refine z_istore (pc := 69) (L' := [(0, vr (some a0)), (1, vr o1), (3, vi x27), (4, vi x30)]) dX8_fewestDoubts_69 (Nat.le_of_ble_eq_true rfl) rfl (z_iconst (pc := 71) dX8_fewestDoubts_71 ic_1 (z_iload_n (pc := 72) dX8_fewestDoubts_72 rfl 2 rfl (z_ishl (pc := 73) dX8_fewestDoubts_73 (z_iconst (pc := 74) dX8_fewestDoubts_74 ic_1 (z_isub (pc := 75) dX8_fewestDoubts_75 (z_istorel (pc := 76) (L' := fun x31 => [(0, vr (some a0)), (1, vr o1), (3, vi x27), (4, vi x30), (5, vi x31)]) dX8_fewestDoubts_76 (Nat.le_of_ble_eq_true rfl) (fun _ => rfl) (fun x31 => (z_iload (pc := 78) dX8_fewestDoubts_78 4 rfl (?_)))))))))
    refine z_istore (pc := 80) (L' := [(0, vr (some a0)), (1, vr o1), (3, vi x27), (4, vi x30), (5, vi x31), (6, vi x31)]) dX8_fewestDoubts_80 (Nat.le_of_ble_eq_true rfl) rfl (?_)
    refine z_sub [0, 2, 3, 4, 5] rfl (g_X8_fewestDoubts_L82 F a0 x27 x30 _ (fun x50 h51 => ?_) F x31 x31 h29)
    refine z_aload_n (pc := 133) dX8_fewestDoubts_133 rfl 0 rfl (z_iload (pc := 134) dX8_fewestDoubts_134 2 rfl (z_iload_n (pc := 136) dX8_fewestDoubts_136 rfl 1 rfl (z_callV_I (pc := 137) (avs := [vi x50, vi x27]) (st := []) rfl (q := (RX8, TX8, 7)) rfl rfl (t_X8_spread F a0 x50 x27 h51) ky_X8_spread wm_X8_spread we_X8_spread wz_RX8_100 (rm_X8_fewestDoubts_X8_spread) (Nat.le_of_ble_eq_true rfl) dX8_fewestDoubts_137 (fun x53 h52 => (?_)))))
    exact z_iret (pc := 140) dX8_fewestDoubts_140 rfl rfl
  · refine z_bipush (pc := 10) dX8_fewestDoubts_10 bp_m9 (?_)
    exact z_iret (pc := 12) dX8_fewestDoubts_12 rfl rfl
theorem dX8_mixPrinters_0 : decode cX8_mixPrinters 0 = .ok (.lload_n 1, 1) := by decide +kernel
theorem dX8_mixPrinters_1 : decode cX8_mixPrinters 1 = .ok (.lstore_n 3, 1) := by decide +kernel
theorem dX8_mixPrinters_2 : decode cX8_mixPrinters 2 = .ok (.iconst 0, 1) := by decide +kernel
theorem dX8_mixPrinters_3 : decode cX8_mixPrinters 3 = .ok (.istore 5, 2) := by decide +kernel
theorem dX8_mixPrinters_5 : decode cX8_mixPrinters 5 = .ok (.iload 5, 2) := by decide +kernel
theorem dX8_mixPrinters_7 : decode cX8_mixPrinters 7 = .ok (.bipush 8, 2) := by decide +kernel
theorem dX8_mixPrinters_9 : decode cX8_mixPrinters 9 = .ok (.if_icmp .ge 31, 3) := by decide +kernel
theorem dX8_mixPrinters_12 : decode cX8_mixPrinters 12 = .ok (.lload_n 3, 1) := by decide +kernel
theorem dX8_mixPrinters_13 : decode cX8_mixPrinters 13 = .ok (.aload_n 0, 1) := by decide +kernel
theorem dX8_mixPrinters_14 : decode cX8_mixPrinters 14 = .ok (.getfield 9, 3) := by decide +kernel
theorem dX8_mixPrinters_17 : decode cX8_mixPrinters 17 = .ok (.iload 5, 2) := by decide +kernel
theorem dX8_mixPrinters_19 : decode cX8_mixPrinters 19 = .ok (.iaload, 1) := by decide +kernel
theorem dX8_mixPrinters_20 : decode cX8_mixPrinters 20 = .ok (.invokestatic 103, 3) := by decide +kernel
theorem dX8_mixPrinters_23 : decode cX8_mixPrinters 23 = .ok (.aload_n 0, 1) := by decide +kernel
theorem dX8_mixPrinters_24 : decode cX8_mixPrinters 24 = .ok (.getfield 15, 3) := by decide +kernel
theorem dX8_mixPrinters_27 : decode cX8_mixPrinters 27 = .ok (.iload 5, 2) := by decide +kernel
theorem dX8_mixPrinters_29 : decode cX8_mixPrinters 29 = .ok (.iaload, 1) := by decide +kernel
theorem dX8_mixPrinters_30 : decode cX8_mixPrinters 30 = .ok (.invokestatic 103, 3) := by decide +kernel
theorem dX8_mixPrinters_33 : decode cX8_mixPrinters 33 = .ok (.lstore_n 3, 1) := by decide +kernel
theorem dX8_mixPrinters_34 : decode cX8_mixPrinters 34 = .ok (.iinc 5 1, 3) := by decide +kernel
theorem dX8_mixPrinters_37 : decode cX8_mixPrinters 37 = .ok (.goto (-32), 3) := by decide +kernel
theorem dX8_mixPrinters_40 : decode cX8_mixPrinters 40 = .ok (.lload_n 3, 1) := by decide +kernel
theorem dX8_mixPrinters_41 : decode cX8_mixPrinters 41 = .ok (.lreturn, 1) := by decide +kernel
def c_X8_mixPrinters_L5 (F : Nat) (a2 : Nat) : Nat → Int64 → Int32 → z_Hp → Option (Int64 × z_Hp)
  | 0, _, _, _ => none
  | n + 1, y3, x4, h5 => (if 8 ≤ x4 then (some (y3, h5)) else (if hT h5 a2 = 8 then (lt_ (hR h5 a2 0) (fun o6 => (nn o6 (fun a7 => (if okA h5 a7 20 x4 = true then (bL (c_X9_mix F y3 (hI h5 a7 (ix x4)) h5) (fun y9 h8 => (if hT h8 a2 = 8 then (lt_ (hR h8 a2 1) (fun o10 => (nn o10 (fun a11 => (if okA h8 a11 20 x4 = true then (bL (c_X9_mix F y9 (hI h8 a11 (ix x4)) h8) (fun y13 h12 => (lt_ (x4 + 1) (fun x14 => (c_X8_mixPrinters_L5 F a2 n y13 x14 h12))))) else none))))) else none))) else none))))) else none))
def c_X8_mixPrinters (F : Nat) (a0 : Nat) (y1 : Int64) (h0 : z_Hp) : Option (Int64 × z_Hp) := (c_X8_mixPrinters_L5 F a0 F y1 0 h0)
set_option maxRecDepth 20000 in
set_option maxHeartbeats 4000000 in
theorem g_X8_mixPrinters_L5 (F : Nat) (a2 : Nat) : ∀ (n : Nat) (y3 : Int64) (x4 : Int32) (h5 : z_Hp), z_G zl mi_X8_mixPrinters 5 [(0, vr (some a2)), (3, vl y3), (5, vi x4)] [] h5 (c_X8_mixPrinters_L5 F a2 n y3 x4 h5) := by
  intro n
  induction n with
  | zero => intro y3 x4 h5; rw [c_X8_mixPrinters_L5]; exact z_none
  | succ n ih =>
    intro y3 x4 h5
    rw [c_X8_mixPrinters_L5]
    refine z_iload (pc := 5) dX8_mixPrinters_5 2 rfl (z_bipush (pc := 7) dX8_mixPrinters_7 bp_8 (?_))
    refine z_icmp_ge (pc := 9) (tgt := 40) dX8_mixPrinters_9 (by decide) ?_ ?_
    · refine z_lload_n (pc := 40) dX8_mixPrinters_40 rfl 1 rfl (?_)
      exact z_lret (pc := 41) dX8_mixPrinters_41 rfl
    · refine z_lload_n (pc := 12) dX8_mixPrinters_12 rfl 1 rfl (z_aload_n (pc := 13) dX8_mixPrinters_13 rfl 0 rfl (z_getRl (pc := 14) fl_RX8_9 rfl dX8_mixPrinters_14 (fun o6 => (z_iload (pc := 17) dX8_mixPrinters_17 2 rfl (?_)))))
      refine z_nn (fun a7 ea7 => ?_)
      subst ea7
      refine z_iaload (pc := 19) dX8_mixPrinters_19 (z_callSN_L (pc := 20) (host := "BalladSheets") (avs := [vl y3, vi (hI h5 a7 (ix x4))]) (st := []) rfl (t_X9_mix F y3 (hI h5 a7 (ix x4)) h5) ky_X9_mix ws_X9_mix (by decide +kernel) (rm_X8_mixPrinters_X9_mix) (Nat.le_of_ble_eq_true rfl) dX8_mixPrinters_20 (fun y9 h8 => (?_)))
      refine z_aload_n (pc := 23) dX8_mixPrinters_23 rfl 0 rfl (z_getRl (pc := 24) fl_RX8_15 rfl dX8_mixPrinters_24 (fun o10 => (z_iload (pc := 27) dX8_mixPrinters_27 2 rfl (?_))))
      refine z_nn (fun a11 ea11 => ?_)
      subst ea11
      refine z_iaload (pc := 29) dX8_mixPrinters_29 (z_callSN_L (pc := 30) (host := "BalladSheets") (avs := [vl y9, vi (hI h8 a11 (ix x4))]) (st := []) rfl (t_X9_mix F y9 (hI h8 a11 (ix x4)) h8) ky_X9_mix ws_X9_mix (by decide +kernel) (rm_X8_mixPrinters_X9_mix) (Nat.le_of_ble_eq_true rfl) dX8_mixPrinters_30 (fun y13 h12 => (?_)))
      refine z_lstore_n (pc := 33) (L' := [(0, vr (some a2)), (3, vl y13), (5, vi x4)]) dX8_mixPrinters_33 rfl (Nat.le_of_ble_eq_true rfl) rfl (z_iincl (pc := 34) (L' := fun x14 => [(0, vr (some a2)), (3, vl y13), (5, vi x14)]) dX8_mixPrinters_34 2 rfl ic_1 (Nat.le_of_ble_eq_true rfl) (fun _ => rfl) (fun x14 => (z_goto (pc := 37) (tgt := 5) dX8_mixPrinters_37 (by decide) (?_))))
      exact ih y13 x14 h12
set_option maxRecDepth 20000 in
set_option maxHeartbeats 4000000 in
theorem t_X8_mixPrinters (F : Nat) (a0 : Nat) (y1 : Int64) (h0 : z_Hp) : z_Ct zl mi_X8_mixPrinters [vr (some a0), vl y1] h0 (c_X8_mixPrinters F a0 y1 h0) := by
  refine z_entry (by decide) (Nat.le_of_ble_eq_true rfl) [(0, vr (some a0)), (1, vl y1)] rfl ?_
  unfold c_X8_mixPrinters
  refine z_lload_n (pc := 0) dX8_mixPrinters_0 rfl 1 rfl (z_lstore_n (pc := 1) (L' := [(0, vr (some a0)), (1, vl y1), (3, vl y1)]) dX8_mixPrinters_1 rfl (Nat.le_of_ble_eq_true rfl) rfl (z_iconst (pc := 2) dX8_mixPrinters_2 ic_0 (z_istore (pc := 3) (L' := [(0, vr (some a0)), (1, vl y1), (3, vl y1), (5, vi 0)]) dX8_mixPrinters_3 (Nat.le_of_ble_eq_true rfl) rfl (?_))))
  refine z_sub [0, 2, 3] rfl (g_X8_mixPrinters_L5 F a0 F y1 0 h0)
theorem dX9_init_0 : decode cX9_init 0 = .ok (.aload_n 0, 1) := by decide +kernel
theorem dX9_init_1 : decode cX9_init 1 = .ok (.invokespecial 3, 3) := by decide +kernel
theorem dX9_init_4 : decode cX9_init 4 = .ok (.aload_n 0, 1) := by decide +kernel
theorem dX9_init_5 : decode cX9_init 5 = .ok (.bipush 6, 2) := by decide +kernel
theorem dX9_init_7 : decode cX9_init 7 = .ok (.anewarray 9, 3) := by decide +kernel
theorem dX9_init_10 : decode cX9_init 10 = .ok (.putfield 11, 3) := by decide +kernel
theorem dX9_init_13 : decode cX9_init 13 = .ok (.aload_n 0, 1) := by decide +kernel
theorem dX9_init_14 : decode cX9_init 14 = .ok (.iconst 4, 1) := by decide +kernel
theorem dX9_init_15 : decode cX9_init 15 = .ok (.anewarray 15, 3) := by decide +kernel
theorem dX9_init_18 : decode cX9_init 18 = .ok (.putfield 17, 3) := by decide +kernel
theorem dX9_init_21 : decode cX9_init 21 = .ok (.aload_n 0, 1) := by decide +kernel
theorem dX9_init_22 : decode cX9_init 22 = .ok (.bipush 10, 2) := by decide +kernel
theorem dX9_init_24 : decode cX9_init 24 = .ok (.anewarray 21, 3) := by decide +kernel
theorem dX9_init_27 : decode cX9_init 27 = .ok (.putfield 23, 3) := by decide +kernel
theorem dX9_init_30 : decode cX9_init 30 = .ok (.aload_n 0, 1) := by decide +kernel
theorem dX9_init_31 : decode cX9_init 31 = .ok (.bipush 6, 2) := by decide +kernel
theorem dX9_init_33 : decode cX9_init 33 = .ok (.anewarray 9, 3) := by decide +kernel
theorem dX9_init_36 : decode cX9_init 36 = .ok (.putfield 27, 3) := by decide +kernel
theorem dX9_init_39 : decode cX9_init 39 = .ok (.aload_n 0, 1) := by decide +kernel
theorem dX9_init_40 : decode cX9_init 40 = .ok (.new 30, 3) := by decide +kernel
theorem dX9_init_43 : decode cX9_init 43 = .ok (.dup, 1) := by decide +kernel
theorem dX9_init_44 : decode cX9_init 44 = .ok (.invokespecial 32, 3) := by decide +kernel
theorem dX9_init_47 : decode cX9_init 47 = .ok (.putfield 33, 3) := by decide +kernel
theorem dX9_init_50 : decode cX9_init 50 = .ok (.aload_n 0, 1) := by decide +kernel
theorem dX9_init_51 : decode cX9_init 51 = .ok (.new 37, 3) := by decide +kernel
theorem dX9_init_54 : decode cX9_init 54 = .ok (.dup, 1) := by decide +kernel
theorem dX9_init_55 : decode cX9_init 55 = .ok (.invokespecial 39, 3) := by decide +kernel
theorem dX9_init_58 : decode cX9_init 58 = .ok (.putfield 40, 3) := by decide +kernel
theorem dX9_init_61 : decode cX9_init 61 = .ok (.aload_n 0, 1) := by decide +kernel
theorem dX9_init_62 : decode cX9_init 62 = .ok (.new 44, 3) := by decide +kernel
theorem dX9_init_65 : decode cX9_init 65 = .ok (.dup, 1) := by decide +kernel
theorem dX9_init_66 : decode cX9_init 66 = .ok (.invokespecial 46, 3) := by decide +kernel
theorem dX9_init_69 : decode cX9_init 69 = .ok (.putfield 47, 3) := by decide +kernel
theorem dX9_init_72 : decode cX9_init 72 = .ok (.aload_n 0, 1) := by decide +kernel
theorem dX9_init_73 : decode cX9_init 73 = .ok (.new 51, 3) := by decide +kernel
theorem dX9_init_76 : decode cX9_init 76 = .ok (.dup, 1) := by decide +kernel
theorem dX9_init_77 : decode cX9_init 77 = .ok (.invokespecial 53, 3) := by decide +kernel
theorem dX9_init_80 : decode cX9_init 80 = .ok (.putfield 54, 3) := by decide +kernel
theorem dX9_init_83 : decode cX9_init 83 = .ok (.aload_n 0, 1) := by decide +kernel
theorem dX9_init_84 : decode cX9_init 84 = .ok (.new 58, 3) := by decide +kernel
theorem dX9_init_87 : decode cX9_init 87 = .ok (.dup, 1) := by decide +kernel
theorem dX9_init_88 : decode cX9_init 88 = .ok (.invokespecial 60, 3) := by decide +kernel
theorem dX9_init_91 : decode cX9_init 91 = .ok (.putfield 61, 3) := by decide +kernel
theorem dX9_init_94 : decode cX9_init 94 = .ok (.aload_n 0, 1) := by decide +kernel
theorem dX9_init_95 : decode cX9_init 95 = .ok (.new 65, 3) := by decide +kernel
theorem dX9_init_98 : decode cX9_init 98 = .ok (.dup, 1) := by decide +kernel
theorem dX9_init_99 : decode cX9_init 99 = .ok (.invokespecial 67, 3) := by decide +kernel
theorem dX9_init_102 : decode cX9_init 102 = .ok (.putfield 68, 3) := by decide +kernel
theorem dX9_init_105 : decode cX9_init 105 = .ok (.aload_n 0, 1) := by decide +kernel
theorem dX9_init_106 : decode cX9_init 106 = .ok (.new 72, 3) := by decide +kernel
theorem dX9_init_109 : decode cX9_init 109 = .ok (.dup, 1) := by decide +kernel
theorem dX9_init_110 : decode cX9_init 110 = .ok (.invokespecial 74, 3) := by decide +kernel
theorem dX9_init_113 : decode cX9_init 113 = .ok (.putfield 75, 3) := by decide +kernel
theorem dX9_init_116 : decode cX9_init 116 = .ok (.aload_n 0, 1) := by decide +kernel
theorem dX9_init_117 : decode cX9_init 117 = .ok (.bipush 6, 2) := by decide +kernel
theorem dX9_init_119 : decode cX9_init 119 = .ok (.newarray .int, 2) := by decide +kernel
theorem dX9_init_121 : decode cX9_init 121 = .ok (.putfield 79, 3) := by decide +kernel
theorem dX9_init_124 : decode cX9_init 124 = .ok (.aload_n 0, 1) := by decide +kernel
theorem dX9_init_125 : decode cX9_init 125 = .ok (.lconst 1, 1) := by decide +kernel
theorem dX9_init_126 : decode cX9_init 126 = .ok (.putfield 82, 3) := by decide +kernel
theorem dX9_init_129 : decode cX9_init 129 = .ok (.return_, 1) := by decide +kernel
def c_X9_init (F : Nat) (a0 : Nat) (h0 : z_Hp) : Option (z_Hp) := (if inb 6 100000 = true then (nwo h0 23 (ix 6) (fun a1 h2 => (if hT h2 a0 = 9 then (lt_ (sR h2 a0 0 (some a1)) (fun h3 => (if inb 4 100000 = true then (nwo h3 24 (ix 4) (fun a4 h5 => (if hT h5 a0 = 9 then (lt_ (sR h5 a0 1 (some a4)) (fun h6 => (if inb 10 100000 = true then (nwo h6 25 (ix 10) (fun a7 h8 => (if hT h8 a0 = 9 then (lt_ (sR h8 a0 2 (some a7)) (fun h9 => (if inb 6 100000 = true then (nwo h9 23 (ix 6) (fun a10 h11 => (if hT h11 a0 = 9 then (lt_ (sR h11 a0 3 (some a10)) (fun h12 => (nwo h12 3 4 (fun a13 h14 => (bV (c_X3_init F a13 h14) (fun h15 => (if hT h15 a0 = 9 then (lt_ (sR h15 a0 5 (some a13)) (fun h16 => (nwo h16 6 2 (fun a17 h18 => (bV (c_X6_init F a17 h18) (fun h19 => (if hT h19 a0 = 9 then (lt_ (sR h19 a0 6 (some a17)) (fun h20 => (nwo h20 1 4 (fun a21 h22 => (bV (c_X1_init F a21 h22) (fun h23 => (if hT h23 a0 = 9 then (lt_ (sR h23 a0 7 (some a21)) (fun h24 => (nwo h24 8 7 (fun a25 h26 => (bV (c_X8_init F a25 h26) (fun h27 => (if hT h27 a0 = 9 then (lt_ (sR h27 a0 8 (some a25)) (fun h28 => (nwo h28 0 7 (fun a29 h30 => (bV (c_X0_init F a29 h30) (fun h31 => (if hT h31 a0 = 9 then (lt_ (sR h31 a0 9 (some a29)) (fun h32 => (nwo h32 2 5 (fun a33 h34 => (bV (c_X2_init F a33 h34) (fun h35 => (if hT h35 a0 = 9 then (lt_ (sR h35 a0 10 (some a33)) (fun h36 => (nwo h36 4 6 (fun a37 h38 => (bV (c_X4_init F a37 h38) (fun h39 => (if hT h39 a0 = 9 then (lt_ (sR h39 a0 11 (some a37)) (fun h40 => (if inb 6 100000 = true then (nwo h40 20 (ix 6) (fun a41 h42 => (if hT h42 a0 = 9 then (lt_ (sR h42 a0 13 (some a41)) (fun h43 => (if hT h43 a0 = 9 then (lt_ (sJ h43 a0 17 1) (fun h44 => (some h44))) else none))) else none))) else none))) else none))))))) else none))))))) else none))))))) else none))))))) else none))))))) else none))))))) else none))))))) else none))) else none))) else none))) else none))) else none))) else none))) else none))) else none)
set_option maxRecDepth 20000 in
set_option maxHeartbeats 4000000 in
theorem t_X9_init (F : Nat) (a0 : Nat) (h0 : z_Hp) : z_Ct zv mi_X9_init [vr (some a0)] h0 (c_X9_init F a0 h0) := by
  refine z_entry (by decide) (Nat.le_of_ble_eq_true rfl) [(0, vr (some a0))] rfl ?_
  unfold c_X9_init
  refine z_aload_n (pc := 0) dX9_init_0 rfl 0 rfl (z_objinit (pc := 1) wo_RX9_3 wo_im wo_cd (Nat.le_of_ble_eq_true rfl) (Nat.le_of_ble_eq_true rfl) (Nat.le_of_ble_eq_true rfl) dX9_init_1 (z_aload_n (pc := 4) dX9_init_4 rfl 0 rfl (z_bipush (pc := 5) dX9_init_5 bp_6 (z_anewarrl (pc := 7) 23 (by decide) wl_RX9_9 dX9_init_7 (fun a1 h2 => (z_putRl (pc := 10) fl_RX9_11 fin_X9_init_9_0 rfl dX9_init_10 (fun h3 => (z_aload_n (pc := 13) dX9_init_13 rfl 0 rfl (z_iconst (pc := 14) dX9_init_14 ic_4 (?_))))))))))
  refine z_anewarrl (pc := 15) 24 (by decide) wl_RX9_15 dX9_init_15 (fun a4 h5 => (z_putRl (pc := 18) fl_RX9_17 fin_X9_init_9_1 rfl dX9_init_18 (fun h6 => (z_aload_n (pc := 21) dX9_init_21 rfl 0 rfl (z_bipush (pc := 22) dX9_init_22 bp_10 (z_anewarrl (pc := 24) 25 (by decide) wl_RX9_21 dX9_init_24 (fun a7 h8 => (z_putRl (pc := 27) fl_RX9_23 fin_X9_init_9_2 rfl dX9_init_27 (fun h9 => (z_aload_n (pc := 30) dX9_init_30 rfl 0 rfl (z_bipush (pc := 31) dX9_init_31 bp_6 (?_))))))))))))
  refine z_anewarrl (pc := 33) 23 (by decide) wl_RX9_9 dX9_init_33 (fun a10 h11 => (z_putRl (pc := 36) fl_RX9_27 fin_X9_init_9_3 rfl dX9_init_36 (fun h12 => (z_aload_n (pc := 39) dX9_init_39 rfl 0 rfl (z_newl (pc := 40) (q := (RX3, TX3, 4)) cn_RX9_30 dX9_init_40 (fun a13 h14 => (z_dup (pc := 43) dX9_init_43 rfl (z_callIN_V (pc := 44) (host := "BalladSheets") (avs := []) (st := [vr (some a13), vr (some a0)]) rfl (t_X3_init F a13 h14) ky_X3_init rfl rfl wm_X3_init (by decide +kernel) (rm_X9_init_X3_init) (Nat.le_of_ble_eq_true rfl) dX9_init_44 (fun h15 => (?_))))))))))
  refine z_putRl (pc := 47) fl_RX9_33 fin_X9_init_9_5 rfl dX9_init_47 (fun h16 => (z_aload_n (pc := 50) dX9_init_50 rfl 0 rfl (z_newl (pc := 51) (q := (RX6, TX6, 2)) cn_RX9_37 dX9_init_51 (fun a17 h18 => (z_dup (pc := 54) dX9_init_54 rfl (z_callIN_V (pc := 55) (host := "BalladSheets") (avs := []) (st := [vr (some a17), vr (some a0)]) rfl (t_X6_init F a17 h18) ky_X6_init rfl rfl wm_X6_init (by decide +kernel) (rm_X9_init_X6_init) (Nat.le_of_ble_eq_true rfl) dX9_init_55 (fun h19 => (?_))))))))
  refine z_putRl (pc := 58) fl_RX9_40 fin_X9_init_9_6 rfl dX9_init_58 (fun h20 => (z_aload_n (pc := 61) dX9_init_61 rfl 0 rfl (z_newl (pc := 62) (q := (RX1, TX1, 4)) cn_RX9_44 dX9_init_62 (fun a21 h22 => (z_dup (pc := 65) dX9_init_65 rfl (z_callIN_V (pc := 66) (host := "BalladSheets") (avs := []) (st := [vr (some a21), vr (some a0)]) rfl (t_X1_init F a21 h22) ky_X1_init rfl rfl wm_X1_init (by decide +kernel) (rm_X9_init_X1_init) (Nat.le_of_ble_eq_true rfl) dX9_init_66 (fun h23 => (?_))))))))
  refine z_putRl (pc := 69) fl_RX9_47 fin_X9_init_9_7 rfl dX9_init_69 (fun h24 => (z_aload_n (pc := 72) dX9_init_72 rfl 0 rfl (z_newl (pc := 73) (q := (RX8, TX8, 7)) cn_RX9_51 dX9_init_73 (fun a25 h26 => (z_dup (pc := 76) dX9_init_76 rfl (z_callI_V (pc := 77) (avs := []) (st := [vr (some a25), vr (some a0)]) rfl (t_X8_init F a25 h26) ky_X8_init rfl rfl wm_X8_init wz_RX9_53 (rm_X9_init_X8_init) (Nat.le_of_ble_eq_true rfl) dX9_init_77 (fun h27 => (?_))))))))
  refine z_putRl (pc := 80) fl_RX9_54 fin_X9_init_9_8 rfl dX9_init_80 (fun h28 => (z_aload_n (pc := 83) dX9_init_83 rfl 0 rfl (z_newl (pc := 84) (q := (RX0, TX0, 7)) cn_RX9_58 dX9_init_84 (fun a29 h30 => (z_dup (pc := 87) dX9_init_87 rfl (z_callIN_V (pc := 88) (host := "BalladSheets") (avs := []) (st := [vr (some a29), vr (some a0)]) rfl (t_X0_init F a29 h30) ky_X0_init rfl rfl wm_X0_init (by decide +kernel) (rm_X9_init_X0_init) (Nat.le_of_ble_eq_true rfl) dX9_init_88 (fun h31 => (?_))))))))
  refine z_putRl (pc := 91) fl_RX9_61 fin_X9_init_9_9 rfl dX9_init_91 (fun h32 => (z_aload_n (pc := 94) dX9_init_94 rfl 0 rfl (z_newl (pc := 95) (q := (RX2, TX2, 5)) cn_RX9_65 dX9_init_95 (fun a33 h34 => (z_dup (pc := 98) dX9_init_98 rfl (z_callIN_V (pc := 99) (host := "BalladSheets") (avs := []) (st := [vr (some a33), vr (some a0)]) rfl (t_X2_init F a33 h34) ky_X2_init rfl rfl wm_X2_init (by decide +kernel) (rm_X9_init_X2_init) (Nat.le_of_ble_eq_true rfl) dX9_init_99 (fun h35 => (?_))))))))
  refine z_putRl (pc := 102) fl_RX9_68 fin_X9_init_9_10 rfl dX9_init_102 (fun h36 => (z_aload_n (pc := 105) dX9_init_105 rfl 0 rfl (z_newl (pc := 106) (q := (RX4, TX4, 6)) cn_RX9_72 dX9_init_106 (fun a37 h38 => (z_dup (pc := 109) dX9_init_109 rfl (z_callIN_V (pc := 110) (host := "BalladSheets") (avs := []) (st := [vr (some a37), vr (some a0)]) rfl (t_X4_init F a37 h38) ky_X4_init rfl rfl wm_X4_init (by decide +kernel) (rm_X9_init_X4_init) (Nat.le_of_ble_eq_true rfl) dX9_init_110 (fun h39 => (?_))))))))
  refine z_putRl (pc := 113) fl_RX9_75 fin_X9_init_9_11 rfl dX9_init_113 (fun h40 => (z_aload_n (pc := 116) dX9_init_116 rfl 0 rfl (z_bipush (pc := 117) dX9_init_117 bp_6 (z_newarrl (pc := 119) 20 (by decide) rfl wa_20 dX9_init_119 (fun a41 h42 => (z_putRl (pc := 121) fl_RX9_79 fin_X9_init_9_13 rfl dX9_init_121 (fun h43 => (z_aload_n (pc := 124) dX9_init_124 rfl 0 rfl (z_lconst (pc := 125) dX9_init_125 lc_1 (z_putJl (pc := 126) fl_RX9_82 (fin_X_9_17 _) rfl dX9_init_126 (fun h44 => (?_))))))))))))
  exact z_vret (pc := 129) dX9_init_129 rfl
theorem dX9_isRow_0 : decode cX9_isRow 0 = .ok (.iload_n 0, 1) := by decide +kernel
theorem dX9_isRow_1 : decode cX9_isRow 1 = .ok (.ifCond .lt 13, 3) := by decide +kernel
theorem dX9_isRow_4 : decode cX9_isRow 4 = .ok (.iload_n 0, 1) := by decide +kernel
theorem dX9_isRow_5 : decode cX9_isRow 5 = .ok (.bipush 6, 2) := by decide +kernel
theorem dX9_isRow_7 : decode cX9_isRow 7 = .ok (.if_icmp .ge 7, 3) := by decide +kernel
theorem dX9_isRow_10 : decode cX9_isRow 10 = .ok (.iconst 1, 1) := by decide +kernel
theorem dX9_isRow_11 : decode cX9_isRow 11 = .ok (.goto 4, 3) := by decide +kernel
theorem dX9_isRow_14 : decode cX9_isRow 14 = .ok (.iconst 0, 1) := by decide +kernel
theorem dX9_isRow_15 : decode cX9_isRow 15 = .ok (.ireturn, 1) := by decide +kernel
def c_X9_isRow (F : Nat) (x1 : Int32) (h0 : z_Hp) : Option (Int32 × z_Hp) := (if x1 < 0 then (some (0, h0)) else (if 6 ≤ x1 then (some (0, h0)) else (some (1, h0))))
set_option maxRecDepth 20000 in
set_option maxHeartbeats 4000000 in
theorem t_X9_isRow (F : Nat) (x1 : Int32) (h0 : z_Hp) : z_Ct zi mi_X9_isRow [vi x1] h0 (c_X9_isRow F x1 h0) := by
  refine z_entry (by decide) (Nat.le_of_ble_eq_true rfl) [(0, vi x1)] rfl ?_
  unfold c_X9_isRow
  refine z_iload_n (pc := 0) dX9_isRow_0 rfl 0 rfl (?_)
  refine z_if_lt (pc := 1) (tgt := 14) dX9_isRow_1 (by decide) ?_ ?_
  · refine z_iconst (pc := 14) dX9_isRow_14 ic_0 (?_)
    exact z_iret (pc := 15) dX9_isRow_15 rfl rfl
  · refine z_iload_n (pc := 4) dX9_isRow_4 rfl 0 rfl (z_bipush (pc := 5) dX9_isRow_5 bp_6 (?_))
    refine z_icmp_ge (pc := 7) (tgt := 14) dX9_isRow_7 (by decide) ?_ ?_
    · refine z_iconst (pc := 14) dX9_isRow_14 ic_0 (?_)
      exact z_iret (pc := 15) dX9_isRow_15 rfl rfl
    · refine z_iconst (pc := 10) dX9_isRow_10 ic_1 (z_goto (pc := 11) (tgt := 15) dX9_isRow_11 (by decide) (?_))
      exact z_iret (pc := 15) dX9_isRow_15 rfl rfl
theorem dX9_found_0 : decode cX9_found 0 = .ok (.aload_n 0, 1) := by decide +kernel
theorem dX9_found_1 : decode cX9_found 1 = .ok (.iload_n 1, 1) := by decide +kernel
theorem dX9_found_2 : decode cX9_found 2 = .ok (.putfield 411, 3) := by decide +kernel
theorem dX9_found_5 : decode cX9_found 5 = .ok (.aload_n 0, 1) := by decide +kernel
theorem dX9_found_6 : decode cX9_found 6 = .ok (.getfield 79, 3) := by decide +kernel
theorem dX9_found_9 : decode cX9_found 9 = .ok (.iload_n 1, 1) := by decide +kernel
theorem dX9_found_10 : decode cX9_found 10 = .ok (.dup2, 1) := by decide +kernel
theorem dX9_found_11 : decode cX9_found 11 = .ok (.iaload, 1) := by decide +kernel
theorem dX9_found_12 : decode cX9_found 12 = .ok (.iconst 1, 1) := by decide +kernel
theorem dX9_found_13 : decode cX9_found 13 = .ok (.iadd, 1) := by decide +kernel
theorem dX9_found_14 : decode cX9_found 14 = .ok (.iastore, 1) := by decide +kernel
theorem dX9_found_15 : decode cX9_found 15 = .ok (.bipush (-3), 2) := by decide +kernel
theorem dX9_found_17 : decode cX9_found 17 = .ok (.ireturn, 1) := by decide +kernel
def c_X9_found (F : Nat) (a0 : Nat) (x1 : Int32) (h0 : z_Hp) : Option (Int32 × z_Hp) := (if hT h0 a0 = 9 then (lt_ (sI h0 a0 12 x1) (fun h2 => (if hT h2 a0 = 9 then (lt_ (hR h2 a0 13) (fun o3 => (nn o3 (fun a4 => (if okA h2 a4 20 x1 = true then (if okA h2 a4 20 x1 = true then (lt_ (sI h2 a4 (ix x1) ((hI h2 a4 (ix x1)) + 1)) (fun h5 => (some ((-3), h5)))) else none) else none))))) else none))) else none)
set_option maxRecDepth 20000 in
set_option maxHeartbeats 4000000 in
theorem t_X9_found (F : Nat) (a0 : Nat) (x1 : Int32) (h0 : z_Hp) : z_Ct zi mi_X9_found [vr (some a0), vi x1] h0 (c_X9_found F a0 x1 h0) := by
  refine z_entry (by decide) (Nat.le_of_ble_eq_true rfl) [(0, vr (some a0)), (1, vi x1)] rfl ?_
  unfold c_X9_found
  refine z_aload_n (pc := 0) dX9_found_0 rfl 0 rfl (z_iload_n (pc := 1) dX9_found_1 rfl 1 rfl (z_putIl (pc := 2) fl_RX9_411 (fin_X_9_12 _) rfl dX9_found_2 (fun h2 => (z_aload_n (pc := 5) dX9_found_5 rfl 0 rfl (z_getRl (pc := 6) fl_RX9_79 rfl dX9_found_6 (fun o3 => (z_iload_n (pc := 9) dX9_found_9 rfl 1 rfl (z_dup2 (pc := 10) dX9_found_10 rfl rfl (?_)))))))))
  refine z_nn (fun a4 ea4 => ?_)
  subst ea4
  refine z_iaload (pc := 11) dX9_found_11 (z_iconst (pc := 12) dX9_found_12 ic_1 (z_iadd (pc := 13) dX9_found_13 (z_iastorel (pc := 14) dX9_found_14 (fun h5 => (z_bipush (pc := 15) dX9_found_15 bp_m3 (?_))))))
  exact z_iret (pc := 17) dX9_found_17 rfl rfl
theorem dX9_row_0 : decode cX9_row 0 = .ok (.iload_n 1, 1) := by decide +kernel
theorem dX9_row_1 : decode cX9_row 1 = .ok (.invokestatic 86, 3) := by decide +kernel
theorem dX9_row_4 : decode cX9_row 4 = .ok (.ifCond .eq 9, 3) := by decide +kernel
theorem dX9_row_7 : decode cX9_row 7 = .ok (.iload_n 2, 1) := by decide +kernel
theorem dX9_row_8 : decode cX9_row 8 = .ok (.bipush 40, 2) := by decide +kernel
theorem dX9_row_10 : decode cX9_row 10 = .ok (.if_icmp .le 5, 3) := by decide +kernel
theorem dX9_row_13 : decode cX9_row 13 = .ok (.iconst (-1), 1) := by decide +kernel
theorem dX9_row_14 : decode cX9_row 14 = .ok (.ireturn, 1) := by decide +kernel
theorem dX9_row_15 : decode cX9_row 15 = .ok (.iload_n 2, 1) := by decide +kernel
theorem dX9_row_16 : decode cX9_row 16 = .ok (.ifCond .ge 9, 3) := by decide +kernel
theorem dX9_row_19 : decode cX9_row 19 = .ok (.aload_n 0, 1) := by decide +kernel
theorem dX9_row_20 : decode cX9_row 20 = .ok (.iconst 5, 1) := by decide +kernel
theorem dX9_row_21 : decode cX9_row 21 = .ok (.invokevirtual 90, 3) := by decide +kernel
theorem dX9_row_24 : decode cX9_row 24 = .ok (.ireturn, 1) := by decide +kernel
theorem dX9_row_25 : decode cX9_row 25 = .ok (.aload_n 0, 1) := by decide +kernel
theorem dX9_row_26 : decode cX9_row 26 = .ok (.getfield 11, 3) := by decide +kernel
theorem dX9_row_29 : decode cX9_row 29 = .ok (.iload_n 1, 1) := by decide +kernel
theorem dX9_row_30 : decode cX9_row 30 = .ok (.iload_n 2, 1) := by decide +kernel
theorem dX9_row_31 : decode cX9_row 31 = .ok (.newarray .int, 2) := by decide +kernel
theorem dX9_row_33 : decode cX9_row 33 = .ok (.aastore, 1) := by decide +kernel
theorem dX9_row_34 : decode cX9_row 34 = .ok (.iload_n 2, 1) := by decide +kernel
theorem dX9_row_35 : decode cX9_row 35 = .ok (.ireturn, 1) := by decide +kernel
def c_X9_row (F : Nat) (a0 : Nat) (x1 : Int32) (x2 : Int32) (h0 : z_Hp) : Option (Int32 × z_Hp) := (bI (c_X9_isRow F x1 h0) (fun x4 h3 => (if x4 = 0 then (some ((-1), h3)) else (if x2 ≤ 40 then (if 0 ≤ x2 then (if hT h3 a0 = 9 then (lt_ (hR h3 a0 0) (fun o5 => (if inb x2 100000 = true then (nwo h3 20 (ix x2) (fun a6 h7 => (nn o5 (fun a8 => (if okA h7 a8 23 x1 = true ∧ okS h7 23 (some a6) = true then (lt_ (sR h7 a8 (ix x1) (some a6)) (fun h9 => (some (x2, h9)))) else none))))) else none))) else none) else (if hT h3 a0 = 9 then (bI (c_X9_found F a0 5 h3) (fun x11 h10 => (some (x11, h10)))) else none)) else (some ((-1), h3))))))
set_option maxRecDepth 20000 in
set_option maxHeartbeats 4000000 in
theorem t_X9_row (F : Nat) (a0 : Nat) (x1 : Int32) (x2 : Int32) (h0 : z_Hp) : z_Ct zi mi_X9_row [vr (some a0), vi x1, vi x2] h0 (c_X9_row F a0 x1 x2 h0) := by
  refine z_entry (by decide) (Nat.le_of_ble_eq_true rfl) [(0, vr (some a0)), (1, vi x1), (2, vi x2)] rfl ?_
  unfold c_X9_row
  refine z_iload_n (pc := 0) dX9_row_0 rfl 1 rfl (z_callS_I (pc := 1) (avs := [vi x1]) (st := []) rfl (t_X9_isRow F x1 h0) ky_X9_isRow ws_X9_isRow wz_RX9_86 (rm_X9_row_X9_isRow) (Nat.le_of_ble_eq_true rfl) dX9_row_1 (fun x4 h3 => (?_)))
  refine z_if_eq (pc := 4) (tgt := 13) dX9_row_4 (by decide) ?_ ?_
  · refine z_iconst (pc := 13) dX9_row_13 ic_m1 (?_)
    exact z_iret (pc := 14) dX9_row_14 rfl rfl
  · refine z_iload_n (pc := 7) dX9_row_7 rfl 2 rfl (z_bipush (pc := 8) dX9_row_8 bp_40 (?_))
    refine z_icmp_le (pc := 10) (tgt := 15) dX9_row_10 (by decide) ?_ ?_
    · refine z_iload_n (pc := 15) dX9_row_15 rfl 2 rfl (?_)
      refine z_if_ge (pc := 16) (tgt := 25) dX9_row_16 (by decide) ?_ ?_
      · refine z_aload_n (pc := 25) dX9_row_25 rfl 0 rfl (z_getRl (pc := 26) fl_RX9_11 rfl dX9_row_26 (fun o5 => (z_iload_n (pc := 29) dX9_row_29 rfl 1 rfl (z_iload_n (pc := 30) dX9_row_30 rfl 2 rfl (z_newarrl (pc := 31) 20 (by decide) rfl wa_20 dX9_row_31 (fun a6 h7 => (?_)))))))
        refine z_nn (fun a8 ea8 => ?_)
        subst ea8
        refine z_aastorel (pc := 33) 23 (by decide) dX9_row_33 (fun h9 => (z_iload_n (pc := 34) dX9_row_34 rfl 2 rfl (?_)))
        exact z_iret (pc := 35) dX9_row_35 rfl rfl
      · refine z_aload_n (pc := 19) dX9_row_19 rfl 0 rfl (z_iconst (pc := 20) dX9_row_20 ic_5 (z_callV_I (pc := 21) (avs := [vi 5]) (st := []) rfl (q := (RX9, TX9, 18)) rfl rfl (t_X9_found F a0 5 h3) ky_X9_found wm_X9_found we_X9_found wz_RX9_90 (rm_X9_row_X9_found) (Nat.le_of_ble_eq_true rfl) dX9_row_21 (fun x11 h10 => (?_))))
        exact z_iret (pc := 24) dX9_row_24 rfl rfl
    · refine z_iconst (pc := 13) dX9_row_13 ic_m1 (?_)
      exact z_iret (pc := 14) dX9_row_14 rfl rfl
theorem dX9_lay_0 : decode cX9_lay 0 = .ok (.iload_n 1, 1) := by decide +kernel
theorem dX9_lay_1 : decode cX9_lay 1 = .ok (.invokestatic 86, 3) := by decide +kernel
theorem dX9_lay_4 : decode cX9_lay 4 = .ok (.ifCond .ne 5, 3) := by decide +kernel
theorem dX9_lay_7 : decode cX9_lay 7 = .ok (.iconst (-1), 1) := by decide +kernel
theorem dX9_lay_8 : decode cX9_lay 8 = .ok (.ireturn, 1) := by decide +kernel
theorem dX9_lay_9 : decode cX9_lay 9 = .ok (.aload_n 0, 1) := by decide +kernel
theorem dX9_lay_10 : decode cX9_lay 10 = .ok (.getfield 11, 3) := by decide +kernel
theorem dX9_lay_13 : decode cX9_lay 13 = .ok (.iload_n 1, 1) := by decide +kernel
theorem dX9_lay_14 : decode cX9_lay 14 = .ok (.aaload, 1) := by decide +kernel
theorem dX9_lay_15 : decode cX9_lay 15 = .ok (.astore 4, 2) := by decide +kernel
theorem dX9_lay_17 : decode cX9_lay 17 = .ok (.aload 4, 2) := by decide +kernel
theorem dX9_lay_19 : decode cX9_lay 19 = .ok (.ifnonnull 9, 3) := by decide +kernel
theorem dX9_lay_22 : decode cX9_lay 22 = .ok (.aload_n 0, 1) := by decide +kernel
theorem dX9_lay_23 : decode cX9_lay 23 = .ok (.iconst 1, 1) := by decide +kernel
theorem dX9_lay_24 : decode cX9_lay 24 = .ok (.invokevirtual 90, 3) := by decide +kernel
theorem dX9_lay_27 : decode cX9_lay 27 = .ok (.ireturn, 1) := by decide +kernel
theorem dX9_lay_28 : decode cX9_lay 28 = .ok (.iload_n 2, 1) := by decide +kernel
theorem dX9_lay_29 : decode cX9_lay 29 = .ok (.ifCond .lt 10, 3) := by decide +kernel
theorem dX9_lay_32 : decode cX9_lay 32 = .ok (.iload_n 2, 1) := by decide +kernel
theorem dX9_lay_33 : decode cX9_lay 33 = .ok (.aload 4, 2) := by decide +kernel
theorem dX9_lay_35 : decode cX9_lay 35 = .ok (.arraylength, 1) := by decide +kernel
theorem dX9_lay_36 : decode cX9_lay 36 = .ok (.if_icmp .lt 9, 3) := by decide +kernel
theorem dX9_lay_39 : decode cX9_lay 39 = .ok (.aload_n 0, 1) := by decide +kernel
theorem dX9_lay_40 : decode cX9_lay 40 = .ok (.iconst 2, 1) := by decide +kernel
theorem dX9_lay_41 : decode cX9_lay 41 = .ok (.invokevirtual 90, 3) := by decide +kernel
theorem dX9_lay_44 : decode cX9_lay 44 = .ok (.ireturn, 1) := by decide +kernel
theorem dX9_lay_45 : decode cX9_lay 45 = .ok (.aload_n 0, 1) := by decide +kernel
theorem dX9_lay_46 : decode cX9_lay 46 = .ok (.aload 4, 2) := by decide +kernel
theorem dX9_lay_48 : decode cX9_lay 48 = .ok (.iload_n 2, 1) := by decide +kernel
theorem dX9_lay_49 : decode cX9_lay 49 = .ok (.iaload, 1) := by decide +kernel
theorem dX9_lay_50 : decode cX9_lay 50 = .ok (.putfield 94, 3) := by decide +kernel
theorem dX9_lay_53 : decode cX9_lay 53 = .ok (.aload 4, 2) := by decide +kernel
theorem dX9_lay_55 : decode cX9_lay 55 = .ok (.iload_n 2, 1) := by decide +kernel
theorem dX9_lay_56 : decode cX9_lay 56 = .ok (.iload_n 3, 1) := by decide +kernel
theorem dX9_lay_57 : decode cX9_lay 57 = .ok (.iastore, 1) := by decide +kernel
theorem dX9_lay_58 : decode cX9_lay 58 = .ok (.iconst 1, 1) := by decide +kernel
theorem dX9_lay_59 : decode cX9_lay 59 = .ok (.ireturn, 1) := by decide +kernel
def c_X9_lay (F : Nat) (a0 : Nat) (x1 : Int32) (x2 : Int32) (x3 : Int32) (h0 : z_Hp) : Option (Int32 × z_Hp) := (bI (c_X9_isRow F x1 h0) (fun x5 h4 => (if x5 = 0 then (some ((-1), h4)) else (if hT h4 a0 = 9 then (lt_ (hR h4 a0 0) (fun o6 => (nn o6 (fun a7 => (if okA h4 a7 23 x1 = true then (lt_ (hR h4 a7 (ix x1)) (fun o8 => (nl o8 (if hT h4 a0 = 9 then (bI (c_X9_found F a0 1 h4) (fun x11 h10 => (some (x11, h10)))) else none) (fun a9 => (lt_ (fun (h13 : z_Hp) => (if hT h13 a0 = 9 then (bI (c_X9_found F a0 2 h13) (fun x15 h14 => (some (x15, h14)))) else none)) (fun (j39_12 : z_Hp → Option (Int32 × z_Hp)) => (if x2 < 0 then (j39_12 h4) else (if okL h4 a9 = true then (if x2 < (nI (hN h4 a9)) then (if okA h4 a9 20 x2 = true then (if hT h4 a0 = 9 then (lt_ (sI h4 a0 15 (hI h4 a9 (ix x2))) (fun h16 => (if okA h16 a9 20 x2 = true then (lt_ (sI h16 a9 (ix x2) x3) (fun h17 => (some (1, h17)))) else none))) else none) else none) else (j39_12 h4)) else none)))))))) else none))))) else none))))
set_option maxRecDepth 20000 in
set_option maxHeartbeats 4000000 in
theorem t_X9_lay (F : Nat) (a0 : Nat) (x1 : Int32) (x2 : Int32) (x3 : Int32) (h0 : z_Hp) : z_Ct zi mi_X9_lay [vr (some a0), vi x1, vi x2, vi x3] h0 (c_X9_lay F a0 x1 x2 x3 h0) := by
  refine z_entry (by decide) (Nat.le_of_ble_eq_true rfl) [(0, vr (some a0)), (1, vi x1), (2, vi x2), (3, vi x3)] rfl ?_
  unfold c_X9_lay
  refine z_iload_n (pc := 0) dX9_lay_0 rfl 1 rfl (z_callS_I (pc := 1) (avs := [vi x1]) (st := []) rfl (t_X9_isRow F x1 h0) ky_X9_isRow ws_X9_isRow wz_RX9_86 (rm_X9_lay_X9_isRow) (Nat.le_of_ble_eq_true rfl) dX9_lay_1 (fun x5 h4 => (?_)))
  refine z_if_ne (pc := 4) (tgt := 9) dX9_lay_4 (by decide) ?_ ?_
  · refine z_aload_n (pc := 9) dX9_lay_9 rfl 0 rfl (z_getRl (pc := 10) fl_RX9_11 rfl dX9_lay_10 (fun o6 => (z_iload_n (pc := 13) dX9_lay_13 rfl 1 rfl (?_))))
    refine z_nn (fun a7 ea7 => ?_)
    subst ea7
    refine z_aaloadl (pc := 14) 23 (by decide) dX9_lay_14 (fun o8 => (z_astore (pc := 15) (L' := [(0, vr (some a0)), (1, vi x1), (2, vi x2), (3, vi x3), (4, vr o8)]) dX9_lay_15 (Nat.le_of_ble_eq_true rfl) rfl (z_aload (pc := 17) dX9_lay_17 4 rfl (?_))))
    refine z_ifnonnull (pc := 19) (tgt := 28) dX9_lay_19 (by decide) (fun ea9 => ?_) (fun a9 ea9 => ?_)
    · subst ea9
      refine z_aload_n (pc := 22) dX9_lay_22 rfl 0 rfl (z_iconst (pc := 23) dX9_lay_23 ic_1 (z_callV_I (pc := 24) (avs := [vi 1]) (st := []) rfl (q := (RX9, TX9, 18)) rfl rfl (t_X9_found F a0 1 h4) ky_X9_found wm_X9_found we_X9_found wz_RX9_90 (rm_X9_lay_X9_found) (Nat.le_of_ble_eq_true rfl) dX9_lay_24 (fun x11 h10 => (?_))))
      exact z_iret (pc := 27) dX9_lay_27 rfl rfl
    · subst ea9
      refine z_iload_n (pc := 28) dX9_lay_28 rfl 2 rfl (?_)
      refine z_jn (P := fun (j : z_Hp → Option (Int32 × z_Hp)) => ∀ (h13 : z_Hp), z_G zi mi_X9_lay 39 [(0, vr (some a0))] [] h13 (j h13)) (fun h13 => ?_) (fun j39_12 qj39_12 => ?_)
      · refine z_aload_n (pc := 39) dX9_lay_39 rfl 0 rfl (z_iconst (pc := 40) dX9_lay_40 ic_2 (z_callV_I (pc := 41) (avs := [vi 2]) (st := []) rfl (q := (RX9, TX9, 18)) rfl rfl (t_X9_found F a0 2 h13) ky_X9_found wm_X9_found we_X9_found wz_RX9_90 (rm_X9_lay_X9_found) (Nat.le_of_ble_eq_true rfl) dX9_lay_41 (fun x15 h14 => (?_))))
        exact z_iret (pc := 44) dX9_lay_44 rfl rfl
      refine z_if_lt (pc := 29) (tgt := 39) dX9_lay_29 (by decide) ?_ ?_
      · exact z_sub [0] rfl (qj39_12 h4)
      · refine z_iload_n (pc := 32) dX9_lay_32 rfl 2 rfl (z_aload (pc := 33) dX9_lay_33 4 rfl (z_alen (pc := 35) dX9_lay_35 (?_)))
        refine z_icmp_lt (pc := 36) (tgt := 45) dX9_lay_36 (by decide) ?_ ?_
        · refine z_aload_n (pc := 45) dX9_lay_45 rfl 0 rfl (z_aload (pc := 46) dX9_lay_46 4 rfl (z_iload_n (pc := 48) dX9_lay_48 rfl 2 rfl (z_iaload (pc := 49) dX9_lay_49 (z_putIl (pc := 50) fl_RX9_94 (fin_X_9_15 _) rfl dX9_lay_50 (fun h16 => (z_aload (pc := 53) dX9_lay_53 4 rfl (z_iload_n (pc := 55) dX9_lay_55 rfl 2 rfl (z_iload_n (pc := 56) dX9_lay_56 rfl 3 rfl (?_)))))))))
          refine z_iastorel (pc := 57) dX9_lay_57 (fun h17 => (z_iconst (pc := 58) dX9_lay_58 ic_1 (?_)))
          exact z_iret (pc := 59) dX9_lay_59 rfl rfl
        · exact z_sub [0] rfl (qj39_12 h4)
  · refine z_iconst (pc := 7) dX9_lay_7 ic_m1 (?_)
    exact z_iret (pc := 8) dX9_lay_8 rfl rfl
theorem dX9_tear_0 : decode cX9_tear 0 = .ok (.iload_n 1, 1) := by decide +kernel
theorem dX9_tear_1 : decode cX9_tear 1 = .ok (.invokestatic 86, 3) := by decide +kernel
theorem dX9_tear_4 : decode cX9_tear 4 = .ok (.ifCond .ne 5, 3) := by decide +kernel
theorem dX9_tear_7 : decode cX9_tear 7 = .ok (.iconst (-1), 1) := by decide +kernel
theorem dX9_tear_8 : decode cX9_tear 8 = .ok (.ireturn, 1) := by decide +kernel
theorem dX9_tear_9 : decode cX9_tear 9 = .ok (.aload_n 0, 1) := by decide +kernel
theorem dX9_tear_10 : decode cX9_tear 10 = .ok (.getfield 11, 3) := by decide +kernel
theorem dX9_tear_13 : decode cX9_tear 13 = .ok (.iload_n 1, 1) := by decide +kernel
theorem dX9_tear_14 : decode cX9_tear 14 = .ok (.aaload, 1) := by decide +kernel
theorem dX9_tear_15 : decode cX9_tear 15 = .ok (.ifnonnull 9, 3) := by decide +kernel
theorem dX9_tear_18 : decode cX9_tear 18 = .ok (.aload_n 0, 1) := by decide +kernel
theorem dX9_tear_19 : decode cX9_tear 19 = .ok (.iconst 1, 1) := by decide +kernel
theorem dX9_tear_20 : decode cX9_tear 20 = .ok (.invokevirtual 90, 3) := by decide +kernel
theorem dX9_tear_23 : decode cX9_tear 23 = .ok (.ireturn, 1) := by decide +kernel
theorem dX9_tear_24 : decode cX9_tear 24 = .ok (.aload_n 0, 1) := by decide +kernel
theorem dX9_tear_25 : decode cX9_tear 25 = .ok (.getfield 11, 3) := by decide +kernel
theorem dX9_tear_28 : decode cX9_tear 28 = .ok (.iload_n 1, 1) := by decide +kernel
theorem dX9_tear_29 : decode cX9_tear 29 = .ok (.aconst_null, 1) := by decide +kernel
theorem dX9_tear_30 : decode cX9_tear 30 = .ok (.aastore, 1) := by decide +kernel
theorem dX9_tear_31 : decode cX9_tear 31 = .ok (.iconst 1, 1) := by decide +kernel
theorem dX9_tear_32 : decode cX9_tear 32 = .ok (.ireturn, 1) := by decide +kernel
def c_X9_tear (F : Nat) (a0 : Nat) (x1 : Int32) (h0 : z_Hp) : Option (Int32 × z_Hp) := (bI (c_X9_isRow F x1 h0) (fun x3 h2 => (if x3 = 0 then (some ((-1), h2)) else (if hT h2 a0 = 9 then (lt_ (hR h2 a0 0) (fun o4 => (nn o4 (fun a5 => (if okA h2 a5 23 x1 = true then (lt_ (hR h2 a5 (ix x1)) (fun o6 => (nl o6 (if hT h2 a0 = 9 then (bI (c_X9_found F a0 1 h2) (fun x9 h8 => (some (x9, h8)))) else none) (fun a7 => (if hT h2 a0 = 9 then (lt_ (hR h2 a0 0) (fun o10 => (nn o10 (fun a11 => (if okA h2 a11 23 x1 = true ∧ okS h2 23 none = true then (lt_ (sR h2 a11 (ix x1) none) (fun h12 => (some (1, h12)))) else none))))) else none))))) else none))))) else none))))
set_option maxRecDepth 20000 in
set_option maxHeartbeats 4000000 in
theorem t_X9_tear (F : Nat) (a0 : Nat) (x1 : Int32) (h0 : z_Hp) : z_Ct zi mi_X9_tear [vr (some a0), vi x1] h0 (c_X9_tear F a0 x1 h0) := by
  refine z_entry (by decide) (Nat.le_of_ble_eq_true rfl) [(0, vr (some a0)), (1, vi x1)] rfl ?_
  unfold c_X9_tear
  refine z_iload_n (pc := 0) dX9_tear_0 rfl 1 rfl (z_callS_I (pc := 1) (avs := [vi x1]) (st := []) rfl (t_X9_isRow F x1 h0) ky_X9_isRow ws_X9_isRow wz_RX9_86 (rm_X9_tear_X9_isRow) (Nat.le_of_ble_eq_true rfl) dX9_tear_1 (fun x3 h2 => (?_)))
  refine z_if_ne (pc := 4) (tgt := 9) dX9_tear_4 (by decide) ?_ ?_
  · refine z_aload_n (pc := 9) dX9_tear_9 rfl 0 rfl (z_getRl (pc := 10) fl_RX9_11 rfl dX9_tear_10 (fun o4 => (z_iload_n (pc := 13) dX9_tear_13 rfl 1 rfl (?_))))
    refine z_nn (fun a5 ea5 => ?_)
    subst ea5
    refine z_aaloadl (pc := 14) 23 (by decide) dX9_tear_14 (fun o6 => (?_))
    refine z_ifnonnull (pc := 15) (tgt := 24) dX9_tear_15 (by decide) (fun ea7 => ?_) (fun a7 ea7 => ?_)
    · subst ea7
      refine z_aload_n (pc := 18) dX9_tear_18 rfl 0 rfl (z_iconst (pc := 19) dX9_tear_19 ic_1 (z_callV_I (pc := 20) (avs := [vi 1]) (st := []) rfl (q := (RX9, TX9, 18)) rfl rfl (t_X9_found F a0 1 h2) ky_X9_found wm_X9_found we_X9_found wz_RX9_90 (rm_X9_tear_X9_found) (Nat.le_of_ble_eq_true rfl) dX9_tear_20 (fun x9 h8 => (?_))))
      exact z_iret (pc := 23) dX9_tear_23 rfl rfl
    · subst ea7
      refine z_aload_n (pc := 24) dX9_tear_24 rfl 0 rfl (z_getRl (pc := 25) fl_RX9_11 rfl dX9_tear_25 (fun o10 => (z_iload_n (pc := 28) dX9_tear_28 rfl 1 rfl (z_null (pc := 29) dX9_tear_29 (?_)))))
      refine z_nn (fun a11 ea11 => ?_)
      subst ea11
      refine z_aastorel (pc := 30) 23 (by decide) dX9_tear_30 (fun h12 => (z_iconst (pc := 31) dX9_tear_31 ic_1 (?_)))
      exact z_iret (pc := 32) dX9_tear_32 rfl rfl
  · refine z_iconst (pc := 7) dX9_tear_7 ic_m1 (?_)
    exact z_iret (pc := 8) dX9_tear_8 rfl rfl
theorem dX9_hasPlaces_0 : decode cX9_hasPlaces 0 = .ok (.iload_n 1, 1) := by decide +kernel
theorem dX9_hasPlaces_1 : decode cX9_hasPlaces 1 = .ok (.ifCond .lt 21, 3) := by decide +kernel
theorem dX9_hasPlaces_4 : decode cX9_hasPlaces 4 = .ok (.iload_n 2, 1) := by decide +kernel
theorem dX9_hasPlaces_5 : decode cX9_hasPlaces 5 = .ok (.aload_n 0, 1) := by decide +kernel
theorem dX9_hasPlaces_6 : decode cX9_hasPlaces 6 = .ok (.arraylength, 1) := by decide +kernel
theorem dX9_hasPlaces_7 : decode cX9_hasPlaces 7 = .ok (.if_icmp .gt 15, 3) := by decide +kernel
theorem dX9_hasPlaces_10 : decode cX9_hasPlaces 10 = .ok (.iload_n 1, 1) := by decide +kernel
theorem dX9_hasPlaces_11 : decode cX9_hasPlaces 11 = .ok (.aload_n 0, 1) := by decide +kernel
theorem dX9_hasPlaces_12 : decode cX9_hasPlaces 12 = .ok (.arraylength, 1) := by decide +kernel
theorem dX9_hasPlaces_13 : decode cX9_hasPlaces 13 = .ok (.iload_n 2, 1) := by decide +kernel
theorem dX9_hasPlaces_14 : decode cX9_hasPlaces 14 = .ok (.isub, 1) := by decide +kernel
theorem dX9_hasPlaces_15 : decode cX9_hasPlaces 15 = .ok (.if_icmp .gt 7, 3) := by decide +kernel
theorem dX9_hasPlaces_18 : decode cX9_hasPlaces 18 = .ok (.iconst 1, 1) := by decide +kernel
theorem dX9_hasPlaces_19 : decode cX9_hasPlaces 19 = .ok (.goto 4, 3) := by decide +kernel
theorem dX9_hasPlaces_22 : decode cX9_hasPlaces 22 = .ok (.iconst 0, 1) := by decide +kernel
theorem dX9_hasPlaces_23 : decode cX9_hasPlaces 23 = .ok (.ireturn, 1) := by decide +kernel
def c_X9_hasPlaces (F : Nat) (o1 : Option Nat) (x2 : Int32) (x3 : Int32) (h0 : z_Hp) : Option (Int32 × z_Hp) := (if x2 < 0 then (some (0, h0)) else (nn o1 (fun a4 => (if okL h0 a4 = true then (if (nI (hN h0 a4)) < x3 then (some (0, h0)) else (if okL h0 a4 = true then (if ((nI (hN h0 a4)) - x3) < x2 then (some (0, h0)) else (some (1, h0))) else none)) else none))))
set_option maxRecDepth 20000 in
set_option maxHeartbeats 4000000 in
theorem t_X9_hasPlaces (F : Nat) (o1 : Option Nat) (x2 : Int32) (x3 : Int32) (h0 : z_Hp) : z_Ct zi mi_X9_hasPlaces [vr o1, vi x2, vi x3] h0 (c_X9_hasPlaces F o1 x2 x3 h0) := by
  refine z_entry (by decide) (Nat.le_of_ble_eq_true rfl) [(0, vr o1), (1, vi x2), (2, vi x3)] rfl ?_
  unfold c_X9_hasPlaces
  refine z_iload_n (pc := 0) dX9_hasPlaces_0 rfl 1 rfl (?_)
  refine z_if_lt (pc := 1) (tgt := 22) dX9_hasPlaces_1 (by decide) ?_ ?_
  · refine z_iconst (pc := 22) dX9_hasPlaces_22 ic_0 (?_)
    exact z_iret (pc := 23) dX9_hasPlaces_23 rfl rfl
  · refine z_iload_n (pc := 4) dX9_hasPlaces_4 rfl 2 rfl (z_aload_n (pc := 5) dX9_hasPlaces_5 rfl 0 rfl (?_))
    refine z_nn (fun a4 ea4 => ?_)
    subst ea4
    refine z_alen (pc := 6) dX9_hasPlaces_6 (?_)
    refine z_icmp_gt (pc := 7) (tgt := 22) dX9_hasPlaces_7 (by decide) ?_ ?_
    · refine z_iconst (pc := 22) dX9_hasPlaces_22 ic_0 (?_)
      exact z_iret (pc := 23) dX9_hasPlaces_23 rfl rfl
    · refine z_iload_n (pc := 10) dX9_hasPlaces_10 rfl 1 rfl (z_aload_n (pc := 11) dX9_hasPlaces_11 rfl 0 rfl (z_alen (pc := 12) dX9_hasPlaces_12 (z_iload_n (pc := 13) dX9_hasPlaces_13 rfl 2 rfl (z_isub (pc := 14) dX9_hasPlaces_14 (?_)))))
      refine z_icmp_gt (pc := 15) (tgt := 22) dX9_hasPlaces_15 (by decide) ?_ ?_
      · refine z_iconst (pc := 22) dX9_hasPlaces_22 ic_0 (?_)
        exact z_iret (pc := 23) dX9_hasPlaces_23 rfl rfl
      · refine z_iconst (pc := 18) dX9_hasPlaces_18 ic_1 (z_goto (pc := 19) (tgt := 23) dX9_hasPlaces_19 (by decide) (?_))
        exact z_iret (pc := 23) dX9_hasPlaces_23 rfl rfl
theorem dX9_copy_0 : decode cX9_copy 0 = .ok (.iload_n 1, 1) := by decide +kernel
theorem dX9_copy_1 : decode cX9_copy 1 = .ok (.invokestatic 86, 3) := by decide +kernel
theorem dX9_copy_4 : decode cX9_copy 4 = .ok (.ifCond .eq 10, 3) := by decide +kernel
theorem dX9_copy_7 : decode cX9_copy 7 = .ok (.iload_n 3, 1) := by decide +kernel
theorem dX9_copy_8 : decode cX9_copy 8 = .ok (.invokestatic 86, 3) := by decide +kernel
theorem dX9_copy_11 : decode cX9_copy 11 = .ok (.ifCond .ne 5, 3) := by decide +kernel
theorem dX9_copy_14 : decode cX9_copy 14 = .ok (.iconst (-1), 1) := by decide +kernel
theorem dX9_copy_15 : decode cX9_copy 15 = .ok (.ireturn, 1) := by decide +kernel
theorem dX9_copy_16 : decode cX9_copy 16 = .ok (.iload 5, 2) := by decide +kernel
theorem dX9_copy_18 : decode cX9_copy 18 = .ok (.ifCond .ge 9, 3) := by decide +kernel
theorem dX9_copy_21 : decode cX9_copy 21 = .ok (.aload_n 0, 1) := by decide +kernel
theorem dX9_copy_22 : decode cX9_copy 22 = .ok (.iconst 5, 1) := by decide +kernel
theorem dX9_copy_23 : decode cX9_copy 23 = .ok (.invokevirtual 90, 3) := by decide +kernel
theorem dX9_copy_26 : decode cX9_copy 26 = .ok (.ireturn, 1) := by decide +kernel
theorem dX9_copy_27 : decode cX9_copy 27 = .ok (.aload_n 0, 1) := by decide +kernel
theorem dX9_copy_28 : decode cX9_copy 28 = .ok (.getfield 11, 3) := by decide +kernel
theorem dX9_copy_31 : decode cX9_copy 31 = .ok (.iload_n 1, 1) := by decide +kernel
theorem dX9_copy_32 : decode cX9_copy 32 = .ok (.aaload, 1) := by decide +kernel
theorem dX9_copy_33 : decode cX9_copy 33 = .ok (.astore 6, 2) := by decide +kernel
theorem dX9_copy_35 : decode cX9_copy 35 = .ok (.aload_n 0, 1) := by decide +kernel
theorem dX9_copy_36 : decode cX9_copy 36 = .ok (.getfield 11, 3) := by decide +kernel
theorem dX9_copy_39 : decode cX9_copy 39 = .ok (.iload_n 3, 1) := by decide +kernel
theorem dX9_copy_40 : decode cX9_copy 40 = .ok (.aaload, 1) := by decide +kernel
theorem dX9_copy_41 : decode cX9_copy 41 = .ok (.astore 7, 2) := by decide +kernel
theorem dX9_copy_43 : decode cX9_copy 43 = .ok (.aload 6, 2) := by decide +kernel
theorem dX9_copy_45 : decode cX9_copy 45 = .ok (.ifnull 8, 3) := by decide +kernel
theorem dX9_copy_48 : decode cX9_copy 48 = .ok (.aload 7, 2) := by decide +kernel
theorem dX9_copy_50 : decode cX9_copy 50 = .ok (.ifnonnull 9, 3) := by decide +kernel
theorem dX9_copy_53 : decode cX9_copy 53 = .ok (.aload_n 0, 1) := by decide +kernel
theorem dX9_copy_54 : decode cX9_copy 54 = .ok (.iconst 1, 1) := by decide +kernel
theorem dX9_copy_55 : decode cX9_copy 55 = .ok (.invokevirtual 90, 3) := by decide +kernel
theorem dX9_copy_58 : decode cX9_copy 58 = .ok (.ireturn, 1) := by decide +kernel
theorem dX9_copy_59 : decode cX9_copy 59 = .ok (.aload 6, 2) := by decide +kernel
theorem dX9_copy_61 : decode cX9_copy 61 = .ok (.iload_n 2, 1) := by decide +kernel
theorem dX9_copy_62 : decode cX9_copy 62 = .ok (.iload 5, 2) := by decide +kernel
theorem dX9_copy_64 : decode cX9_copy 64 = .ok (.invokestatic 98, 3) := by decide +kernel
theorem dX9_copy_67 : decode cX9_copy 67 = .ok (.ifCond .eq 15, 3) := by decide +kernel
theorem dX9_copy_70 : decode cX9_copy 70 = .ok (.aload 7, 2) := by decide +kernel
theorem dX9_copy_72 : decode cX9_copy 72 = .ok (.iload 4, 2) := by decide +kernel
theorem dX9_copy_74 : decode cX9_copy 74 = .ok (.iload 5, 2) := by decide +kernel
theorem dX9_copy_76 : decode cX9_copy 76 = .ok (.invokestatic 98, 3) := by decide +kernel
theorem dX9_copy_79 : decode cX9_copy 79 = .ok (.ifCond .ne 9, 3) := by decide +kernel
theorem dX9_copy_82 : decode cX9_copy 82 = .ok (.aload_n 0, 1) := by decide +kernel
theorem dX9_copy_83 : decode cX9_copy 83 = .ok (.iconst 2, 1) := by decide +kernel
theorem dX9_copy_84 : decode cX9_copy 84 = .ok (.invokevirtual 90, 3) := by decide +kernel
theorem dX9_copy_87 : decode cX9_copy 87 = .ok (.ireturn, 1) := by decide +kernel
theorem dX9_copy_88 : decode cX9_copy 88 = .ok (.aload 6, 2) := by decide +kernel
theorem dX9_copy_90 : decode cX9_copy 90 = .ok (.iload_n 2, 1) := by decide +kernel
theorem dX9_copy_91 : decode cX9_copy 91 = .ok (.aload 7, 2) := by decide +kernel
theorem dX9_copy_93 : decode cX9_copy 93 = .ok (.iload 4, 2) := by decide +kernel
theorem dX9_copy_95 : decode cX9_copy 95 = .ok (.iload 5, 2) := by decide +kernel
theorem dX9_copy_97 : decode cX9_copy 97 = .ok (.invokestatic 102, 3) := by decide +kernel
theorem dX9_copy_100 : decode cX9_copy 100 = .ok (.iconst 1, 1) := by decide +kernel
theorem dX9_copy_101 : decode cX9_copy 101 = .ok (.ireturn, 1) := by decide +kernel
def c_X9_copy (F : Nat) (a0 : Nat) (x1 : Int32) (x2 : Int32) (x3 : Int32) (x4 : Int32) (x5 : Int32) (h0 : z_Hp) : Option (Int32 × z_Hp) := (bI (c_X9_isRow F x1 h0) (fun x7 h6 => (if x7 = 0 then (some ((-1), h6)) else (bI (c_X9_isRow F x3 h6) (fun x9 h8 => (if x9 = 0 then (some ((-1), h8)) else (if 0 ≤ x5 then (if hT h8 a0 = 9 then (lt_ (hR h8 a0 0) (fun o10 => (nn o10 (fun a11 => (if okA h8 a11 23 x1 = true then (lt_ (hR h8 a11 (ix x1)) (fun o12 => (if hT h8 a0 = 9 then (lt_ (hR h8 a0 0) (fun o13 => (nn o13 (fun a14 => (if okA h8 a14 23 x3 = true then (lt_ (hR h8 a14 (ix x3)) (fun o15 => (lt_ (fun (h17 : z_Hp) => (if hT h17 a0 = 9 then (bI (c_X9_found F a0 1 h17) (fun x19 h18 => (some (x19, h18)))) else none)) (fun (j53_16 : z_Hp → Option (Int32 × z_Hp)) => (nl o12 (j53_16 h8) (fun a20 => (nl o15 (j53_16 h8) (fun a21 => (bI (c_X9_hasPlaces F (some a20) x2 x5 h8) (fun x23 h22 => (lt_ (fun (h25 : z_Hp) => (if hT h25 a0 = 9 then (bI (c_X9_found F a0 2 h25) (fun x27 h26 => (some (x27, h26)))) else none)) (fun (j82_24 : z_Hp → Option (Int32 × z_Hp)) => (if x23 = 0 then (j82_24 h22) else (bI (c_X9_hasPlaces F (some a21) x4 x5 h22) (fun x29 h28 => (if x29 = 0 then (j82_24 h28) else (if hT h28 a20 = 20 ∧ hT h28 a21 = 20 ∧ ¬ x2 < 0 ∧ ¬ x4 < 0 ∧ ¬ x5 < 0 ∧ ix x2 + ix x5 ≤ hN h28 a20 ∧ ix x4 + ix x5 ≤ hN h28 a21 then (lt_ (cpI h28 a20 (ix x2) a21 (ix x4) (ix x5)) (fun h30 => (some (1, h30)))) else none))))))))))))))))) else none))))) else none))) else none))))) else none) else (if hT h8 a0 = 9 then (bI (c_X9_found F a0 5 h8) (fun x32 h31 => (some (x32, h31)))) else none))))))))
set_option maxRecDepth 20000 in
set_option maxHeartbeats 4000000 in
theorem t_X9_copy (F : Nat) (a0 : Nat) (x1 : Int32) (x2 : Int32) (x3 : Int32) (x4 : Int32) (x5 : Int32) (h0 : z_Hp) : z_Ct zi mi_X9_copy [vr (some a0), vi x1, vi x2, vi x3, vi x4, vi x5] h0 (c_X9_copy F a0 x1 x2 x3 x4 x5 h0) := by
  refine z_entry (by decide) (Nat.le_of_ble_eq_true rfl) [(0, vr (some a0)), (1, vi x1), (2, vi x2), (3, vi x3), (4, vi x4), (5, vi x5)] rfl ?_
  unfold c_X9_copy
  refine z_iload_n (pc := 0) dX9_copy_0 rfl 1 rfl (z_callS_I (pc := 1) (avs := [vi x1]) (st := []) rfl (t_X9_isRow F x1 h0) ky_X9_isRow ws_X9_isRow wz_RX9_86 (rm_X9_copy_X9_isRow) (Nat.le_of_ble_eq_true rfl) dX9_copy_1 (fun x7 h6 => (?_)))
  refine z_if_eq (pc := 4) (tgt := 14) dX9_copy_4 (by decide) ?_ ?_
  · refine z_iconst (pc := 14) dX9_copy_14 ic_m1 (?_)
    exact z_iret (pc := 15) dX9_copy_15 rfl rfl
  · refine z_iload_n (pc := 7) dX9_copy_7 rfl 3 rfl (z_callS_I (pc := 8) (avs := [vi x3]) (st := []) rfl (t_X9_isRow F x3 h6) ky_X9_isRow ws_X9_isRow wz_RX9_86 (rm_X9_copy_X9_isRow) (Nat.le_of_ble_eq_true rfl) dX9_copy_8 (fun x9 h8 => (?_)))
    refine z_if_ne (pc := 11) (tgt := 16) dX9_copy_11 (by decide) ?_ ?_
    · refine z_iload (pc := 16) dX9_copy_16 5 rfl (?_)
      refine z_if_ge (pc := 18) (tgt := 27) dX9_copy_18 (by decide) ?_ ?_
      · refine z_aload_n (pc := 27) dX9_copy_27 rfl 0 rfl (z_getRl (pc := 28) fl_RX9_11 rfl dX9_copy_28 (fun o10 => (z_iload_n (pc := 31) dX9_copy_31 rfl 1 rfl (?_))))
        refine z_nn (fun a11 ea11 => ?_)
        subst ea11
        refine z_aaloadl (pc := 32) 23 (by decide) dX9_copy_32 (fun o12 => (z_astore (pc := 33) (L' := [(0, vr (some a0)), (1, vi x1), (2, vi x2), (3, vi x3), (4, vi x4), (5, vi x5), (6, vr o12)]) dX9_copy_33 (Nat.le_of_ble_eq_true rfl) rfl (z_aload_n (pc := 35) dX9_copy_35 rfl 0 rfl (z_getRl (pc := 36) fl_RX9_11 rfl dX9_copy_36 (fun o13 => (z_iload_n (pc := 39) dX9_copy_39 rfl 3 rfl (?_)))))))
        refine z_nn (fun a14 ea14 => ?_)
        subst ea14
        refine z_aaloadl (pc := 40) 23 (by decide) dX9_copy_40 (fun o15 => (z_astore (pc := 41) (L' := [(0, vr (some a0)), (1, vi x1), (2, vi x2), (3, vi x3), (4, vi x4), (5, vi x5), (6, vr o12), (7, vr o15)]) dX9_copy_41 (Nat.le_of_ble_eq_true rfl) rfl (z_aload (pc := 43) dX9_copy_43 6 rfl (?_))))
        refine z_jn (P := fun (j : z_Hp → Option (Int32 × z_Hp)) => ∀ (h17 : z_Hp), z_G zi mi_X9_copy 53 [(0, vr (some a0))] [] h17 (j h17)) (fun h17 => ?_) (fun j53_16 qj53_16 => ?_)
        · refine z_aload_n (pc := 53) dX9_copy_53 rfl 0 rfl (z_iconst (pc := 54) dX9_copy_54 ic_1 (z_callV_I (pc := 55) (avs := [vi 1]) (st := []) rfl (q := (RX9, TX9, 18)) rfl rfl (t_X9_found F a0 1 h17) ky_X9_found wm_X9_found we_X9_found wz_RX9_90 (rm_X9_copy_X9_found) (Nat.le_of_ble_eq_true rfl) dX9_copy_55 (fun x19 h18 => (?_))))
          exact z_iret (pc := 58) dX9_copy_58 rfl rfl
        refine z_ifnull (pc := 45) (tgt := 53) dX9_copy_45 (by decide) (fun ea20 => ?_) (fun a20 ea20 => ?_)
        · subst ea20
          exact z_sub [0] rfl (qj53_16 h8)
        · subst ea20
          refine z_aload (pc := 48) dX9_copy_48 7 rfl (?_)
          refine z_ifnonnull (pc := 50) (tgt := 59) dX9_copy_50 (by decide) (fun ea21 => ?_) (fun a21 ea21 => ?_)
          · subst ea21
            exact z_sub [0] rfl (qj53_16 h8)
          · subst ea21
            refine z_aload (pc := 59) dX9_copy_59 6 rfl (z_iload_n (pc := 61) dX9_copy_61 rfl 2 rfl (z_iload (pc := 62) dX9_copy_62 5 rfl (z_callS_I (pc := 64) (avs := [vr (some a20), vi x2, vi x5]) (st := []) rfl (t_X9_hasPlaces F (some a20) x2 x5 h8) ky_X9_hasPlaces ws_X9_hasPlaces wz_RX9_98 (rm_X9_copy_X9_hasPlaces) (Nat.le_of_ble_eq_true rfl) dX9_copy_64 (fun x23 h22 => (?_)))))
            refine z_jn (P := fun (j : z_Hp → Option (Int32 × z_Hp)) => ∀ (h25 : z_Hp), z_G zi mi_X9_copy 82 [(0, vr (some a0))] [] h25 (j h25)) (fun h25 => ?_) (fun j82_24 qj82_24 => ?_)
            · refine z_aload_n (pc := 82) dX9_copy_82 rfl 0 rfl (z_iconst (pc := 83) dX9_copy_83 ic_2 (z_callV_I (pc := 84) (avs := [vi 2]) (st := []) rfl (q := (RX9, TX9, 18)) rfl rfl (t_X9_found F a0 2 h25) ky_X9_found wm_X9_found we_X9_found wz_RX9_90 (rm_X9_copy_X9_found) (Nat.le_of_ble_eq_true rfl) dX9_copy_84 (fun x27 h26 => (?_))))
              exact z_iret (pc := 87) dX9_copy_87 rfl rfl
            refine z_if_eq (pc := 67) (tgt := 82) dX9_copy_67 (by decide) ?_ ?_
            · exact z_sub [0] rfl (qj82_24 h22)
            · refine z_aload (pc := 70) dX9_copy_70 7 rfl (z_iload (pc := 72) dX9_copy_72 4 rfl (z_iload (pc := 74) dX9_copy_74 5 rfl (z_callS_I (pc := 76) (avs := [vr (some a21), vi x4, vi x5]) (st := []) rfl (t_X9_hasPlaces F (some a21) x4 x5 h22) ky_X9_hasPlaces ws_X9_hasPlaces wz_RX9_98 (rm_X9_copy_X9_hasPlaces) (Nat.le_of_ble_eq_true rfl) dX9_copy_76 (fun x29 h28 => (?_)))))
              refine z_if_ne (pc := 79) (tgt := 88) dX9_copy_79 (by decide) ?_ ?_
              · refine z_aload (pc := 88) dX9_copy_88 6 rfl (z_iload_n (pc := 90) dX9_copy_90 rfl 2 rfl (z_aload (pc := 91) dX9_copy_91 7 rfl (z_iload (pc := 93) dX9_copy_93 4 rfl (z_iload (pc := 95) dX9_copy_95 5 rfl (z_copyl (pc := 97) wx_RX9_102 wx_na wx_st wx_in (Nat.le_of_ble_eq_true rfl) (Nat.le_of_ble_eq_true rfl) (Nat.le_of_ble_eq_true rfl) dX9_copy_97 (fun h30 => (z_iconst (pc := 100) dX9_copy_100 ic_1 (?_))))))))
                exact z_iret (pc := 101) dX9_copy_101 rfl rfl
              · exact z_sub [0] rfl (qj82_24 h28)
      · refine z_aload_n (pc := 21) dX9_copy_21 rfl 0 rfl (z_iconst (pc := 22) dX9_copy_22 ic_5 (z_callV_I (pc := 23) (avs := [vi 5]) (st := []) rfl (q := (RX9, TX9, 18)) rfl rfl (t_X9_found F a0 5 h8) ky_X9_found wm_X9_found we_X9_found wz_RX9_90 (rm_X9_copy_X9_found) (Nat.le_of_ble_eq_true rfl) dX9_copy_23 (fun x32 h31 => (?_))))
        exact z_iret (pc := 26) dX9_copy_26 rfl rfl
    · refine z_iconst (pc := 14) dX9_copy_14 ic_m1 (?_)
      exact z_iret (pc := 15) dX9_copy_15 rfl rfl
theorem dX9_mean_0 : decode cX9_mean 0 = .ok (.iload_n 1, 1) := by decide +kernel
theorem dX9_mean_1 : decode cX9_mean 1 = .ok (.invokestatic 86, 3) := by decide +kernel
theorem dX9_mean_4 : decode cX9_mean 4 = .ok (.ifCond .ne 5, 3) := by decide +kernel
theorem dX9_mean_7 : decode cX9_mean 7 = .ok (.iconst (-1), 1) := by decide +kernel
theorem dX9_mean_8 : decode cX9_mean 8 = .ok (.ireturn, 1) := by decide +kernel
theorem dX9_mean_9 : decode cX9_mean 9 = .ok (.aload_n 0, 1) := by decide +kernel
theorem dX9_mean_10 : decode cX9_mean 10 = .ok (.getfield 11, 3) := by decide +kernel
theorem dX9_mean_13 : decode cX9_mean 13 = .ok (.iload_n 1, 1) := by decide +kernel
theorem dX9_mean_14 : decode cX9_mean 14 = .ok (.aaload, 1) := by decide +kernel
theorem dX9_mean_15 : decode cX9_mean 15 = .ok (.astore_n 2, 1) := by decide +kernel
theorem dX9_mean_16 : decode cX9_mean 16 = .ok (.aload_n 2, 1) := by decide +kernel
theorem dX9_mean_17 : decode cX9_mean 17 = .ok (.ifnonnull 9, 3) := by decide +kernel
theorem dX9_mean_20 : decode cX9_mean 20 = .ok (.aload_n 0, 1) := by decide +kernel
theorem dX9_mean_21 : decode cX9_mean 21 = .ok (.iconst 1, 1) := by decide +kernel
theorem dX9_mean_22 : decode cX9_mean 22 = .ok (.invokevirtual 90, 3) := by decide +kernel
theorem dX9_mean_25 : decode cX9_mean 25 = .ok (.ireturn, 1) := by decide +kernel
theorem dX9_mean_26 : decode cX9_mean 26 = .ok (.aload_n 2, 1) := by decide +kernel
theorem dX9_mean_27 : decode cX9_mean 27 = .ok (.arraylength, 1) := by decide +kernel
theorem dX9_mean_28 : decode cX9_mean 28 = .ok (.ifCond .ne 9, 3) := by decide +kernel
theorem dX9_mean_31 : decode cX9_mean 31 = .ok (.aload_n 0, 1) := by decide +kernel
theorem dX9_mean_32 : decode cX9_mean 32 = .ok (.iconst 4, 1) := by decide +kernel
theorem dX9_mean_33 : decode cX9_mean 33 = .ok (.invokevirtual 90, 3) := by decide +kernel
theorem dX9_mean_36 : decode cX9_mean 36 = .ok (.ireturn, 1) := by decide +kernel
theorem dX9_mean_37 : decode cX9_mean 37 = .ok (.lconst 0, 1) := by decide +kernel
theorem dX9_mean_38 : decode cX9_mean 38 = .ok (.lstore_n 3, 1) := by decide +kernel
theorem dX9_mean_39 : decode cX9_mean 39 = .ok (.iconst 0, 1) := by decide +kernel
theorem dX9_mean_40 : decode cX9_mean 40 = .ok (.istore 5, 2) := by decide +kernel
theorem dX9_mean_42 : decode cX9_mean 42 = .ok (.iload 5, 2) := by decide +kernel
theorem dX9_mean_44 : decode cX9_mean 44 = .ok (.aload_n 2, 1) := by decide +kernel
theorem dX9_mean_45 : decode cX9_mean 45 = .ok (.arraylength, 1) := by decide +kernel
theorem dX9_mean_46 : decode cX9_mean 46 = .ok (.if_icmp .ge 17, 3) := by decide +kernel
theorem dX9_mean_49 : decode cX9_mean 49 = .ok (.lload_n 3, 1) := by decide +kernel
theorem dX9_mean_50 : decode cX9_mean 50 = .ok (.aload_n 2, 1) := by decide +kernel
theorem dX9_mean_51 : decode cX9_mean 51 = .ok (.iload 5, 2) := by decide +kernel
theorem dX9_mean_53 : decode cX9_mean 53 = .ok (.iaload, 1) := by decide +kernel
theorem dX9_mean_54 : decode cX9_mean 54 = .ok (.i2l, 1) := by decide +kernel
theorem dX9_mean_55 : decode cX9_mean 55 = .ok (.ladd, 1) := by decide +kernel
theorem dX9_mean_56 : decode cX9_mean 56 = .ok (.lstore_n 3, 1) := by decide +kernel
theorem dX9_mean_57 : decode cX9_mean 57 = .ok (.iinc 5 1, 3) := by decide +kernel
theorem dX9_mean_60 : decode cX9_mean 60 = .ok (.goto (-18), 3) := by decide +kernel
theorem dX9_mean_63 : decode cX9_mean 63 = .ok (.aload_n 0, 1) := by decide +kernel
theorem dX9_mean_64 : decode cX9_mean 64 = .ok (.lload_n 3, 1) := by decide +kernel
theorem dX9_mean_65 : decode cX9_mean 65 = .ok (.aload_n 2, 1) := by decide +kernel
theorem dX9_mean_66 : decode cX9_mean 66 = .ok (.arraylength, 1) := by decide +kernel
theorem dX9_mean_67 : decode cX9_mean 67 = .ok (.i2l, 1) := by decide +kernel
theorem dX9_mean_68 : decode cX9_mean 68 = .ok (.ldiv, 1) := by decide +kernel
theorem dX9_mean_69 : decode cX9_mean 69 = .ok (.l2i, 1) := by decide +kernel
theorem dX9_mean_70 : decode cX9_mean 70 = .ok (.putfield 94, 3) := by decide +kernel
theorem dX9_mean_73 : decode cX9_mean 73 = .ok (.iconst 1, 1) := by decide +kernel
theorem dX9_mean_74 : decode cX9_mean 74 = .ok (.ireturn, 1) := by decide +kernel
def c_X9_mean_L42 (F : Nat) (a10 : Nat) (a11 : Nat) (k63 : Int64 → z_Hp → Option (Int32 × z_Hp)) : Nat → Int64 → Int32 → z_Hp → Option (Int32 × z_Hp)
  | 0, _, _, _ => none
  | n + 1, y12, x13, h14 => (if okL h14 a11 = true then (if (nI (hN h14 a11)) ≤ x13 then (k63 y12 h14) else (if okA h14 a11 20 x13 = true then (lt_ (y12 + ((hI h14 a11 (ix x13) : Int32).toInt64)) (fun y17 => (lt_ (x13 + 1) (fun x18 => (c_X9_mean_L42 F a10 a11 k63 n y17 x18 h14))))) else none)) else none)
def c_X9_mean (F : Nat) (a0 : Nat) (x1 : Int32) (h0 : z_Hp) : Option (Int32 × z_Hp) := (bI (c_X9_isRow F x1 h0) (fun x3 h2 => (if x3 = 0 then (some ((-1), h2)) else (if hT h2 a0 = 9 then (lt_ (hR h2 a0 0) (fun o4 => (nn o4 (fun a5 => (if okA h2 a5 23 x1 = true then (lt_ (hR h2 a5 (ix x1)) (fun o6 => (nl o6 (if hT h2 a0 = 9 then (bI (c_X9_found F a0 1 h2) (fun x9 h8 => (some (x9, h8)))) else none) (fun a7 => (if okL h2 a7 = true then (if (nI (hN h2 a7)) = 0 then (if hT h2 a0 = 9 then (bI (c_X9_found F a0 4 h2) (fun x23 h22 => (some (x23, h22)))) else none) else (c_X9_mean_L42 F a0 a7 (fun y19 h20 => (if okL h20 a7 = true then (if ((nI (hN h20 a7) : Int32).toInt64) = 0 then none else (if hT h20 a0 = 9 then (lt_ (sI h20 a0 15 ((y19 / ((nI (hN h20 a7) : Int32).toInt64) : Int64).toInt32)) (fun h21 => (some (1, h21)))) else none)) else none)) F 0 0 h2)) else none))))) else none))))) else none))))
set_option maxRecDepth 20000 in
set_option maxHeartbeats 4000000 in
theorem g_X9_mean_L42 (F : Nat) (a10 : Nat) (a11 : Nat) (k63 : Int64 → z_Hp → Option (Int32 × z_Hp)) (qk63 : ∀ (y15 : Int64) (h16 : z_Hp), z_G zi mi_X9_mean 63 [(0, vr (some a10)), (2, vr (some a11)), (3, vl y15)] [] h16 (k63 y15 h16)) : ∀ (n : Nat) (y12 : Int64) (x13 : Int32) (h14 : z_Hp), z_G zi mi_X9_mean 42 [(0, vr (some a10)), (2, vr (some a11)), (3, vl y12), (5, vi x13)] [] h14 (c_X9_mean_L42 F a10 a11 k63 n y12 x13 h14) := by
  intro n
  induction n with
  | zero => intro y12 x13 h14; rw [c_X9_mean_L42]; exact z_none
  | succ n ih =>
    intro y12 x13 h14
    rw [c_X9_mean_L42]
    refine z_iload (pc := 42) dX9_mean_42 3 rfl (z_aload_n (pc := 44) dX9_mean_44 rfl 1 rfl (z_alen (pc := 45) dX9_mean_45 (?_)))
    refine z_icmp_ge (pc := 46) (tgt := 63) dX9_mean_46 (by decide) ?_ ?_
    · exact z_sub [0, 1, 2] rfl (qk63 y12 h14)
    · refine z_lload_n (pc := 49) dX9_mean_49 rfl 2 rfl (z_aload_n (pc := 50) dX9_mean_50 rfl 1 rfl (z_iload (pc := 51) dX9_mean_51 3 rfl (z_iaload (pc := 53) dX9_mean_53 (z_i2l (pc := 54) dX9_mean_54 (z_ladd (pc := 55) dX9_mean_55 (z_lstorel_n (pc := 56) (L' := fun y17 => [(0, vr (some a10)), (2, vr (some a11)), (3, vl y17), (5, vi x13)]) dX9_mean_56 rfl (Nat.le_of_ble_eq_true rfl) (fun _ => rfl) (fun y17 => (z_iincl (pc := 57) (L' := fun x18 => [(0, vr (some a10)), (2, vr (some a11)), (3, vl y17), (5, vi x18)]) dX9_mean_57 3 rfl ic_1 (Nat.le_of_ble_eq_true rfl) (fun _ => rfl) (fun x18 => (?_))))))))))
      refine z_goto (pc := 60) (tgt := 42) dX9_mean_60 (by decide) (?_)
      exact ih y17 x18 h14
set_option maxRecDepth 20000 in
set_option maxHeartbeats 4000000 in
theorem t_X9_mean (F : Nat) (a0 : Nat) (x1 : Int32) (h0 : z_Hp) : z_Ct zi mi_X9_mean [vr (some a0), vi x1] h0 (c_X9_mean F a0 x1 h0) := by
  refine z_entry (by decide) (Nat.le_of_ble_eq_true rfl) [(0, vr (some a0)), (1, vi x1)] rfl ?_
  unfold c_X9_mean
  refine z_iload_n (pc := 0) dX9_mean_0 rfl 1 rfl (z_callS_I (pc := 1) (avs := [vi x1]) (st := []) rfl (t_X9_isRow F x1 h0) ky_X9_isRow ws_X9_isRow wz_RX9_86 (rm_X9_mean_X9_isRow) (Nat.le_of_ble_eq_true rfl) dX9_mean_1 (fun x3 h2 => (?_)))
  refine z_if_ne (pc := 4) (tgt := 9) dX9_mean_4 (by decide) ?_ ?_
  · refine z_aload_n (pc := 9) dX9_mean_9 rfl 0 rfl (z_getRl (pc := 10) fl_RX9_11 rfl dX9_mean_10 (fun o4 => (z_iload_n (pc := 13) dX9_mean_13 rfl 1 rfl (?_))))
    refine z_nn (fun a5 ea5 => ?_)
    subst ea5
    refine z_aaloadl (pc := 14) 23 (by decide) dX9_mean_14 (fun o6 => (z_astore_n (pc := 15) (L' := [(0, vr (some a0)), (1, vi x1), (2, vr o6)]) dX9_mean_15 rfl (Nat.le_of_ble_eq_true rfl) rfl (z_aload_n (pc := 16) dX9_mean_16 rfl 2 rfl (?_))))
    refine z_ifnonnull (pc := 17) (tgt := 26) dX9_mean_17 (by decide) (fun ea7 => ?_) (fun a7 ea7 => ?_)
    · subst ea7
      refine z_aload_n (pc := 20) dX9_mean_20 rfl 0 rfl (z_iconst (pc := 21) dX9_mean_21 ic_1 (z_callV_I (pc := 22) (avs := [vi 1]) (st := []) rfl (q := (RX9, TX9, 18)) rfl rfl (t_X9_found F a0 1 h2) ky_X9_found wm_X9_found we_X9_found wz_RX9_90 (rm_X9_mean_X9_found) (Nat.le_of_ble_eq_true rfl) dX9_mean_22 (fun x9 h8 => (?_))))
      exact z_iret (pc := 25) dX9_mean_25 rfl rfl
    · subst ea7
      refine z_aload_n (pc := 26) dX9_mean_26 rfl 2 rfl (z_alen (pc := 27) dX9_mean_27 (?_))
      refine z_if_ne (pc := 28) (tgt := 37) dX9_mean_28 (by decide) ?_ ?_
      · refine z_lconst (pc := 37) dX9_mean_37 lc_0 (z_lstore_n (pc := 38) (L' := [(0, vr (some a0)), (1, vi x1), (2, vr (some a7)), (3, vl 0)]) dX9_mean_38 rfl (Nat.le_of_ble_eq_true rfl) rfl (z_iconst (pc := 39) dX9_mean_39 ic_0 (z_istore (pc := 40) (L' := [(0, vr (some a0)), (1, vi x1), (2, vr (some a7)), (3, vl 0), (5, vi 0)]) dX9_mean_40 (Nat.le_of_ble_eq_true rfl) rfl (?_))))
        refine z_sub [0, 2, 3, 4] rfl (g_X9_mean_L42 F a0 a7 _ (fun y19 h20 => ?_) F 0 0 h2)
        refine z_aload_n (pc := 63) dX9_mean_63 rfl 0 rfl (z_lload_n (pc := 64) dX9_mean_64 rfl 2 rfl (z_aload_n (pc := 65) dX9_mean_65 rfl 1 rfl (z_alen (pc := 66) dX9_mean_66 (z_i2l (pc := 67) dX9_mean_67 (z_ldiv (pc := 68) dX9_mean_68 (z_l2i (pc := 69) dX9_mean_69 (z_putIl (pc := 70) fl_RX9_94 (fin_X_9_15 _) rfl dX9_mean_70 (fun h21 => (?_)))))))))
        refine z_iconst (pc := 73) dX9_mean_73 ic_1 (?_)
        exact z_iret (pc := 74) dX9_mean_74 rfl rfl
      · refine z_aload_n (pc := 31) dX9_mean_31 rfl 0 rfl (z_iconst (pc := 32) dX9_mean_32 ic_4 (z_callV_I (pc := 33) (avs := [vi 4]) (st := []) rfl (q := (RX9, TX9, 18)) rfl rfl (t_X9_found F a0 4 h2) ky_X9_found wm_X9_found we_X9_found wz_RX9_90 (rm_X9_mean_X9_found) (Nat.le_of_ble_eq_true rfl) dX9_mean_33 (fun x23 h22 => (?_))))
        exact z_iret (pc := 36) dX9_mean_36 rfl rfl
  · refine z_iconst (pc := 7) dX9_mean_7 ic_m1 (?_)
    exact z_iret (pc := 8) dX9_mean_8 rfl rfl
theorem dX9_isText_0 : decode cX9_isText 0 = .ok (.iload_n 0, 1) := by decide +kernel
theorem dX9_isText_1 : decode cX9_isText 1 = .ok (.ifCond .lt 12, 3) := by decide +kernel
theorem dX9_isText_4 : decode cX9_isText 4 = .ok (.iload_n 0, 1) := by decide +kernel
theorem dX9_isText_5 : decode cX9_isText 5 = .ok (.iconst 4, 1) := by decide +kernel
theorem dX9_isText_6 : decode cX9_isText 6 = .ok (.if_icmp .ge 7, 3) := by decide +kernel
theorem dX9_isText_9 : decode cX9_isText 9 = .ok (.iconst 1, 1) := by decide +kernel
theorem dX9_isText_10 : decode cX9_isText 10 = .ok (.goto 4, 3) := by decide +kernel
theorem dX9_isText_13 : decode cX9_isText 13 = .ok (.iconst 0, 1) := by decide +kernel
theorem dX9_isText_14 : decode cX9_isText 14 = .ok (.ireturn, 1) := by decide +kernel
def c_X9_isText (F : Nat) (x1 : Int32) (h0 : z_Hp) : Option (Int32 × z_Hp) := (if x1 < 0 then (some (0, h0)) else (if 4 ≤ x1 then (some (0, h0)) else (some (1, h0))))
set_option maxRecDepth 20000 in
set_option maxHeartbeats 4000000 in
theorem t_X9_isText (F : Nat) (x1 : Int32) (h0 : z_Hp) : z_Ct zi mi_X9_isText [vi x1] h0 (c_X9_isText F x1 h0) := by
  refine z_entry (by decide) (Nat.le_of_ble_eq_true rfl) [(0, vi x1)] rfl ?_
  unfold c_X9_isText
  refine z_iload_n (pc := 0) dX9_isText_0 rfl 0 rfl (?_)
  refine z_if_lt (pc := 1) (tgt := 13) dX9_isText_1 (by decide) ?_ ?_
  · refine z_iconst (pc := 13) dX9_isText_13 ic_0 (?_)
    exact z_iret (pc := 14) dX9_isText_14 rfl rfl
  · refine z_iload_n (pc := 4) dX9_isText_4 rfl 0 rfl (z_iconst (pc := 5) dX9_isText_5 ic_4 (?_))
    refine z_icmp_ge (pc := 6) (tgt := 13) dX9_isText_6 (by decide) ?_ ?_
    · refine z_iconst (pc := 13) dX9_isText_13 ic_0 (?_)
      exact z_iret (pc := 14) dX9_isText_14 rfl rfl
    · refine z_iconst (pc := 9) dX9_isText_9 ic_1 (z_goto (pc := 10) (tgt := 14) dX9_isText_10 (by decide) (?_))
      exact z_iret (pc := 14) dX9_isText_14 rfl rfl
theorem dX9_text_0 : decode cX9_text 0 = .ok (.iload_n 1, 1) := by decide +kernel
theorem dX9_text_1 : decode cX9_text 1 = .ok (.invokestatic 108, 3) := by decide +kernel
theorem dX9_text_4 : decode cX9_text 4 = .ok (.ifCond .eq 9, 3) := by decide +kernel
theorem dX9_text_7 : decode cX9_text 7 = .ok (.iload_n 2, 1) := by decide +kernel
theorem dX9_text_8 : decode cX9_text 8 = .ok (.bipush 60, 2) := by decide +kernel
theorem dX9_text_10 : decode cX9_text 10 = .ok (.if_icmp .le 5, 3) := by decide +kernel
theorem dX9_text_13 : decode cX9_text 13 = .ok (.iconst (-1), 1) := by decide +kernel
theorem dX9_text_14 : decode cX9_text 14 = .ok (.ireturn, 1) := by decide +kernel
theorem dX9_text_15 : decode cX9_text 15 = .ok (.iload_n 2, 1) := by decide +kernel
theorem dX9_text_16 : decode cX9_text 16 = .ok (.ifCond .ge 9, 3) := by decide +kernel
theorem dX9_text_19 : decode cX9_text 19 = .ok (.aload_n 0, 1) := by decide +kernel
theorem dX9_text_20 : decode cX9_text 20 = .ok (.iconst 5, 1) := by decide +kernel
theorem dX9_text_21 : decode cX9_text 21 = .ok (.invokevirtual 90, 3) := by decide +kernel
theorem dX9_text_24 : decode cX9_text 24 = .ok (.ireturn, 1) := by decide +kernel
theorem dX9_text_25 : decode cX9_text 25 = .ok (.iload_n 2, 1) := by decide +kernel
theorem dX9_text_26 : decode cX9_text 26 = .ok (.newarray .byte, 2) := by decide +kernel
theorem dX9_text_28 : decode cX9_text 28 = .ok (.astore_n 3, 1) := by decide +kernel
theorem dX9_text_29 : decode cX9_text 29 = .ok (.iconst 0, 1) := by decide +kernel
theorem dX9_text_30 : decode cX9_text 30 = .ok (.istore 4, 2) := by decide +kernel
theorem dX9_text_32 : decode cX9_text 32 = .ok (.iload 4, 2) := by decide +kernel
theorem dX9_text_34 : decode cX9_text 34 = .ok (.iload_n 2, 1) := by decide +kernel
theorem dX9_text_35 : decode cX9_text 35 = .ok (.if_icmp .ge 15, 3) := by decide +kernel
theorem dX9_text_38 : decode cX9_text 38 = .ok (.aload_n 3, 1) := by decide +kernel
theorem dX9_text_39 : decode cX9_text 39 = .ok (.iload 4, 2) := by decide +kernel
theorem dX9_text_41 : decode cX9_text 41 = .ok (.bipush 32, 2) := by decide +kernel
theorem dX9_text_43 : decode cX9_text 43 = .ok (.bastore, 1) := by decide +kernel
theorem dX9_text_44 : decode cX9_text 44 = .ok (.iinc 4 1, 3) := by decide +kernel
theorem dX9_text_47 : decode cX9_text 47 = .ok (.goto (-15), 3) := by decide +kernel
theorem dX9_text_50 : decode cX9_text 50 = .ok (.aload_n 0, 1) := by decide +kernel
theorem dX9_text_51 : decode cX9_text 51 = .ok (.getfield 17, 3) := by decide +kernel
theorem dX9_text_54 : decode cX9_text 54 = .ok (.iload_n 1, 1) := by decide +kernel
theorem dX9_text_55 : decode cX9_text 55 = .ok (.aload_n 3, 1) := by decide +kernel
theorem dX9_text_56 : decode cX9_text 56 = .ok (.aastore, 1) := by decide +kernel
theorem dX9_text_57 : decode cX9_text 57 = .ok (.iload_n 2, 1) := by decide +kernel
theorem dX9_text_58 : decode cX9_text 58 = .ok (.ireturn, 1) := by decide +kernel
def c_X9_text_L32 (F : Nat) (a7 : Nat) (x8 : Int32) (x9 : Int32) (a10 : Nat) : Nat → Int32 → z_Hp → Option (Int32 × z_Hp)
  | 0, _, _ => none
  | n + 1, x11, h12 => (if x9 ≤ x11 then (if hT h12 a7 = 9 then (lt_ (hR h12 a7 1) (fun o13 => (nn o13 (fun a14 => (if okA h12 a14 24 x8 = true ∧ okS h12 24 (some a10) = true then (lt_ (sR h12 a14 (ix x8) (some a10)) (fun h15 => (some (x9, h15)))) else none))))) else none) else (if okA h12 a10 21 x11 = true then (lt_ (sI h12 a10 (ix x11) ((32 : Int32).toInt8.toInt32)) (fun h16 => (lt_ (x11 + 1) (fun x17 => (c_X9_text_L32 F a7 x8 x9 a10 n x17 h16))))) else none))
def c_X9_text (F : Nat) (a0 : Nat) (x1 : Int32) (x2 : Int32) (h0 : z_Hp) : Option (Int32 × z_Hp) := (bI (c_X9_isText F x1 h0) (fun x4 h3 => (if x4 = 0 then (some ((-1), h3)) else (if x2 ≤ 60 then (if 0 ≤ x2 then (if inb x2 100000 = true then (nwo h3 21 (ix x2) (fun a5 h6 => (c_X9_text_L32 F a0 x1 x2 a5 F 0 h6))) else none) else (if hT h3 a0 = 9 then (bI (c_X9_found F a0 5 h3) (fun x19 h18 => (some (x19, h18)))) else none)) else (some ((-1), h3))))))
set_option maxRecDepth 20000 in
set_option maxHeartbeats 4000000 in
theorem g_X9_text_L32 (F : Nat) (a7 : Nat) (x8 : Int32) (x9 : Int32) (a10 : Nat) : ∀ (n : Nat) (x11 : Int32) (h12 : z_Hp), z_G zi mi_X9_text 32 [(0, vr (some a7)), (1, vi x8), (2, vi x9), (3, vr (some a10)), (4, vi x11)] [] h12 (c_X9_text_L32 F a7 x8 x9 a10 n x11 h12) := by
  intro n
  induction n with
  | zero => intro x11 h12; rw [c_X9_text_L32]; exact z_none
  | succ n ih =>
    intro x11 h12
    rw [c_X9_text_L32]
    refine z_iload (pc := 32) dX9_text_32 4 rfl (z_iload_n (pc := 34) dX9_text_34 rfl 2 rfl (?_))
    refine z_icmp_ge (pc := 35) (tgt := 50) dX9_text_35 (by decide) ?_ ?_
    · refine z_aload_n (pc := 50) dX9_text_50 rfl 0 rfl (z_getRl (pc := 51) fl_RX9_17 rfl dX9_text_51 (fun o13 => (z_iload_n (pc := 54) dX9_text_54 rfl 1 rfl (z_aload_n (pc := 55) dX9_text_55 rfl 3 rfl (?_)))))
      refine z_nn (fun a14 ea14 => ?_)
      subst ea14
      refine z_aastorel (pc := 56) 24 (by decide) dX9_text_56 (fun h15 => (z_iload_n (pc := 57) dX9_text_57 rfl 2 rfl (?_)))
      exact z_iret (pc := 58) dX9_text_58 rfl rfl
    · refine z_aload_n (pc := 38) dX9_text_38 rfl 3 rfl (z_iload (pc := 39) dX9_text_39 4 rfl (z_bipush (pc := 41) dX9_text_41 bp_32 (z_bastorel (pc := 43) dX9_text_43 (fun h16 => (z_iincl (pc := 44) (L' := fun x17 => [(0, vr (some a7)), (1, vi x8), (2, vi x9), (3, vr (some a10)), (4, vi x17)]) dX9_text_44 4 rfl ic_1 (Nat.le_of_ble_eq_true rfl) (fun _ => rfl) (fun x17 => (z_goto (pc := 47) (tgt := 32) dX9_text_47 (by decide) (?_))))))))
      exact ih x17 h16
set_option maxRecDepth 20000 in
set_option maxHeartbeats 4000000 in
theorem t_X9_text (F : Nat) (a0 : Nat) (x1 : Int32) (x2 : Int32) (h0 : z_Hp) : z_Ct zi mi_X9_text [vr (some a0), vi x1, vi x2] h0 (c_X9_text F a0 x1 x2 h0) := by
  refine z_entry (by decide) (Nat.le_of_ble_eq_true rfl) [(0, vr (some a0)), (1, vi x1), (2, vi x2)] rfl ?_
  unfold c_X9_text
  refine z_iload_n (pc := 0) dX9_text_0 rfl 1 rfl (z_callS_I (pc := 1) (avs := [vi x1]) (st := []) rfl (t_X9_isText F x1 h0) ky_X9_isText ws_X9_isText wz_RX9_108 (rm_X9_text_X9_isText) (Nat.le_of_ble_eq_true rfl) dX9_text_1 (fun x4 h3 => (?_)))
  refine z_if_eq (pc := 4) (tgt := 13) dX9_text_4 (by decide) ?_ ?_
  · refine z_iconst (pc := 13) dX9_text_13 ic_m1 (?_)
    exact z_iret (pc := 14) dX9_text_14 rfl rfl
  · refine z_iload_n (pc := 7) dX9_text_7 rfl 2 rfl (z_bipush (pc := 8) dX9_text_8 bp_60 (?_))
    refine z_icmp_le (pc := 10) (tgt := 15) dX9_text_10 (by decide) ?_ ?_
    · refine z_iload_n (pc := 15) dX9_text_15 rfl 2 rfl (?_)
      refine z_if_ge (pc := 16) (tgt := 25) dX9_text_16 (by decide) ?_ ?_
      · refine z_iload_n (pc := 25) dX9_text_25 rfl 2 rfl (z_newarrl (pc := 26) 21 (by decide) rfl wa_21 dX9_text_26 (fun a5 h6 => (z_astore_n (pc := 28) (L' := [(0, vr (some a0)), (1, vi x1), (2, vi x2), (3, vr (some a5))]) dX9_text_28 rfl (Nat.le_of_ble_eq_true rfl) rfl (z_iconst (pc := 29) dX9_text_29 ic_0 (z_istore (pc := 30) (L' := [(0, vr (some a0)), (1, vi x1), (2, vi x2), (3, vr (some a5)), (4, vi 0)]) dX9_text_30 (Nat.le_of_ble_eq_true rfl) rfl (?_))))))
        refine g_X9_text_L32 F a0 x1 x2 a5 F 0 h6
      · refine z_aload_n (pc := 19) dX9_text_19 rfl 0 rfl (z_iconst (pc := 20) dX9_text_20 ic_5 (z_callV_I (pc := 21) (avs := [vi 5]) (st := []) rfl (q := (RX9, TX9, 18)) rfl rfl (t_X9_found F a0 5 h3) ky_X9_found wm_X9_found we_X9_found wz_RX9_90 (rm_X9_text_X9_found) (Nat.le_of_ble_eq_true rfl) dX9_text_21 (fun x19 h18 => (?_))))
        exact z_iret (pc := 24) dX9_text_24 rfl rfl
    · refine z_iconst (pc := 13) dX9_text_13 ic_m1 (?_)
      exact z_iret (pc := 14) dX9_text_14 rfl rfl
