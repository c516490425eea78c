/-! The law on a script of at most three ints: one call at most. -/
set_option maxHeartbeats 4000000 in
theorem z_loop (xs : Nat → Int32) : x_T (some (3, xs)) 9 0 26 z_lv [] z_d z_Q := by
  refine x_T_aload_nk rfl rfl rfl ?_
  refine x_T_iload_n rfl rfl rfl ?_
  refine x_T_scld (v := xs 0) rfl rfl rfl rfl ?_
  refine x_T_bipush (v := 15) rfl (by decide) rfl ?_
  refine x_T_iand rfl rfl ?_
  obtain ⟨j, hj, ej⟩ := pk_andE (xs 0) (m := 15) 4 (by decide)
  rw [ej]
  have h16 : j = 0 ∨ j = 1 ∨ j = 2 ∨ j = 3 ∨ j = 4 ∨ j = 5 ∨ j = 6 ∨ j = 7 ∨ j = 8 ∨ j = 9 ∨ j = 10 ∨ j = 11 ∨ j = 12 ∨ j = 13 ∨ j = 14 ∨ j = 15 := by omega
  rcases h16 with rfl | rfl | rfl | rfl | rfl | rfl | rfl | rfl | rfl | rfl | rfl | rfl | rfl | rfl | rfl | rfl
  · refine x_T_ts (pc2 := 100) rfl (by decide +kernel) ?_
    exact z_op0 xs
  · refine x_T_ts (pc2 := 123) rfl (by decide +kernel) ?_
    exact z_op1 xs
  · refine x_T_ts (pc2 := 148) rfl (by decide +kernel) ?_
    exact z_op2 xs
  · refine x_T_ts (pc2 := 159) rfl (by decide +kernel) ?_
    exact z_op3 xs
  · refine x_T_ts (pc2 := 182) rfl (by decide +kernel) ?_
    exact z_op4 xs
  · refine x_T_ts (pc2 := 205) rfl (by decide +kernel) ?_
    exact z_op5 xs
  · refine x_T_ts (pc2 := 218) rfl (by decide +kernel) ?_
    exact z_op6 xs
  · refine x_T_ts (pc2 := 231) rfl (by decide +kernel) ?_
    exact z_op7 xs
  · refine x_T_ts (pc2 := 254) rfl (by decide +kernel) ?_
    exact z_op8 xs
  · refine x_T_ts (pc2 := 287) rfl (by decide +kernel) ?_
    exact z_op9 xs
  · refine x_T_ts (pc2 := 300) rfl (by decide +kernel) ?_
    exact z_op10 xs
  · refine x_T_ts (pc2 := 313) rfl (by decide +kernel) ?_
    exact z_op11 xs
  · refine x_T_ts (pc2 := 326) rfl (by decide +kernel) ?_
    exact z_op12 xs
  · refine x_T_ts (pc2 := 359) rfl (by decide +kernel) ?_
    exact z_fin xs _ z_d_n
  · refine x_T_ts (pc2 := 359) rfl (by decide +kernel) ?_
    exact z_fin xs _ z_d_n
  · refine x_T_ts (pc2 := 359) rfl (by decide +kernel) ?_
    exact z_fin xs _ z_d_n
set_option maxHeartbeats 4000000 in
theorem z_start (L : Nat) (xs : Nat → Int32) (hL : L ≤ 3) : x_T (some (L, xs)) 9 0 0 (x_en 0 [.retAddr 0]) [] x_h0 z_Q := by
  refine x_T_new rfl rfl rfl ?_
  show x_T _ _ 0 3 _ [.ref 0] z_a _
  refine x_T_dup rfl rfl rfl ?_
  refine x_T_ci (as := []) (r := [.ref 0]) rfl rfl rfl rfl (Nat.le_of_ble_eq_true rfl) (Nat.le_of_ble_eq_true rfl) ?_
  refine x_T_closed 3000 z_b_v ?_
  show x_T _ _ 0 7 _ [.ref 0] z_b _
  refine x_T_astore_n rfl (by decide) rfl ?_
  refine x_T_new rfl rfl rfl ?_
  rw [z_b_n]
  show x_T _ _ 0 11 _ [.ref 249] z_c _
  refine x_T_dup rfl rfl rfl ?_
  refine x_T_ci (as := []) (r := [.ref 249]) rfl rfl rfl rfl (Nat.le_of_ble_eq_true rfl) (Nat.le_of_ble_eq_true rfl) ?_
  refine x_T_closed 3000 z_d_v ?_
  show x_T _ _ 0 15 _ [.ref 249] z_d _
  refine x_T_astore_n rfl (by decide) rfl ?_
  refine x_T_iconst (v := 0) rfl (by decide) rfl ?_
  refine x_T_istore_n rfl (by decide) rfl ?_
  show x_T _ _ 0 18 z_lv [] z_d _
  refine x_T_iload_n rfl rfl rfl ?_
  refine x_T_aload_nk rfl rfl rfl ?_
  refine x_T_sclen rfl rfl ?_
  refine x_T_iconst (v := 3) rfl (by decide) rfl ?_
  refine x_T_isub rfl rfl ?_
  have h4 : L = 0 ∨ L = 1 ∨ L = 2 ∨ L = 3 := by omega
  rcases h4 with rfl | rfl | rfl | rfl
  · refine x_T_ic (pc2 := 365) (pc3 := 26) rfl (by decide) rfl (fun _ => ?_) (fun hc => absurd (show x_cc .gt (0 : Int32) (Int32.ofNat 0 - 3) = true by decide) hc)
    refine x_T_iconst (v := 1) rfl (by decide) rfl ?_
    refine x_T_zret rfl rfl (by decide) ?_
    exact ⟨rfl, z_d_n⟩
  · refine x_T_ic (pc2 := 365) (pc3 := 26) rfl (by decide) rfl (fun _ => ?_) (fun hc => absurd (show x_cc .gt (0 : Int32) (Int32.ofNat 1 - 3) = true by decide) hc)
    refine x_T_iconst (v := 1) rfl (by decide) rfl ?_
    refine x_T_zret rfl rfl (by decide) ?_
    exact ⟨rfl, z_d_n⟩
  · refine x_T_ic (pc2 := 365) (pc3 := 26) rfl (by decide) rfl (fun _ => ?_) (fun hc => absurd (show x_cc .gt (0 : Int32) (Int32.ofNat 2 - 3) = true by decide) hc)
    refine x_T_iconst (v := 1) rfl (by decide) rfl ?_
    refine x_T_zret rfl rfl (by decide) ?_
    exact ⟨rfl, z_d_n⟩
  · refine x_T_ic (pc2 := 365) (pc3 := 26) rfl (by decide) rfl (fun hc => absurd hc (show ¬ x_cc .gt (0 : Int32) (Int32.ofNat 3 - 3) = true by decide)) (fun _ => ?_)
    exact z_loop xs
