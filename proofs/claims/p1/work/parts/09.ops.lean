/-! One call on fresh objects: class and reference answer alike. -/
theorem z_fin (xs : Nat → Int32) (h : x_H) (hs : h.2.1 ≤ x_cmax ∧ h.2.2 ≤ x_smax) : x_T (some (3, xs)) 9 0 359 z_lv [] h z_Q := by
  refine x_T_iinc (v := 3) rfl rfl (by decide) (by decide) rfl ?_
  refine x_T_goto (pc2 := 18) rfl (by decide) ?_
  refine x_T_iload_n rfl rfl rfl ?_
  refine x_T_aload_nk rfl rfl rfl ?_
  refine x_T_sclen rfl rfl ?_
  refine x_T_iconst (v := 3) rfl (by decide) rfl ?_
  refine x_T_isub rfl rfl ?_
  refine x_T_ic (pc2 := 365) (pc3 := 26) rfl (by decide) rfl (fun _ => ?_) (fun hc => absurd (show x_cc .gt ((0 : Int32) + 3) (Int32.ofNat 3 - 3) = true by decide) hc)
  refine x_T_iconst (v := 1) rfl (by decide) rfl ?_
  refine x_T_zret rfl rfl (by decide) ?_
  exact ⟨rfl, hs⟩
set_option maxHeartbeats 4000000 in
theorem z_op0 (xs : Nat → Int32) : x_T (some (3, xs)) 9 0 100 z_lv [] z_d z_Q := by
  by_cases h1 : x_cc .lt (xs 1) 0 = true
  · refine x_T_aload_n rfl rfl rfl ?_
    refine x_T_aload_nk rfl rfl rfl ?_
    refine x_T_iload_n rfl rfl rfl ?_
    refine x_T_iconst (v := 1) rfl (by decide) rfl ?_
    refine x_T_iadd rfl rfl ?_
    refine x_T_scld (v := xs 1) rfl rfl rfl rfl ?_
    refine x_T_cv (as := [.int (xs 1)]) (r := []) rfl rfl rfl rfl zg_0 (Nat.le_of_ble_eq_true rfl) (Nat.le_of_ble_eq_true rfl) ?_
    refine x_T_iload_n rfl rfl rfl ?_
    refine x_T_cs (as := [.int (xs 1)]) (r := []) rfl rfl rfl rfl (Nat.le_of_ble_eq_true rfl) (Nat.le_of_ble_eq_true rfl) ?_
    refine x_T_iload_n rfl rfl rfl ?_
    refine x_T_if (pc2 := 13) (pc3 := 4) rfl (by decide) rfl (fun _ => ?_) (fun hc => absurd h1 hc)
    refine x_T_iconst (v := 0) rfl (by decide) rfl ?_
    refine x_T_zret rfl rfl (by decide) ?_
    show x_T _ _ 2 4 _ [.int 0] _ _
    refine x_T_if (pc2 := 9) (pc3 := 7) rfl (by decide) rfl (fun hc => absurd hc (by decide)) (fun _ => ?_)
    refine x_T_iconst (v := 0) rfl (by decide) rfl ?_
    refine x_T_zret rfl rfl (by decide) ?_
    show x_T _ _ 0 109 _ [.int 0] _ _
    refine x_T_aload_n rfl rfl rfl ?_
    refine x_T_aload_nk rfl rfl rfl ?_
    refine x_T_iload_n rfl rfl rfl ?_
    refine x_T_iconst (v := 1) rfl (by decide) rfl ?_
    refine x_T_iadd rfl rfl ?_
    refine x_T_scld (v := xs 1) rfl rfl rfl rfl ?_
    refine x_T_cv (as := [.int (xs 1)]) (r := [.int 0]) rfl rfl rfl rfl zg_249 (Nat.le_of_ble_eq_true rfl) (Nat.le_of_ble_eq_true rfl) ?_
    refine x_T_iload_n rfl rfl rfl ?_
    refine x_T_if (pc2 := 9) (pc3 := 4) rfl (by decide) rfl (fun _ => ?_) (fun hc => absurd h1 hc)
    refine x_T_iconst (v := 0) rfl (by decide) rfl ?_
    refine x_T_zret rfl rfl (by decide) ?_
    show x_T _ _ 0 118 _ [.int 0, .int 0] _ _
    refine x_T_ic (pc2 := 359) (pc3 := 121) rfl (by decide) rfl (fun _ => ?_) (fun hc => absurd (by decide) hc)
    exact z_fin xs _ z_d_n
  · by_cases h2 : x_cc .le (xs 1) 2 = true
    · rcases z_three h1 h2 with hx | hx | hx
      · refine x_T_aload_n rfl rfl rfl ?_
        refine x_T_aload_nk rfl rfl rfl ?_
        refine x_T_iload_n rfl rfl rfl ?_
        refine x_T_iconst (v := 1) rfl (by decide) rfl ?_
        refine x_T_iadd rfl rfl ?_
        refine x_T_scld (v := 0) rfl rfl hx rfl ?_
        obtain ⟨y1, fM, y2, q1, gM, q2, hs⟩ := z_two zt_choose0
        refine x_T_cv (as := [.int 0]) (r := []) rfl rfl rfl rfl zg_0 (Nat.le_of_ble_eq_true rfl) (Nat.le_of_ble_eq_true rfl) ?_
        refine x_T_none ⟨_, _, _, q1, ?_⟩
        show x_T _ _ 0 109 _ [.int 1] y1 _
        refine x_T_aload_n rfl rfl rfl ?_
        refine x_T_aload_nk rfl rfl rfl ?_
        refine x_T_iload_n rfl rfl rfl ?_
        refine x_T_iconst (v := 1) rfl (by decide) rfl ?_
        refine x_T_iadd rfl rfl ?_
        refine x_T_scld (v := 0) rfl rfl hx rfl ?_
        refine x_T_cv (as := [.int 0]) (r := [.int 1]) rfl rfl rfl rfl gM (Nat.le_of_ble_eq_true rfl) (Nat.le_of_ble_eq_true rfl) ?_
        refine x_T_none ⟨_, _, _, q2, ?_⟩
        show x_T _ _ 0 118 _ [.int 1, .int 1] y2 _
        refine x_T_ic (pc2 := 359) (pc3 := 121) rfl (by decide) rfl (fun _ => ?_) (fun hc => absurd (by decide) hc)
        exact z_fin xs _ hs
      · refine x_T_aload_n rfl rfl rfl ?_
        refine x_T_aload_nk rfl rfl rfl ?_
        refine x_T_iload_n rfl rfl rfl ?_
        refine x_T_iconst (v := 1) rfl (by decide) rfl ?_
        refine x_T_iadd rfl rfl ?_
        refine x_T_scld (v := 1) rfl rfl hx rfl ?_
        obtain ⟨y1, fM, y2, q1, gM, q2, hs⟩ := z_two zt_choose1
        refine x_T_cv (as := [.int 1]) (r := []) rfl rfl rfl rfl zg_0 (Nat.le_of_ble_eq_true rfl) (Nat.le_of_ble_eq_true rfl) ?_
        refine x_T_none ⟨_, _, _, q1, ?_⟩
        show x_T _ _ 0 109 _ [.int 1] y1 _
        refine x_T_aload_n rfl rfl rfl ?_
        refine x_T_aload_nk rfl rfl rfl ?_
        refine x_T_iload_n rfl rfl rfl ?_
        refine x_T_iconst (v := 1) rfl (by decide) rfl ?_
        refine x_T_iadd rfl rfl ?_
        refine x_T_scld (v := 1) rfl rfl hx rfl ?_
        refine x_T_cv (as := [.int 1]) (r := [.int 1]) rfl rfl rfl rfl gM (Nat.le_of_ble_eq_true rfl) (Nat.le_of_ble_eq_true rfl) ?_
        refine x_T_none ⟨_, _, _, q2, ?_⟩
        show x_T _ _ 0 118 _ [.int 1, .int 1] y2 _
        refine x_T_ic (pc2 := 359) (pc3 := 121) rfl (by decide) rfl (fun _ => ?_) (fun hc => absurd (by decide) hc)
        exact z_fin xs _ hs
      · refine x_T_aload_n rfl rfl rfl ?_
        refine x_T_aload_nk rfl rfl rfl ?_
        refine x_T_iload_n rfl rfl rfl ?_
        refine x_T_iconst (v := 1) rfl (by decide) rfl ?_
        refine x_T_iadd rfl rfl ?_
        refine x_T_scld (v := 2) rfl rfl hx rfl ?_
        obtain ⟨y1, fM, y2, q1, gM, q2, hs⟩ := z_two zt_choose2
        refine x_T_cv (as := [.int 2]) (r := []) rfl rfl rfl rfl zg_0 (Nat.le_of_ble_eq_true rfl) (Nat.le_of_ble_eq_true rfl) ?_
        refine x_T_none ⟨_, _, _, q1, ?_⟩
        show x_T _ _ 0 109 _ [.int 1] y1 _
        refine x_T_aload_n rfl rfl rfl ?_
        refine x_T_aload_nk rfl rfl rfl ?_
        refine x_T_iload_n rfl rfl rfl ?_
        refine x_T_iconst (v := 1) rfl (by decide) rfl ?_
        refine x_T_iadd rfl rfl ?_
        refine x_T_scld (v := 2) rfl rfl hx rfl ?_
        refine x_T_cv (as := [.int 2]) (r := [.int 1]) rfl rfl rfl rfl gM (Nat.le_of_ble_eq_true rfl) (Nat.le_of_ble_eq_true rfl) ?_
        refine x_T_none ⟨_, _, _, q2, ?_⟩
        show x_T _ _ 0 118 _ [.int 1, .int 1] y2 _
        refine x_T_ic (pc2 := 359) (pc3 := 121) rfl (by decide) rfl (fun _ => ?_) (fun hc => absurd (by decide) hc)
        exact z_fin xs _ hs
    · have h3 := z_le2.mpr h2
      refine x_T_aload_n rfl rfl rfl ?_
      refine x_T_aload_nk rfl rfl rfl ?_
      refine x_T_iload_n rfl rfl rfl ?_
      refine x_T_iconst (v := 1) rfl (by decide) rfl ?_
      refine x_T_iadd rfl rfl ?_
      refine x_T_scld (v := xs 1) rfl rfl rfl rfl ?_
      refine x_T_cv (as := [.int (xs 1)]) (r := []) rfl rfl rfl rfl zg_0 (Nat.le_of_ble_eq_true rfl) (Nat.le_of_ble_eq_true rfl) ?_
      refine x_T_iload_n rfl rfl rfl ?_
      refine x_T_cs (as := [.int (xs 1)]) (r := []) rfl rfl rfl rfl (Nat.le_of_ble_eq_true rfl) (Nat.le_of_ble_eq_true rfl) ?_
      refine x_T_iload_n rfl rfl rfl ?_
      refine x_T_if (pc2 := 13) (pc3 := 4) rfl (by decide) rfl (fun hc => absurd hc h1) (fun _ => ?_)
      refine x_T_iload_n rfl rfl rfl ?_
      refine x_T_iconst (v := 3) rfl (by decide) rfl ?_
      refine x_T_ic (pc2 := 13) (pc3 := 9) rfl (by decide) rfl (fun _ => ?_) (fun hc => absurd h3 hc)
      refine x_T_iconst (v := 0) rfl (by decide) rfl ?_
      refine x_T_zret rfl rfl (by decide) ?_
      show x_T _ _ 2 4 _ [.int 0] _ _
      refine x_T_if (pc2 := 9) (pc3 := 7) rfl (by decide) rfl (fun hc => absurd hc (by decide)) (fun _ => ?_)
      refine x_T_iconst (v := 0) rfl (by decide) rfl ?_
      refine x_T_zret rfl rfl (by decide) ?_
      show x_T _ _ 0 109 _ [.int 0] _ _
      refine x_T_aload_n rfl rfl rfl ?_
      refine x_T_aload_nk rfl rfl rfl ?_
      refine x_T_iload_n rfl rfl rfl ?_
      refine x_T_iconst (v := 1) rfl (by decide) rfl ?_
      refine x_T_iadd rfl rfl ?_
      refine x_T_scld (v := xs 1) rfl rfl rfl rfl ?_
      refine x_T_cv (as := [.int (xs 1)]) (r := [.int 0]) rfl rfl rfl rfl zg_249 (Nat.le_of_ble_eq_true rfl) (Nat.le_of_ble_eq_true rfl) ?_
      refine x_T_iload_n rfl rfl rfl ?_
      refine x_T_if (pc2 := 9) (pc3 := 4) rfl (by decide) rfl (fun hc => absurd hc h1) (fun _ => ?_)
      refine x_T_iload_n rfl rfl rfl ?_
      refine x_T_iconst (v := 2) rfl (by decide) rfl ?_
      refine x_T_ic (pc2 := 11) (pc3 := 9) rfl (by decide) rfl (fun hc => absurd hc h2) (fun _ => ?_)
      refine x_T_iconst (v := 0) rfl (by decide) rfl ?_
      refine x_T_zret rfl rfl (by decide) ?_
      show x_T _ _ 0 118 _ [.int 0, .int 0] _ _
      refine x_T_ic (pc2 := 359) (pc3 := 121) rfl (by decide) rfl (fun _ => ?_) (fun hc => absurd (by decide) hc)
      exact z_fin xs _ z_d_n
set_option maxHeartbeats 4000000 in
theorem z_op3 (xs : Nat → Int32) : x_T (some (3, xs)) 9 0 159 z_lv [] z_d z_Q := by
  by_cases h1 : x_cc .lt (xs 1) 0 = true
  · refine x_T_aload_n rfl rfl rfl ?_
    refine x_T_aload_nk rfl rfl rfl ?_
    refine x_T_iload_n rfl rfl rfl ?_
    refine x_T_iconst (v := 1) rfl (by decide) rfl ?_
    refine x_T_iadd rfl rfl ?_
    refine x_T_scld (v := xs 1) rfl rfl rfl rfl ?_
    refine x_T_cv (as := [.int (xs 1)]) (r := []) rfl rfl rfl rfl zg_0 (Nat.le_of_ble_eq_true rfl) (Nat.le_of_ble_eq_true rfl) ?_
    refine x_T_iload_n rfl rfl rfl ?_
    refine x_T_cs (as := [.int (xs 1)]) (r := []) rfl rfl rfl rfl (Nat.le_of_ble_eq_true rfl) (Nat.le_of_ble_eq_true rfl) ?_
    refine x_T_iload_n rfl rfl rfl ?_
    refine x_T_if (pc2 := 13) (pc3 := 4) rfl (by decide) rfl (fun _ => ?_) (fun hc => absurd h1 hc)
    refine x_T_iconst (v := 0) rfl (by decide) rfl ?_
    refine x_T_zret rfl rfl (by decide) ?_
    show x_T _ _ 5 4 _ [.int 0] _ _
    refine x_T_if (pc2 := 19) (pc3 := 7) rfl (by decide) rfl (fun _ => ?_) (fun hc => absurd (by decide) hc)
    refine x_T_iconst (v := (-1)) rfl (by decide) rfl ?_
    refine x_T_iret rfl rfl ?_
    show x_T _ _ 0 168 _ [.int ((-1))] _ _
    refine x_T_aload_n rfl rfl rfl ?_
    refine x_T_aload_nk rfl rfl rfl ?_
    refine x_T_iload_n rfl rfl rfl ?_
    refine x_T_iconst (v := 1) rfl (by decide) rfl ?_
    refine x_T_iadd rfl rfl ?_
    refine x_T_scld (v := xs 1) rfl rfl rfl rfl ?_
    refine x_T_cv (as := [.int (xs 1)]) (r := [.int ((-1))]) rfl rfl rfl rfl zg_249 (Nat.le_of_ble_eq_true rfl) (Nat.le_of_ble_eq_true rfl) ?_
    refine x_T_iload_n rfl rfl rfl ?_
    refine x_T_if (pc2 := 9) (pc3 := 4) rfl (by decide) rfl (fun _ => ?_) (fun hc => absurd h1 hc)
    refine x_T_iconst (v := (-1)) rfl (by decide) rfl ?_
    refine x_T_goto (pc2 := 19) rfl (by decide) ?_
    refine x_T_iret rfl rfl ?_
    show x_T _ _ 0 177 _ [.int ((-1)), .int ((-1))] _ _
    refine x_T_ic (pc2 := 359) (pc3 := 180) rfl (by decide) rfl (fun _ => ?_) (fun hc => absurd (by decide) hc)
    exact z_fin xs _ z_d_n
  · by_cases h2 : x_cc .le (xs 1) 2 = true
    · rcases z_three h1 h2 with hx | hx | hx
      · refine x_T_aload_n rfl rfl rfl ?_
        refine x_T_aload_nk rfl rfl rfl ?_
        refine x_T_iload_n rfl rfl rfl ?_
        refine x_T_iconst (v := 1) rfl (by decide) rfl ?_
        refine x_T_iadd rfl rfl ?_
        refine x_T_scld (v := 0) rfl rfl hx rfl ?_
        obtain ⟨y1, fM, y2, q1, gM, q2, hs⟩ := z_two zt_length0
        refine x_T_cv (as := [.int 0]) (r := []) rfl rfl rfl rfl zg_0 (Nat.le_of_ble_eq_true rfl) (Nat.le_of_ble_eq_true rfl) ?_
        refine x_T_none ⟨_, _, _, q1, ?_⟩
        show x_T _ _ 0 168 _ [.int 0] y1 _
        refine x_T_aload_n rfl rfl rfl ?_
        refine x_T_aload_nk rfl rfl rfl ?_
        refine x_T_iload_n rfl rfl rfl ?_
        refine x_T_iconst (v := 1) rfl (by decide) rfl ?_
        refine x_T_iadd rfl rfl ?_
        refine x_T_scld (v := 0) rfl rfl hx rfl ?_
        refine x_T_cv (as := [.int 0]) (r := [.int 0]) rfl rfl rfl rfl gM (Nat.le_of_ble_eq_true rfl) (Nat.le_of_ble_eq_true rfl) ?_
        refine x_T_none ⟨_, _, _, q2, ?_⟩
        show x_T _ _ 0 177 _ [.int 0, .int 0] y2 _
        refine x_T_ic (pc2 := 359) (pc3 := 180) rfl (by decide) rfl (fun _ => ?_) (fun hc => absurd (by decide) hc)
        exact z_fin xs _ hs
      · refine x_T_aload_n rfl rfl rfl ?_
        refine x_T_aload_nk rfl rfl rfl ?_
        refine x_T_iload_n rfl rfl rfl ?_
        refine x_T_iconst (v := 1) rfl (by decide) rfl ?_
        refine x_T_iadd rfl rfl ?_
        refine x_T_scld (v := 1) rfl rfl hx rfl ?_
        obtain ⟨y1, fM, y2, q1, gM, q2, hs⟩ := z_two zt_length1
        refine x_T_cv (as := [.int 1]) (r := []) rfl rfl rfl rfl zg_0 (Nat.le_of_ble_eq_true rfl) (Nat.le_of_ble_eq_true rfl) ?_
        refine x_T_none ⟨_, _, _, q1, ?_⟩
        show x_T _ _ 0 168 _ [.int 0] y1 _
        refine x_T_aload_n rfl rfl rfl ?_
        refine x_T_aload_nk rfl rfl rfl ?_
        refine x_T_iload_n rfl rfl rfl ?_
        refine x_T_iconst (v := 1) rfl (by decide) rfl ?_
        refine x_T_iadd rfl rfl ?_
        refine x_T_scld (v := 1) rfl rfl hx rfl ?_
        refine x_T_cv (as := [.int 1]) (r := [.int 0]) rfl rfl rfl rfl gM (Nat.le_of_ble_eq_true rfl) (Nat.le_of_ble_eq_true rfl) ?_
        refine x_T_none ⟨_, _, _, q2, ?_⟩
        show x_T _ _ 0 177 _ [.int 0, .int 0] y2 _
        refine x_T_ic (pc2 := 359) (pc3 := 180) rfl (by decide) rfl (fun _ => ?_) (fun hc => absurd (by decide) hc)
        exact z_fin xs _ hs
      · refine x_T_aload_n rfl rfl rfl ?_
        refine x_T_aload_nk rfl rfl rfl ?_
        refine x_T_iload_n rfl rfl rfl ?_
        refine x_T_iconst (v := 1) rfl (by decide) rfl ?_
        refine x_T_iadd rfl rfl ?_
        refine x_T_scld (v := 2) rfl rfl hx rfl ?_
        obtain ⟨y1, fM, y2, q1, gM, q2, hs⟩ := z_two zt_length2
        refine x_T_cv (as := [.int 2]) (r := []) rfl rfl rfl rfl zg_0 (Nat.le_of_ble_eq_true rfl) (Nat.le_of_ble_eq_true rfl) ?_
        refine x_T_none ⟨_, _, _, q1, ?_⟩
        show x_T _ _ 0 168 _ [.int 0] y1 _
        refine x_T_aload_n rfl rfl rfl ?_
        refine x_T_aload_nk rfl rfl rfl ?_
        refine x_T_iload_n rfl rfl rfl ?_
        refine x_T_iconst (v := 1) rfl (by decide) rfl ?_
        refine x_T_iadd rfl rfl ?_
        refine x_T_scld (v := 2) rfl rfl hx rfl ?_
        refine x_T_cv (as := [.int 2]) (r := [.int 0]) rfl rfl rfl rfl gM (Nat.le_of_ble_eq_true rfl) (Nat.le_of_ble_eq_true rfl) ?_
        refine x_T_none ⟨_, _, _, q2, ?_⟩
        show x_T _ _ 0 177 _ [.int 0, .int 0] y2 _
        refine x_T_ic (pc2 := 359) (pc3 := 180) rfl (by decide) rfl (fun _ => ?_) (fun hc => absurd (by decide) hc)
        exact z_fin xs _ hs
    · have h3 := z_le2.mpr h2
      refine x_T_aload_n rfl rfl rfl ?_
      refine x_T_aload_nk rfl rfl rfl ?_
      refine x_T_iload_n rfl rfl rfl ?_
      refine x_T_iconst (v := 1) rfl (by decide) rfl ?_
      refine x_T_iadd rfl rfl ?_
      refine x_T_scld (v := xs 1) rfl rfl rfl rfl ?_
      refine x_T_cv (as := [.int (xs 1)]) (r := []) rfl rfl rfl rfl zg_0 (Nat.le_of_ble_eq_true rfl) (Nat.le_of_ble_eq_true rfl) ?_
      refine x_T_iload_n rfl rfl rfl ?_
      refine x_T_cs (as := [.int (xs 1)]) (r := []) rfl rfl rfl rfl (Nat.le_of_ble_eq_true rfl) (Nat.le_of_ble_eq_true rfl) ?_
      refine x_T_iload_n rfl rfl rfl ?_
      refine x_T_if (pc2 := 13) (pc3 := 4) rfl (by decide) rfl (fun hc => absurd hc h1) (fun _ => ?_)
      refine x_T_iload_n rfl rfl rfl ?_
      refine x_T_iconst (v := 3) rfl (by decide) rfl ?_
      refine x_T_ic (pc2 := 13) (pc3 := 9) rfl (by decide) rfl (fun _ => ?_) (fun hc => absurd h3 hc)
      refine x_T_iconst (v := 0) rfl (by decide) rfl ?_
      refine x_T_zret rfl rfl (by decide) ?_
      show x_T _ _ 5 4 _ [.int 0] _ _
      refine x_T_if (pc2 := 19) (pc3 := 7) rfl (by decide) rfl (fun _ => ?_) (fun hc => absurd (by decide) hc)
      refine x_T_iconst (v := (-1)) rfl (by decide) rfl ?_
      refine x_T_iret rfl rfl ?_
      show x_T _ _ 0 168 _ [.int ((-1))] _ _
      refine x_T_aload_n rfl rfl rfl ?_
      refine x_T_aload_nk rfl rfl rfl ?_
      refine x_T_iload_n rfl rfl rfl ?_
      refine x_T_iconst (v := 1) rfl (by decide) rfl ?_
      refine x_T_iadd rfl rfl ?_
      refine x_T_scld (v := xs 1) rfl rfl rfl rfl ?_
      refine x_T_cv (as := [.int (xs 1)]) (r := [.int ((-1))]) rfl rfl rfl rfl zg_249 (Nat.le_of_ble_eq_true rfl) (Nat.le_of_ble_eq_true rfl) ?_
      refine x_T_iload_n rfl rfl rfl ?_
      refine x_T_if (pc2 := 9) (pc3 := 4) rfl (by decide) rfl (fun hc => absurd hc h1) (fun _ => ?_)
      refine x_T_iload_n rfl rfl rfl ?_
      refine x_T_iconst (v := 2) rfl (by decide) rfl ?_
      refine x_T_ic (pc2 := 13) (pc3 := 9) rfl (by decide) rfl (fun hc => absurd hc h2) (fun _ => ?_)
      refine x_T_iconst (v := (-1)) rfl (by decide) rfl ?_
      refine x_T_goto (pc2 := 19) rfl (by decide) ?_
      refine x_T_iret rfl rfl ?_
      show x_T _ _ 0 177 _ [.int ((-1)), .int ((-1))] _ _
      refine x_T_ic (pc2 := 359) (pc3 := 180) rfl (by decide) rfl (fun _ => ?_) (fun hc => absurd (by decide) hc)
      exact z_fin xs _ z_d_n
set_option maxHeartbeats 4000000 in
theorem z_op4 (xs : Nat → Int32) : x_T (some (3, xs)) 9 0 182 z_lv [] z_d z_Q := by
  by_cases h1 : x_cc .lt (xs 1) 0 = true
  · refine x_T_aload_n rfl rfl rfl ?_
    refine x_T_aload_nk rfl rfl rfl ?_
    refine x_T_iload_n rfl rfl rfl ?_
    refine x_T_iconst (v := 1) rfl (by decide) rfl ?_
    refine x_T_iadd rfl rfl ?_
    refine x_T_scld (v := xs 1) rfl rfl rfl rfl ?_
    refine x_T_cv (as := [.int (xs 1)]) (r := []) rfl rfl rfl rfl zg_0 (Nat.le_of_ble_eq_true rfl) (Nat.le_of_ble_eq_true rfl) ?_
    refine x_T_iload_n rfl rfl rfl ?_
    refine x_T_cs (as := [.int (xs 1)]) (r := []) rfl rfl rfl rfl (Nat.le_of_ble_eq_true rfl) (Nat.le_of_ble_eq_true rfl) ?_
    refine x_T_iload_n rfl rfl rfl ?_
    refine x_T_if (pc2 := 13) (pc3 := 4) rfl (by decide) rfl (fun _ => ?_) (fun hc => absurd h1 hc)
    refine x_T_iconst (v := 0) rfl (by decide) rfl ?_
    refine x_T_zret rfl rfl (by decide) ?_
    show x_T _ _ 6 4 _ [.int 0] _ _
    refine x_T_if (pc2 := 9) (pc3 := 7) rfl (by decide) rfl (fun hc => absurd hc (by decide)) (fun _ => ?_)
    refine x_T_iconst (v := (-1)) rfl (by decide) rfl ?_
    refine x_T_iret rfl rfl ?_
    show x_T _ _ 0 191 _ [.int ((-1))] _ _
    refine x_T_aload_n rfl rfl rfl ?_
    refine x_T_aload_nk rfl rfl rfl ?_
    refine x_T_iload_n rfl rfl rfl ?_
    refine x_T_iconst (v := 1) rfl (by decide) rfl ?_
    refine x_T_iadd rfl rfl ?_
    refine x_T_scld (v := xs 1) rfl rfl rfl rfl ?_
    refine x_T_cv (as := [.int (xs 1)]) (r := [.int ((-1))]) rfl rfl rfl rfl zg_249 (Nat.le_of_ble_eq_true rfl) (Nat.le_of_ble_eq_true rfl) ?_
    refine x_T_iload_n rfl rfl rfl ?_
    refine x_T_if (pc2 := 9) (pc3 := 4) rfl (by decide) rfl (fun _ => ?_) (fun hc => absurd h1 hc)
    refine x_T_iconst (v := (-1)) rfl (by decide) rfl ?_
    refine x_T_iret rfl rfl ?_
    show x_T _ _ 0 200 _ [.int ((-1)), .int ((-1))] _ _
    refine x_T_ic (pc2 := 359) (pc3 := 203) rfl (by decide) rfl (fun _ => ?_) (fun hc => absurd (by decide) hc)
    exact z_fin xs _ z_d_n
  · by_cases h2 : x_cc .le (xs 1) 2 = true
    · rcases z_three h1 h2 with hx | hx | hx
      · refine x_T_aload_n rfl rfl rfl ?_
        refine x_T_aload_nk rfl rfl rfl ?_
        refine x_T_iload_n rfl rfl rfl ?_
        refine x_T_iconst (v := 1) rfl (by decide) rfl ?_
        refine x_T_iadd rfl rfl ?_
        refine x_T_scld (v := 0) rfl rfl hx rfl ?_
        obtain ⟨y1, fM, y2, q1, gM, q2, hs⟩ := z_two zt_translate0
        refine x_T_cv (as := [.int 0]) (r := []) rfl rfl rfl rfl zg_0 (Nat.le_of_ble_eq_true rfl) (Nat.le_of_ble_eq_true rfl) ?_
        refine x_T_none ⟨_, _, _, q1, ?_⟩
        show x_T _ _ 0 191 _ [.int 0] y1 _
        refine x_T_aload_n rfl rfl rfl ?_
        refine x_T_aload_nk rfl rfl rfl ?_
        refine x_T_iload_n rfl rfl rfl ?_
        refine x_T_iconst (v := 1) rfl (by decide) rfl ?_
        refine x_T_iadd rfl rfl ?_
        refine x_T_scld (v := 0) rfl rfl hx rfl ?_
        refine x_T_cv (as := [.int 0]) (r := [.int 0]) rfl rfl rfl rfl gM (Nat.le_of_ble_eq_true rfl) (Nat.le_of_ble_eq_true rfl) ?_
        refine x_T_none ⟨_, _, _, q2, ?_⟩
        show x_T _ _ 0 200 _ [.int 0, .int 0] y2 _
        refine x_T_ic (pc2 := 359) (pc3 := 203) rfl (by decide) rfl (fun _ => ?_) (fun hc => absurd (by decide) hc)
        exact z_fin xs _ hs
      · refine x_T_aload_n rfl rfl rfl ?_
        refine x_T_aload_nk rfl rfl rfl ?_
        refine x_T_iload_n rfl rfl rfl ?_
        refine x_T_iconst (v := 1) rfl (by decide) rfl ?_
        refine x_T_iadd rfl rfl ?_
        refine x_T_scld (v := 1) rfl rfl hx rfl ?_
        obtain ⟨y1, fM, y2, q1, gM, q2, hs⟩ := z_two zt_translate1
        refine x_T_cv (as := [.int 1]) (r := []) rfl rfl rfl rfl zg_0 (Nat.le_of_ble_eq_true rfl) (Nat.le_of_ble_eq_true rfl) ?_
        refine x_T_none ⟨_, _, _, q1, ?_⟩
        show x_T _ _ 0 191 _ [.int 0] y1 _
        refine x_T_aload_n rfl rfl rfl ?_
        refine x_T_aload_nk rfl rfl rfl ?_
        refine x_T_iload_n rfl rfl rfl ?_
        refine x_T_iconst (v := 1) rfl (by decide) rfl ?_
        refine x_T_iadd rfl rfl ?_
        refine x_T_scld (v := 1) rfl rfl hx rfl ?_
        refine x_T_cv (as := [.int 1]) (r := [.int 0]) rfl rfl rfl rfl gM (Nat.le_of_ble_eq_true rfl) (Nat.le_of_ble_eq_true rfl) ?_
        refine x_T_none ⟨_, _, _, q2, ?_⟩
        show x_T _ _ 0 200 _ [.int 0, .int 0] y2 _
        refine x_T_ic (pc2 := 359) (pc3 := 203) rfl (by decide) rfl (fun _ => ?_) (fun hc => absurd (by decide) hc)
        exact z_fin xs _ hs
      · refine x_T_aload_n rfl rfl rfl ?_
        refine x_T_aload_nk rfl rfl rfl ?_
        refine x_T_iload_n rfl rfl rfl ?_
        refine x_T_iconst (v := 1) rfl (by decide) rfl ?_
        refine x_T_iadd rfl rfl ?_
        refine x_T_scld (v := 2) rfl rfl hx rfl ?_
        obtain ⟨y1, fM, y2, q1, gM, q2, hs⟩ := z_two zt_translate2
        refine x_T_cv (as := [.int 2]) (r := []) rfl rfl rfl rfl zg_0 (Nat.le_of_ble_eq_true rfl) (Nat.le_of_ble_eq_true rfl) ?_
        refine x_T_none ⟨_, _, _, q1, ?_⟩
        show x_T _ _ 0 191 _ [.int 0] y1 _
        refine x_T_aload_n rfl rfl rfl ?_
        refine x_T_aload_nk rfl rfl rfl ?_
        refine x_T_iload_n rfl rfl rfl ?_
        refine x_T_iconst (v := 1) rfl (by decide) rfl ?_
        refine x_T_iadd rfl rfl ?_
        refine x_T_scld (v := 2) rfl rfl hx rfl ?_
        refine x_T_cv (as := [.int 2]) (r := [.int 0]) rfl rfl rfl rfl gM (Nat.le_of_ble_eq_true rfl) (Nat.le_of_ble_eq_true rfl) ?_
        refine x_T_none ⟨_, _, _, q2, ?_⟩
        show x_T _ _ 0 200 _ [.int 0, .int 0] y2 _
        refine x_T_ic (pc2 := 359) (pc3 := 203) rfl (by decide) rfl (fun _ => ?_) (fun hc => absurd (by decide) hc)
        exact z_fin xs _ hs
    · have h3 := z_le2.mpr h2
      refine x_T_aload_n rfl rfl rfl ?_
      refine x_T_aload_nk rfl rfl rfl ?_
      refine x_T_iload_n rfl rfl rfl ?_
      refine x_T_iconst (v := 1) rfl (by decide) rfl ?_
      refine x_T_iadd rfl rfl ?_
      refine x_T_scld (v := xs 1) rfl rfl rfl rfl ?_
      refine x_T_cv (as := [.int (xs 1)]) (r := []) rfl rfl rfl rfl zg_0 (Nat.le_of_ble_eq_true rfl) (Nat.le_of_ble_eq_true rfl) ?_
      refine x_T_iload_n rfl rfl rfl ?_
      refine x_T_cs (as := [.int (xs 1)]) (r := []) rfl rfl rfl rfl (Nat.le_of_ble_eq_true rfl) (Nat.le_of_ble_eq_true rfl) ?_
      refine x_T_iload_n rfl rfl rfl ?_
      refine x_T_if (pc2 := 13) (pc3 := 4) rfl (by decide) rfl (fun hc => absurd hc h1) (fun _ => ?_)
      refine x_T_iload_n rfl rfl rfl ?_
      refine x_T_iconst (v := 3) rfl (by decide) rfl ?_
      refine x_T_ic (pc2 := 13) (pc3 := 9) rfl (by decide) rfl (fun _ => ?_) (fun hc => absurd h3 hc)
      refine x_T_iconst (v := 0) rfl (by decide) rfl ?_
      refine x_T_zret rfl rfl (by decide) ?_
      show x_T _ _ 6 4 _ [.int 0] _ _
      refine x_T_if (pc2 := 9) (pc3 := 7) rfl (by decide) rfl (fun hc => absurd hc (by decide)) (fun _ => ?_)
      refine x_T_iconst (v := (-1)) rfl (by decide) rfl ?_
      refine x_T_iret rfl rfl ?_
      show x_T _ _ 0 191 _ [.int ((-1))] _ _
      refine x_T_aload_n rfl rfl rfl ?_
      refine x_T_aload_nk rfl rfl rfl ?_
      refine x_T_iload_n rfl rfl rfl ?_
      refine x_T_iconst (v := 1) rfl (by decide) rfl ?_
      refine x_T_iadd rfl rfl ?_
      refine x_T_scld (v := xs 1) rfl rfl rfl rfl ?_
      refine x_T_cv (as := [.int (xs 1)]) (r := [.int ((-1))]) rfl rfl rfl rfl zg_249 (Nat.le_of_ble_eq_true rfl) (Nat.le_of_ble_eq_true rfl) ?_
      refine x_T_iload_n rfl rfl rfl ?_
      refine x_T_if (pc2 := 9) (pc3 := 4) rfl (by decide) rfl (fun hc => absurd hc h1) (fun _ => ?_)
      refine x_T_iload_n rfl rfl rfl ?_
      refine x_T_iconst (v := 2) rfl (by decide) rfl ?_
      refine x_T_ic (pc2 := 11) (pc3 := 9) rfl (by decide) rfl (fun hc => absurd hc h2) (fun _ => ?_)
      refine x_T_iconst (v := (-1)) rfl (by decide) rfl ?_
      refine x_T_iret rfl rfl ?_
      show x_T _ _ 0 200 _ [.int ((-1)), .int ((-1))] _ _
      refine x_T_ic (pc2 := 359) (pc3 := 203) rfl (by decide) rfl (fun _ => ?_) (fun hc => absurd (by decide) hc)
      exact z_fin xs _ z_d_n
set_option maxHeartbeats 4000000 in
theorem z_op2 (xs : Nat → Int32) : x_T (some (3, xs)) 9 0 148 z_lv [] z_d z_Q := by
  refine x_T_aload_n rfl rfl rfl ?_
  obtain ⟨y1, fM, y2, q1, gM, q2, hs⟩ := z_two zt_clear
  refine x_T_cv (as := []) (r := []) rfl rfl rfl rfl zg_0 (Nat.le_of_ble_eq_true rfl) (Nat.le_of_ble_eq_true rfl) ?_
  refine x_T_none ⟨_, _, _, q1, ?_⟩
  show x_T _ _ 0 152 _ [] y1 _
  refine x_T_aload_n rfl rfl rfl ?_
  refine x_T_cv (as := []) (r := []) rfl rfl rfl rfl gM (Nat.le_of_ble_eq_true rfl) (Nat.le_of_ble_eq_true rfl) ?_
  refine x_T_none ⟨_, _, _, q2, ?_⟩
  show x_T _ _ 0 156 _ [] y2 _
  refine x_T_goto (pc2 := 359) rfl (by decide) ?_
  exact z_fin xs _ hs
set_option maxHeartbeats 4000000 in
theorem z_op5 (xs : Nat → Int32) : x_T (some (3, xs)) 9 0 205 z_lv [] z_d z_Q := by
  refine x_T_aload_n rfl rfl rfl ?_
  obtain ⟨y1, fM, y2, q1, gM, q2, hs⟩ := z_two zt_verdict
  refine x_T_cv (as := []) (r := []) rfl rfl rfl rfl zg_0 (Nat.le_of_ble_eq_true rfl) (Nat.le_of_ble_eq_true rfl) ?_
  refine x_T_none ⟨_, _, _, q1, ?_⟩
  show x_T _ _ 0 209 _ [.int 0] y1 _
  refine x_T_aload_n rfl rfl rfl ?_
  refine x_T_cv (as := []) (r := [.int 0]) rfl rfl rfl rfl gM (Nat.le_of_ble_eq_true rfl) (Nat.le_of_ble_eq_true rfl) ?_
  refine x_T_none ⟨_, _, _, q2, ?_⟩
  show x_T _ _ 0 213 _ [.int 0, .int 0] y2 _
  refine x_T_ic (pc2 := 359) (pc3 := 216) rfl (by decide) rfl (fun _ => ?_) (fun hc => absurd (by decide) hc)
  exact z_fin xs _ hs
set_option maxHeartbeats 4000000 in
theorem z_op6 (xs : Nat → Int32) : x_T (some (3, xs)) 9 0 218 z_lv [] z_d z_Q := by
  refine x_T_aload_n rfl rfl rfl ?_
  obtain ⟨y1, fM, y2, q1, gM, q2, hs⟩ := z_two zt_tokens
  refine x_T_cv (as := []) (r := []) rfl rfl rfl rfl zg_0 (Nat.le_of_ble_eq_true rfl) (Nat.le_of_ble_eq_true rfl) ?_
  refine x_T_none ⟨_, _, _, q1, ?_⟩
  show x_T _ _ 0 222 _ [.int 0] y1 _
  refine x_T_aload_n rfl rfl rfl ?_
  refine x_T_cv (as := []) (r := [.int 0]) rfl rfl rfl rfl gM (Nat.le_of_ble_eq_true rfl) (Nat.le_of_ble_eq_true rfl) ?_
  refine x_T_none ⟨_, _, _, q2, ?_⟩
  show x_T _ _ 0 226 _ [.int 0, .int 0] y2 _
  refine x_T_ic (pc2 := 359) (pc3 := 229) rfl (by decide) rfl (fun _ => ?_) (fun hc => absurd (by decide) hc)
  exact z_fin xs _ hs
set_option maxHeartbeats 4000000 in
theorem z_op9 (xs : Nat → Int32) : x_T (some (3, xs)) 9 0 287 z_lv [] z_d z_Q := by
  refine x_T_aload_n rfl rfl rfl ?_
  obtain ⟨y1, fM, y2, q1, gM, q2, hs⟩ := z_two zt_replaced
  refine x_T_cv (as := []) (r := []) rfl rfl rfl rfl zg_0 (Nat.le_of_ble_eq_true rfl) (Nat.le_of_ble_eq_true rfl) ?_
  refine x_T_none ⟨_, _, _, q1, ?_⟩
  show x_T _ _ 0 291 _ [.int 0] y1 _
  refine x_T_aload_n rfl rfl rfl ?_
  refine x_T_cv (as := []) (r := [.int 0]) rfl rfl rfl rfl gM (Nat.le_of_ble_eq_true rfl) (Nat.le_of_ble_eq_true rfl) ?_
  refine x_T_none ⟨_, _, _, q2, ?_⟩
  show x_T _ _ 0 295 _ [.int 0, .int 0] y2 _
  refine x_T_ic (pc2 := 359) (pc3 := 298) rfl (by decide) rfl (fun _ => ?_) (fun hc => absurd (by decide) hc)
  exact z_fin xs _ hs
set_option maxHeartbeats 4000000 in
theorem z_op10 (xs : Nat → Int32) : x_T (some (3, xs)) 9 0 300 z_lv [] z_d z_Q := by
  refine x_T_aload_n rfl rfl rfl ?_
  obtain ⟨y1, fM, y2, q1, gM, q2, hs⟩ := z_two zt_macros
  refine x_T_cv (as := []) (r := []) rfl rfl rfl rfl zg_0 (Nat.le_of_ble_eq_true rfl) (Nat.le_of_ble_eq_true rfl) ?_
  refine x_T_none ⟨_, _, _, q1, ?_⟩
  show x_T _ _ 0 304 _ [.int 0] y1 _
  refine x_T_aload_n rfl rfl rfl ?_
  refine x_T_cv (as := []) (r := [.int 0]) rfl rfl rfl rfl gM (Nat.le_of_ble_eq_true rfl) (Nat.le_of_ble_eq_true rfl) ?_
  refine x_T_none ⟨_, _, _, q2, ?_⟩
  show x_T _ _ 0 308 _ [.int 0, .int 0] y2 _
  refine x_T_ic (pc2 := 359) (pc3 := 311) rfl (by decide) rfl (fun _ => ?_) (fun hc => absurd (by decide) hc)
  exact z_fin xs _ hs
set_option maxHeartbeats 4000000 in
theorem z_op11 (xs : Nat → Int32) : x_T (some (3, xs)) 9 0 313 z_lv [] z_d z_Q := by
  refine x_T_aload_n rfl rfl rfl ?_
  obtain ⟨y1, fM, y2, q1, gM, q2, hs⟩ := z_two zt_nodes
  refine x_T_cv (as := []) (r := []) rfl rfl rfl rfl zg_0 (Nat.le_of_ble_eq_true rfl) (Nat.le_of_ble_eq_true rfl) ?_
  refine x_T_none ⟨_, _, _, q1, ?_⟩
  show x_T _ _ 0 317 _ [.int 1] y1 _
  refine x_T_aload_n rfl rfl rfl ?_
  refine x_T_cv (as := []) (r := [.int 1]) rfl rfl rfl rfl gM (Nat.le_of_ble_eq_true rfl) (Nat.le_of_ble_eq_true rfl) ?_
  refine x_T_none ⟨_, _, _, q2, ?_⟩
  show x_T _ _ 0 321 _ [.int 1, .int 1] y2 _
  refine x_T_ic (pc2 := 359) (pc3 := 324) rfl (by decide) rfl (fun _ => ?_) (fun hc => absurd (by decide) hc)
  exact z_fin xs _ hs
set_option maxHeartbeats 4000000 in
theorem z_op7 (xs : Nat → Int32) : x_T (some (3, xs)) 9 0 231 z_lv [] z_d z_Q := by
  by_cases h1 : x_cc .lt (xs 1) 0 = true
  · refine x_T_aload_n rfl rfl rfl ?_
    refine x_T_aload_nk rfl rfl rfl ?_
    refine x_T_iload_n rfl rfl rfl ?_
    refine x_T_iconst (v := 1) rfl (by decide) rfl ?_
    refine x_T_iadd rfl rfl ?_
    refine x_T_scld (v := xs 1) rfl rfl rfl rfl ?_
    refine x_T_cv (as := [.int (xs 1)]) (r := []) rfl rfl rfl rfl zg_0 (Nat.le_of_ble_eq_true rfl) (Nat.le_of_ble_eq_true rfl) ?_
    refine x_T_aload_n rfl rfl rfl ?_
    refine x_T_iload_n rfl rfl rfl ?_
    refine x_T_cv (as := [.int (xs 1)]) (r := []) rfl rfl rfl rfl zg_0 (Nat.le_of_ble_eq_true rfl) (Nat.le_of_ble_eq_true rfl) ?_
    refine x_T_iload_n rfl rfl rfl ?_
    refine x_T_if (pc2 := 25) (pc3 := 4) rfl (by decide) rfl (fun _ => ?_) (fun hc => absurd h1 hc)
    refine x_T_iconst (v := 0) rfl (by decide) rfl ?_
    refine x_T_zret rfl rfl (by decide) ?_
    show x_T _ _ 9 5 _ [.int 0] _ _
    refine x_T_if (pc2 := 25) (pc3 := 8) rfl (by decide) rfl (fun _ => ?_) (fun hc => absurd (by decide) hc)
    refine x_T_iconst (v := (-1)) rfl (by decide) rfl ?_
    refine x_T_iret rfl rfl ?_
    show x_T _ _ 0 240 _ [.int ((-1))] _ _
    refine x_T_aload_n rfl rfl rfl ?_
    refine x_T_aload_nk rfl rfl rfl ?_
    refine x_T_iload_n rfl rfl rfl ?_
    refine x_T_iconst (v := 1) rfl (by decide) rfl ?_
    refine x_T_iadd rfl rfl ?_
    refine x_T_scld (v := xs 1) rfl rfl rfl rfl ?_
    refine x_T_cv (as := [.int (xs 1)]) (r := [.int ((-1))]) rfl rfl rfl rfl zg_249 (Nat.le_of_ble_eq_true rfl) (Nat.le_of_ble_eq_true rfl) ?_
    refine x_T_iload_n rfl rfl rfl ?_
    refine x_T_if (pc2 := 12) (pc3 := 4) rfl (by decide) rfl (fun _ => ?_) (fun hc => absurd h1 hc)
    refine x_T_iconst (v := (-1)) rfl (by decide) rfl ?_
    refine x_T_goto (pc2 := 22) rfl (by decide) ?_
    refine x_T_iret rfl rfl ?_
    show x_T _ _ 0 249 _ [.int ((-1)), .int ((-1))] _ _
    refine x_T_ic (pc2 := 359) (pc3 := 252) rfl (by decide) rfl (fun _ => ?_) (fun hc => absurd (by decide) hc)
    exact z_fin xs _ z_d_n
  · have h2 := z_ge0.mpr h1
    refine x_T_aload_n rfl rfl rfl ?_
    refine x_T_aload_nk rfl rfl rfl ?_
    refine x_T_iload_n rfl rfl rfl ?_
    refine x_T_iconst (v := 1) rfl (by decide) rfl ?_
    refine x_T_iadd rfl rfl ?_
    refine x_T_scld (v := xs 1) rfl rfl rfl rfl ?_
    refine x_T_cv (as := [.int (xs 1)]) (r := []) rfl rfl rfl rfl zg_0 (Nat.le_of_ble_eq_true rfl) (Nat.le_of_ble_eq_true rfl) ?_
    refine x_T_aload_n rfl rfl rfl ?_
    refine x_T_iload_n rfl rfl rfl ?_
    refine x_T_cv (as := [.int (xs 1)]) (r := []) rfl rfl rfl rfl zg_0 (Nat.le_of_ble_eq_true rfl) (Nat.le_of_ble_eq_true rfl) ?_
    refine x_T_iload_n rfl rfl rfl ?_
    refine x_T_if (pc2 := 25) (pc3 := 4) rfl (by decide) rfl (fun hc => absurd hc h1) (fun _ => ?_)
    refine x_T_iload_n rfl rfl rfl ?_
    refine x_T_aload_n rfl rfl rfl ?_
    refine x_T_getf rfl rfl zg_0 rfl rfl ?_
    refine x_T_getf rfl rfl zg_2 rfl rfl ?_
    refine x_T_getf rfl rfl zg_3 rfl rfl ?_
    refine x_T_getf rfl rfl zg_30 rfl rfl ?_
    refine x_T_ic (pc2 := 25) (pc3 := 21) rfl (by decide) rfl (fun _ => ?_) (fun hc => absurd h2 hc)
    refine x_T_iconst (v := 0) rfl (by decide) rfl ?_
    refine x_T_zret rfl rfl (by decide) ?_
    show x_T _ _ 9 5 _ [.int 0] _ _
    refine x_T_if (pc2 := 25) (pc3 := 8) rfl (by decide) rfl (fun _ => ?_) (fun hc => absurd (by decide) hc)
    refine x_T_iconst (v := (-1)) rfl (by decide) rfl ?_
    refine x_T_iret rfl rfl ?_
    show x_T _ _ 0 240 _ [.int ((-1))] _ _
    refine x_T_aload_n rfl rfl rfl ?_
    refine x_T_aload_nk rfl rfl rfl ?_
    refine x_T_iload_n rfl rfl rfl ?_
    refine x_T_iconst (v := 1) rfl (by decide) rfl ?_
    refine x_T_iadd rfl rfl ?_
    refine x_T_scld (v := xs 1) rfl rfl rfl rfl ?_
    refine x_T_cv (as := [.int (xs 1)]) (r := [.int ((-1))]) rfl rfl rfl rfl zg_249 (Nat.le_of_ble_eq_true rfl) (Nat.le_of_ble_eq_true rfl) ?_
    refine x_T_iload_n rfl rfl rfl ?_
    refine x_T_if (pc2 := 12) (pc3 := 4) rfl (by decide) rfl (fun hc => absurd hc h1) (fun _ => ?_)
    refine x_T_iload_n rfl rfl rfl ?_
    refine x_T_aload_n rfl rfl rfl ?_
    refine x_T_getf rfl rfl zg_249 rfl rfl ?_
    refine x_T_ic (pc2 := 16) (pc3 := 12) rfl (by decide) rfl (fun hc => absurd hc h1) (fun _ => ?_)
    refine x_T_iconst (v := (-1)) rfl (by decide) rfl ?_
    refine x_T_goto (pc2 := 22) rfl (by decide) ?_
    refine x_T_iret rfl rfl ?_
    show x_T _ _ 0 249 _ [.int ((-1)), .int ((-1))] _ _
    refine x_T_ic (pc2 := 359) (pc3 := 252) rfl (by decide) rfl (fun _ => ?_) (fun hc => absurd (by decide) hc)
    exact z_fin xs _ z_d_n
set_option maxHeartbeats 4000000 in
theorem z_op8 (xs : Nat → Int32) : x_T (some (3, xs)) 9 0 254 z_lv [] z_d z_Q := by
  by_cases h1 : x_cc .lt (xs 1) 0 = true
  · refine x_T_aload_n rfl rfl rfl ?_
    refine x_T_aload_nk rfl rfl rfl ?_
    refine x_T_iload_n rfl rfl rfl ?_
    refine x_T_iconst (v := 1) rfl (by decide) rfl ?_
    refine x_T_iadd rfl rfl ?_
    refine x_T_scld (v := xs 1) rfl rfl rfl rfl ?_
    refine x_T_aload_nk rfl rfl rfl ?_
    refine x_T_iload_n rfl rfl rfl ?_
    refine x_T_iconst (v := 2) rfl (by decide) rfl ?_
    refine x_T_iadd rfl rfl ?_
    refine x_T_scld (v := xs 2) rfl rfl rfl rfl ?_
    refine x_T_cv (as := [.int (xs 1), .int (xs 2)]) (r := []) rfl rfl rfl rfl zg_0 (Nat.le_of_ble_eq_true rfl) (Nat.le_of_ble_eq_true rfl) ?_
    refine x_T_aload_n rfl rfl rfl ?_
    refine x_T_iload_n rfl rfl rfl ?_
    refine x_T_cv (as := [.int (xs 1)]) (r := []) rfl rfl rfl rfl zg_0 (Nat.le_of_ble_eq_true rfl) (Nat.le_of_ble_eq_true rfl) ?_
    refine x_T_iload_n rfl rfl rfl ?_
    refine x_T_if (pc2 := 25) (pc3 := 4) rfl (by decide) rfl (fun _ => ?_) (fun hc => absurd h1 hc)
    refine x_T_iconst (v := 0) rfl (by decide) rfl ?_
    refine x_T_zret rfl rfl (by decide) ?_
    show x_T _ _ 10 5 _ [.int 0] _ _
    refine x_T_if (pc2 := 30) (pc3 := 8) rfl (by decide) rfl (fun _ => ?_) (fun hc => absurd (by decide) hc)
    refine x_T_iconst (v := (-1)) rfl (by decide) rfl ?_
    refine x_T_iret rfl rfl ?_
    show x_T _ _ 0 268 _ [.int ((-1))] _ _
    refine x_T_aload_n rfl rfl rfl ?_
    refine x_T_aload_nk rfl rfl rfl ?_
    refine x_T_iload_n rfl rfl rfl ?_
    refine x_T_iconst (v := 1) rfl (by decide) rfl ?_
    refine x_T_iadd rfl rfl ?_
    refine x_T_scld (v := xs 1) rfl rfl rfl rfl ?_
    refine x_T_aload_nk rfl rfl rfl ?_
    refine x_T_iload_n rfl rfl rfl ?_
    refine x_T_iconst (v := 2) rfl (by decide) rfl ?_
    refine x_T_iadd rfl rfl ?_
    refine x_T_scld (v := xs 2) rfl rfl rfl rfl ?_
    refine x_T_cv (as := [.int (xs 1), .int (xs 2)]) (r := [.int ((-1))]) rfl rfl rfl rfl zg_249 (Nat.le_of_ble_eq_true rfl) (Nat.le_of_ble_eq_true rfl) ?_
    refine x_T_iload_n rfl rfl rfl ?_
    refine x_T_if (pc2 := 12) (pc3 := 4) rfl (by decide) rfl (fun _ => ?_) (fun hc => absurd h1 hc)
    refine x_T_iconst (v := (-1)) rfl (by decide) rfl ?_
    refine x_T_goto (pc2 := 26) rfl (by decide) ?_
    refine x_T_iret rfl rfl ?_
    show x_T _ _ 0 282 _ [.int ((-1)), .int ((-1))] _ _
    refine x_T_ic (pc2 := 359) (pc3 := 285) rfl (by decide) rfl (fun _ => ?_) (fun hc => absurd (by decide) hc)
    exact z_fin xs _ z_d_n
  · have h2 := z_ge0.mpr h1
    refine x_T_aload_n rfl rfl rfl ?_
    refine x_T_aload_nk rfl rfl rfl ?_
    refine x_T_iload_n rfl rfl rfl ?_
    refine x_T_iconst (v := 1) rfl (by decide) rfl ?_
    refine x_T_iadd rfl rfl ?_
    refine x_T_scld (v := xs 1) rfl rfl rfl rfl ?_
    refine x_T_aload_nk rfl rfl rfl ?_
    refine x_T_iload_n rfl rfl rfl ?_
    refine x_T_iconst (v := 2) rfl (by decide) rfl ?_
    refine x_T_iadd rfl rfl ?_
    refine x_T_scld (v := xs 2) rfl rfl rfl rfl ?_
    refine x_T_cv (as := [.int (xs 1), .int (xs 2)]) (r := []) rfl rfl rfl rfl zg_0 (Nat.le_of_ble_eq_true rfl) (Nat.le_of_ble_eq_true rfl) ?_
    refine x_T_aload_n rfl rfl rfl ?_
    refine x_T_iload_n rfl rfl rfl ?_
    refine x_T_cv (as := [.int (xs 1)]) (r := []) rfl rfl rfl rfl zg_0 (Nat.le_of_ble_eq_true rfl) (Nat.le_of_ble_eq_true rfl) ?_
    refine x_T_iload_n rfl rfl rfl ?_
    refine x_T_if (pc2 := 25) (pc3 := 4) rfl (by decide) rfl (fun hc => absurd hc h1) (fun _ => ?_)
    refine x_T_iload_n rfl rfl rfl ?_
    refine x_T_aload_n rfl rfl rfl ?_
    refine x_T_getf rfl rfl zg_0 rfl rfl ?_
    refine x_T_getf rfl rfl zg_2 rfl rfl ?_
    refine x_T_getf rfl rfl zg_3 rfl rfl ?_
    refine x_T_getf rfl rfl zg_30 rfl rfl ?_
    refine x_T_ic (pc2 := 25) (pc3 := 21) rfl (by decide) rfl (fun _ => ?_) (fun hc => absurd h2 hc)
    refine x_T_iconst (v := 0) rfl (by decide) rfl ?_
    refine x_T_zret rfl rfl (by decide) ?_
    show x_T _ _ 10 5 _ [.int 0] _ _
    refine x_T_if (pc2 := 30) (pc3 := 8) rfl (by decide) rfl (fun _ => ?_) (fun hc => absurd (by decide) hc)
    refine x_T_iconst (v := (-1)) rfl (by decide) rfl ?_
    refine x_T_iret rfl rfl ?_
    show x_T _ _ 0 268 _ [.int ((-1))] _ _
    refine x_T_aload_n rfl rfl rfl ?_
    refine x_T_aload_nk rfl rfl rfl ?_
    refine x_T_iload_n rfl rfl rfl ?_
    refine x_T_iconst (v := 1) rfl (by decide) rfl ?_
    refine x_T_iadd rfl rfl ?_
    refine x_T_scld (v := xs 1) rfl rfl rfl rfl ?_
    refine x_T_aload_nk rfl rfl rfl ?_
    refine x_T_iload_n rfl rfl rfl ?_
    refine x_T_iconst (v := 2) rfl (by decide) rfl ?_
    refine x_T_iadd rfl rfl ?_
    refine x_T_scld (v := xs 2) rfl rfl rfl rfl ?_
    refine x_T_cv (as := [.int (xs 1), .int (xs 2)]) (r := [.int ((-1))]) rfl rfl rfl rfl zg_249 (Nat.le_of_ble_eq_true rfl) (Nat.le_of_ble_eq_true rfl) ?_
    refine x_T_iload_n rfl rfl rfl ?_
    refine x_T_if (pc2 := 12) (pc3 := 4) rfl (by decide) rfl (fun hc => absurd hc h1) (fun _ => ?_)
    refine x_T_iload_n rfl rfl rfl ?_
    refine x_T_aload_n rfl rfl rfl ?_
    refine x_T_getf rfl rfl zg_249 rfl rfl ?_
    refine x_T_ic (pc2 := 16) (pc3 := 12) rfl (by decide) rfl (fun hc => absurd hc h1) (fun _ => ?_)
    refine x_T_iconst (v := (-1)) rfl (by decide) rfl ?_
    refine x_T_goto (pc2 := 26) rfl (by decide) ?_
    refine x_T_iret rfl rfl ?_
    show x_T _ _ 0 282 _ [.int ((-1)), .int ((-1))] _ _
    refine x_T_ic (pc2 := 359) (pc3 := 285) rfl (by decide) rfl (fun _ => ?_) (fun hc => absurd (by decide) hc)
    exact z_fin xs _ z_d_n
set_option maxHeartbeats 4000000 in
theorem z_op12 (xs : Nat → Int32) : x_T (some (3, xs)) 9 0 326 z_lv [] z_d z_Q := by
  by_cases h1 : x_cc .lt (xs 1) 0 = true
  · refine x_T_aload_n rfl rfl rfl ?_
    refine x_T_aload_nk rfl rfl rfl ?_
    refine x_T_iload_n rfl rfl rfl ?_
    refine x_T_iconst (v := 1) rfl (by decide) rfl ?_
    refine x_T_iadd rfl rfl ?_
    refine x_T_scld (v := xs 1) rfl rfl rfl rfl ?_
    refine x_T_aload_nk rfl rfl rfl ?_
    refine x_T_iload_n rfl rfl rfl ?_
    refine x_T_iconst (v := 2) rfl (by decide) rfl ?_
    refine x_T_iadd rfl rfl ?_
    refine x_T_scld (v := xs 2) rfl rfl rfl rfl ?_
    refine x_T_cv (as := [.int (xs 1), .int (xs 2)]) (r := []) rfl rfl rfl rfl zg_0 (Nat.le_of_ble_eq_true rfl) (Nat.le_of_ble_eq_true rfl) ?_
    refine x_T_aload_n rfl rfl rfl ?_
    refine x_T_getf rfl rfl zg_0 rfl rfl ?_
    refine x_T_getf rfl rfl zg_234 rfl rfl ?_
    refine x_T_astore_n rfl (by decide) rfl ?_
    refine x_T_iload_n rfl rfl rfl ?_
    refine x_T_if (pc2 := 20) (pc3 := 12) rfl (by decide) rfl (fun _ => ?_) (fun hc => absurd h1 hc)
    refine x_T_bipush (v := (-2)) rfl (by decide) rfl ?_
    refine x_T_iret rfl rfl ?_
    show x_T _ _ 0 340 _ [.int ((-2))] _ _
    refine x_T_aload_n rfl rfl rfl ?_
    refine x_T_aload_nk rfl rfl rfl ?_
    refine x_T_iload_n rfl rfl rfl ?_
    refine x_T_iconst (v := 1) rfl (by decide) rfl ?_
    refine x_T_iadd rfl rfl ?_
    refine x_T_scld (v := xs 1) rfl rfl rfl rfl ?_
    refine x_T_aload_nk rfl rfl rfl ?_
    refine x_T_iload_n rfl rfl rfl ?_
    refine x_T_iconst (v := 2) rfl (by decide) rfl ?_
    refine x_T_iadd rfl rfl ?_
    refine x_T_scld (v := xs 2) rfl rfl rfl rfl ?_
    refine x_T_cv (as := [.int (xs 1), .int (xs 2)]) (r := [.int ((-2))]) rfl rfl rfl rfl zg_249 (Nat.le_of_ble_eq_true rfl) (Nat.le_of_ble_eq_true rfl) ?_
    refine x_T_iload_n rfl rfl rfl ?_
    refine x_T_if (pc2 := 21) (pc3 := 4) rfl (by decide) rfl (fun _ => ?_) (fun hc => absurd h1 hc)
    refine x_T_bipush (v := (-2)) rfl (by decide) rfl ?_
    refine x_T_iret rfl rfl ?_
    show x_T _ _ 0 354 _ [.int ((-2)), .int ((-2))] _ _
    refine x_T_ic (pc2 := 359) (pc3 := 357) rfl (by decide) rfl (fun _ => ?_) (fun hc => absurd (by decide) hc)
    exact z_fin xs _ z_d_n
  · by_cases h2 : x_cc .lt (xs 1) 1 = true
    · have hx := z_zero h1 h2
      by_cases h3 : x_cc .lt (xs 2) 0 = true
      · refine x_T_aload_n rfl rfl rfl ?_
        refine x_T_aload_nk rfl rfl rfl ?_
        refine x_T_iload_n rfl rfl rfl ?_
        refine x_T_iconst (v := 1) rfl (by decide) rfl ?_
        refine x_T_iadd rfl rfl ?_
        refine x_T_scld (v := 0) rfl rfl hx rfl ?_
        refine x_T_aload_nk rfl rfl rfl ?_
        refine x_T_iload_n rfl rfl rfl ?_
        refine x_T_iconst (v := 2) rfl (by decide) rfl ?_
        refine x_T_iadd rfl rfl ?_
        refine x_T_scld (v := xs 2) rfl rfl rfl rfl ?_
        refine x_T_cv (as := [.int 0, .int (xs 2)]) (r := []) rfl rfl rfl rfl zg_0 (Nat.le_of_ble_eq_true rfl) (Nat.le_of_ble_eq_true rfl) ?_
        refine x_T_aload_n rfl rfl rfl ?_
        refine x_T_getf rfl rfl zg_0 rfl rfl ?_
        refine x_T_getf rfl rfl zg_234 rfl rfl ?_
        refine x_T_astore_n rfl (by decide) rfl ?_
        refine x_T_iload_n rfl rfl rfl ?_
        refine x_T_if (pc2 := 20) (pc3 := 12) rfl (by decide) rfl (fun hc => absurd hc (by decide)) (fun _ => ?_)
        refine x_T_iload_n rfl rfl rfl ?_
        refine x_T_aload_n rfl rfl rfl ?_
        refine x_T_getf rfl rfl zg_235 rfl rfl ?_
        refine x_T_ic (pc2 := 23) (pc3 := 20) rfl (by decide) rfl (fun _ => ?_) (fun hc => absurd (by decide) hc)
        refine x_T_iload_n rfl rfl rfl ?_
        refine x_T_ts (pc2 := 73) rfl (z_ts (Or.inl h3)) ?_
        refine x_T_bipush (v := (-2)) rfl (by decide) rfl ?_
        refine x_T_iret rfl rfl ?_
        show x_T _ _ 0 340 _ [.int ((-2))] _ _
        refine x_T_aload_n rfl rfl rfl ?_
        refine x_T_aload_nk rfl rfl rfl ?_
        refine x_T_iload_n rfl rfl rfl ?_
        refine x_T_iconst (v := 1) rfl (by decide) rfl ?_
        refine x_T_iadd rfl rfl ?_
        refine x_T_scld (v := 0) rfl rfl hx rfl ?_
        refine x_T_aload_nk rfl rfl rfl ?_
        refine x_T_iload_n rfl rfl rfl ?_
        refine x_T_iconst (v := 2) rfl (by decide) rfl ?_
        refine x_T_iadd rfl rfl ?_
        refine x_T_scld (v := xs 2) rfl rfl rfl rfl ?_
        refine x_T_cv (as := [.int 0, .int (xs 2)]) (r := [.int ((-2))]) rfl rfl rfl rfl zg_249 (Nat.le_of_ble_eq_true rfl) (Nat.le_of_ble_eq_true rfl) ?_
        refine x_T_iload_n rfl rfl rfl ?_
        refine x_T_if (pc2 := 21) (pc3 := 4) rfl (by decide) rfl (fun hc => absurd hc (by decide)) (fun _ => ?_)
        refine x_T_iload_n rfl rfl rfl ?_
        refine x_T_aload_n rfl rfl rfl ?_
        refine x_T_getf rfl rfl zg_249 rfl rfl ?_
        refine x_T_ic (pc2 := 21) (pc3 := 12) rfl (by decide) rfl (fun hc => absurd hc (by decide)) (fun _ => ?_)
        refine x_T_iload_n rfl rfl rfl ?_
        refine x_T_if (pc2 := 21) (pc3 := 16) rfl (by decide) rfl (fun _ => ?_) (fun hc => absurd h3 hc)
        refine x_T_bipush (v := (-2)) rfl (by decide) rfl ?_
        refine x_T_iret rfl rfl ?_
        show x_T _ _ 0 354 _ [.int ((-2)), .int ((-2))] _ _
        refine x_T_ic (pc2 := 359) (pc3 := 357) rfl (by decide) rfl (fun _ => ?_) (fun hc => absurd (by decide) hc)
        exact z_fin xs _ z_d_n
      · by_cases h4 : x_cc .le (xs 2) 2 = true
        · rcases z_three h3 h4 with hy | hy | hy
          · refine x_T_aload_n rfl rfl rfl ?_
            refine x_T_aload_nk rfl rfl rfl ?_
            refine x_T_iload_n rfl rfl rfl ?_
            refine x_T_iconst (v := 1) rfl (by decide) rfl ?_
            refine x_T_iadd rfl rfl ?_
            refine x_T_scld (v := 0) rfl rfl hx rfl ?_
            refine x_T_aload_nk rfl rfl rfl ?_
            refine x_T_iload_n rfl rfl rfl ?_
            refine x_T_iconst (v := 2) rfl (by decide) rfl ?_
            refine x_T_iadd rfl rfl ?_
            refine x_T_scld (v := 0) rfl rfl hy rfl ?_
            obtain ⟨y1, fM, y2, q1, gM, q2, hs⟩ := z_two zt_node0
            refine x_T_cv (as := [.int 0, .int 0]) (r := []) rfl rfl rfl rfl zg_0 (Nat.le_of_ble_eq_true rfl) (Nat.le_of_ble_eq_true rfl) ?_
            refine x_T_none ⟨_, _, _, q1, ?_⟩
            show x_T _ _ 0 340 _ [.int 0] y1 _
            refine x_T_aload_n rfl rfl rfl ?_
            refine x_T_aload_nk rfl rfl rfl ?_
            refine x_T_iload_n rfl rfl rfl ?_
            refine x_T_iconst (v := 1) rfl (by decide) rfl ?_
            refine x_T_iadd rfl rfl ?_
            refine x_T_scld (v := 0) rfl rfl hx rfl ?_
            refine x_T_aload_nk rfl rfl rfl ?_
            refine x_T_iload_n rfl rfl rfl ?_
            refine x_T_iconst (v := 2) rfl (by decide) rfl ?_
            refine x_T_iadd rfl rfl ?_
            refine x_T_scld (v := 0) rfl rfl hy rfl ?_
            refine x_T_cv (as := [.int 0, .int 0]) (r := [.int 0]) rfl rfl rfl rfl gM (Nat.le_of_ble_eq_true rfl) (Nat.le_of_ble_eq_true rfl) ?_
            refine x_T_none ⟨_, _, _, q2, ?_⟩
            show x_T _ _ 0 354 _ [.int 0, .int 0] y2 _
            refine x_T_ic (pc2 := 359) (pc3 := 357) rfl (by decide) rfl (fun _ => ?_) (fun hc => absurd (by decide) hc)
            exact z_fin xs _ hs
          · refine x_T_aload_n rfl rfl rfl ?_
            refine x_T_aload_nk rfl rfl rfl ?_
            refine x_T_iload_n rfl rfl rfl ?_
            refine x_T_iconst (v := 1) rfl (by decide) rfl ?_
            refine x_T_iadd rfl rfl ?_
            refine x_T_scld (v := 0) rfl rfl hx rfl ?_
            refine x_T_aload_nk rfl rfl rfl ?_
            refine x_T_iload_n rfl rfl rfl ?_
            refine x_T_iconst (v := 2) rfl (by decide) rfl ?_
            refine x_T_iadd rfl rfl ?_
            refine x_T_scld (v := 1) rfl rfl hy rfl ?_
            obtain ⟨y1, fM, y2, q1, gM, q2, hs⟩ := z_two zt_node1
            refine x_T_cv (as := [.int 0, .int 1]) (r := []) rfl rfl rfl rfl zg_0 (Nat.le_of_ble_eq_true rfl) (Nat.le_of_ble_eq_true rfl) ?_
            refine x_T_none ⟨_, _, _, q1, ?_⟩
            show x_T _ _ 0 340 _ [.int ((-1))] y1 _
            refine x_T_aload_n rfl rfl rfl ?_
            refine x_T_aload_nk rfl rfl rfl ?_
            refine x_T_iload_n rfl rfl rfl ?_
            refine x_T_iconst (v := 1) rfl (by decide) rfl ?_
            refine x_T_iadd rfl rfl ?_
            refine x_T_scld (v := 0) rfl rfl hx rfl ?_
            refine x_T_aload_nk rfl rfl rfl ?_
            refine x_T_iload_n rfl rfl rfl ?_
            refine x_T_iconst (v := 2) rfl (by decide) rfl ?_
            refine x_T_iadd rfl rfl ?_
            refine x_T_scld (v := 1) rfl rfl hy rfl ?_
            refine x_T_cv (as := [.int 0, .int 1]) (r := [.int ((-1))]) rfl rfl rfl rfl gM (Nat.le_of_ble_eq_true rfl) (Nat.le_of_ble_eq_true rfl) ?_
            refine x_T_none ⟨_, _, _, q2, ?_⟩
            show x_T _ _ 0 354 _ [.int ((-1)), .int ((-1))] y2 _
            refine x_T_ic (pc2 := 359) (pc3 := 357) rfl (by decide) rfl (fun _ => ?_) (fun hc => absurd (by decide) hc)
            exact z_fin xs _ hs
          · refine x_T_aload_n rfl rfl rfl ?_
            refine x_T_aload_nk rfl rfl rfl ?_
            refine x_T_iload_n rfl rfl rfl ?_
            refine x_T_iconst (v := 1) rfl (by decide) rfl ?_
            refine x_T_iadd rfl rfl ?_
            refine x_T_scld (v := 0) rfl rfl hx rfl ?_
            refine x_T_aload_nk rfl rfl rfl ?_
            refine x_T_iload_n rfl rfl rfl ?_
            refine x_T_iconst (v := 2) rfl (by decide) rfl ?_
            refine x_T_iadd rfl rfl ?_
            refine x_T_scld (v := 2) rfl rfl hy rfl ?_
            obtain ⟨y1, fM, y2, q1, gM, q2, hs⟩ := z_two zt_node2
            refine x_T_cv (as := [.int 0, .int 2]) (r := []) rfl rfl rfl rfl zg_0 (Nat.le_of_ble_eq_true rfl) (Nat.le_of_ble_eq_true rfl) ?_
            refine x_T_none ⟨_, _, _, q1, ?_⟩
            show x_T _ _ 0 340 _ [.int 0] y1 _
            refine x_T_aload_n rfl rfl rfl ?_
            refine x_T_aload_nk rfl rfl rfl ?_
            refine x_T_iload_n rfl rfl rfl ?_
            refine x_T_iconst (v := 1) rfl (by decide) rfl ?_
            refine x_T_iadd rfl rfl ?_
            refine x_T_scld (v := 0) rfl rfl hx rfl ?_
            refine x_T_aload_nk rfl rfl rfl ?_
            refine x_T_iload_n rfl rfl rfl ?_
            refine x_T_iconst (v := 2) rfl (by decide) rfl ?_
            refine x_T_iadd rfl rfl ?_
            refine x_T_scld (v := 2) rfl rfl hy rfl ?_
            refine x_T_cv (as := [.int 0, .int 2]) (r := [.int 0]) rfl rfl rfl rfl gM (Nat.le_of_ble_eq_true rfl) (Nat.le_of_ble_eq_true rfl) ?_
            refine x_T_none ⟨_, _, _, q2, ?_⟩
            show x_T _ _ 0 354 _ [.int 0, .int 0] y2 _
            refine x_T_ic (pc2 := 359) (pc3 := 357) rfl (by decide) rfl (fun _ => ?_) (fun hc => absurd (by decide) hc)
            exact z_fin xs _ hs
        · refine x_T_aload_n rfl rfl rfl ?_
          refine x_T_aload_nk rfl rfl rfl ?_
          refine x_T_iload_n rfl rfl rfl ?_
          refine x_T_iconst (v := 1) rfl (by decide) rfl ?_
          refine x_T_iadd rfl rfl ?_
          refine x_T_scld (v := 0) rfl rfl hx rfl ?_
          refine x_T_aload_nk rfl rfl rfl ?_
          refine x_T_iload_n rfl rfl rfl ?_
          refine x_T_iconst (v := 2) rfl (by decide) rfl ?_
          refine x_T_iadd rfl rfl ?_
          refine x_T_scld (v := xs 2) rfl rfl rfl rfl ?_
          refine x_T_cv (as := [.int 0, .int (xs 2)]) (r := []) rfl rfl rfl rfl zg_0 (Nat.le_of_ble_eq_true rfl) (Nat.le_of_ble_eq_true rfl) ?_
          refine x_T_aload_n rfl rfl rfl ?_
          refine x_T_getf rfl rfl zg_0 rfl rfl ?_
          refine x_T_getf rfl rfl zg_234 rfl rfl ?_
          refine x_T_astore_n rfl (by decide) rfl ?_
          refine x_T_iload_n rfl rfl rfl ?_
          refine x_T_if (pc2 := 20) (pc3 := 12) rfl (by decide) rfl (fun hc => absurd hc (by decide)) (fun _ => ?_)
          refine x_T_iload_n rfl rfl rfl ?_
          refine x_T_aload_n rfl rfl rfl ?_
          refine x_T_getf rfl rfl zg_235 rfl rfl ?_
          refine x_T_ic (pc2 := 23) (pc3 := 20) rfl (by decide) rfl (fun _ => ?_) (fun hc => absurd (by decide) hc)
          refine x_T_iload_n rfl rfl rfl ?_
          refine x_T_ts (pc2 := 73) rfl (z_ts (Or.inr h4)) ?_
          refine x_T_bipush (v := (-2)) rfl (by decide) rfl ?_
          refine x_T_iret rfl rfl ?_
          show x_T _ _ 0 340 _ [.int ((-2))] _ _
          refine x_T_aload_n rfl rfl rfl ?_
          refine x_T_aload_nk rfl rfl rfl ?_
          refine x_T_iload_n rfl rfl rfl ?_
          refine x_T_iconst (v := 1) rfl (by decide) rfl ?_
          refine x_T_iadd rfl rfl ?_
          refine x_T_scld (v := 0) rfl rfl hx rfl ?_
          refine x_T_aload_nk rfl rfl rfl ?_
          refine x_T_iload_n rfl rfl rfl ?_
          refine x_T_iconst (v := 2) rfl (by decide) rfl ?_
          refine x_T_iadd rfl rfl ?_
          refine x_T_scld (v := xs 2) rfl rfl rfl rfl ?_
          refine x_T_cv (as := [.int 0, .int (xs 2)]) (r := [.int ((-2))]) rfl rfl rfl rfl zg_249 (Nat.le_of_ble_eq_true rfl) (Nat.le_of_ble_eq_true rfl) ?_
          refine x_T_iload_n rfl rfl rfl ?_
          refine x_T_if (pc2 := 21) (pc3 := 4) rfl (by decide) rfl (fun hc => absurd hc (by decide)) (fun _ => ?_)
          refine x_T_iload_n rfl rfl rfl ?_
          refine x_T_aload_n rfl rfl rfl ?_
          refine x_T_getf rfl rfl zg_249 rfl rfl ?_
          refine x_T_ic (pc2 := 21) (pc3 := 12) rfl (by decide) rfl (fun hc => absurd hc (by decide)) (fun _ => ?_)
          refine x_T_iload_n rfl rfl rfl ?_
          refine x_T_if (pc2 := 21) (pc3 := 16) rfl (by decide) rfl (fun hc => absurd hc h3) (fun _ => ?_)
          refine x_T_iload_n rfl rfl rfl ?_
          refine x_T_iconst (v := 2) rfl (by decide) rfl ?_
          refine x_T_ic (pc2 := 24) (pc3 := 21) rfl (by decide) rfl (fun hc => absurd hc h4) (fun _ => ?_)
          refine x_T_bipush (v := (-2)) rfl (by decide) rfl ?_
          refine x_T_iret rfl rfl ?_
          show x_T _ _ 0 354 _ [.int ((-2)), .int ((-2))] _ _
          refine x_T_ic (pc2 := 359) (pc3 := 357) rfl (by decide) rfl (fun _ => ?_) (fun hc => absurd (by decide) hc)
          exact z_fin xs _ z_d_n
    · have h3 := z_ge0.mpr h2
      refine x_T_aload_n rfl rfl rfl ?_
      refine x_T_aload_nk rfl rfl rfl ?_
      refine x_T_iload_n rfl rfl rfl ?_
      refine x_T_iconst (v := 1) rfl (by decide) rfl ?_
      refine x_T_iadd rfl rfl ?_
      refine x_T_scld (v := xs 1) rfl rfl rfl rfl ?_
      refine x_T_aload_nk rfl rfl rfl ?_
      refine x_T_iload_n rfl rfl rfl ?_
      refine x_T_iconst (v := 2) rfl (by decide) rfl ?_
      refine x_T_iadd rfl rfl ?_
      refine x_T_scld (v := xs 2) rfl rfl rfl rfl ?_
      refine x_T_cv (as := [.int (xs 1), .int (xs 2)]) (r := []) rfl rfl rfl rfl zg_0 (Nat.le_of_ble_eq_true rfl) (Nat.le_of_ble_eq_true rfl) ?_
      refine x_T_aload_n rfl rfl rfl ?_
      refine x_T_getf rfl rfl zg_0 rfl rfl ?_
      refine x_T_getf rfl rfl zg_234 rfl rfl ?_
      refine x_T_astore_n rfl (by decide) rfl ?_
      refine x_T_iload_n rfl rfl rfl ?_
      refine x_T_if (pc2 := 20) (pc3 := 12) rfl (by decide) rfl (fun hc => absurd hc h1) (fun _ => ?_)
      refine x_T_iload_n rfl rfl rfl ?_
      refine x_T_aload_n rfl rfl rfl ?_
      refine x_T_getf rfl rfl zg_235 rfl rfl ?_
      refine x_T_ic (pc2 := 23) (pc3 := 20) rfl (by decide) rfl (fun hc => absurd hc h2) (fun _ => ?_)
      refine x_T_bipush (v := (-2)) rfl (by decide) rfl ?_
      refine x_T_iret rfl rfl ?_
      show x_T _ _ 0 340 _ [.int ((-2))] _ _
      refine x_T_aload_n rfl rfl rfl ?_
      refine x_T_aload_nk rfl rfl rfl ?_
      refine x_T_iload_n rfl rfl rfl ?_
      refine x_T_iconst (v := 1) rfl (by decide) rfl ?_
      refine x_T_iadd rfl rfl ?_
      refine x_T_scld (v := xs 1) rfl rfl rfl rfl ?_
      refine x_T_aload_nk rfl rfl rfl ?_
      refine x_T_iload_n rfl rfl rfl ?_
      refine x_T_iconst (v := 2) rfl (by decide) rfl ?_
      refine x_T_iadd rfl rfl ?_
      refine x_T_scld (v := xs 2) rfl rfl rfl rfl ?_
      refine x_T_cv (as := [.int (xs 1), .int (xs 2)]) (r := [.int ((-2))]) rfl rfl rfl rfl zg_249 (Nat.le_of_ble_eq_true rfl) (Nat.le_of_ble_eq_true rfl) ?_
      refine x_T_iload_n rfl rfl rfl ?_
      refine x_T_if (pc2 := 21) (pc3 := 4) rfl (by decide) rfl (fun hc => absurd hc h1) (fun _ => ?_)
      refine x_T_iload_n rfl rfl rfl ?_
      refine x_T_aload_n rfl rfl rfl ?_
      refine x_T_getf rfl rfl zg_249 rfl rfl ?_
      refine x_T_ic (pc2 := 21) (pc3 := 12) rfl (by decide) rfl (fun _ => ?_) (fun hc => absurd h3 hc)
      refine x_T_bipush (v := (-2)) rfl (by decide) rfl ?_
      refine x_T_iret rfl rfl ?_
      show x_T _ _ 0 354 _ [.int ((-2)), .int ((-2))] _ _
      refine x_T_ic (pc2 := 359) (pc3 := 357) rfl (by decide) rfl (fun _ => ?_) (fun hc => absurd (by decide) hc)
      exact z_fin xs _ z_d_n
set_option maxHeartbeats 4000000 in
theorem z_op1 (xs : Nat → Int32) : x_T (some (3, xs)) 9 0 123 z_lv [] z_d z_Q := by
  obtain ⟨f1, g_1, e_1⟩ := zr_1
  obtain ⟨f244, g_244, e_244⟩ := zi_244
  obtain ⟨f250, g_250, e_250⟩ := zi_250
  obtain ⟨f251, g_251, e_251⟩ := zi_251
  have e_251 : f251 0 = 0 := (e_251 0).trans zi_251_0
  by_cases c1 : x_cc .eq (((xs 1).toUInt32 % 65536).toInt32) 10 = true
  · refine x_T_aload_n rfl rfl rfl ?_
    refine x_T_aload_nk rfl rfl rfl ?_
    refine x_T_iload_n rfl rfl rfl ?_
    refine x_T_iconst (v := 1) rfl (by decide) rfl ?_
    refine x_T_iadd rfl rfl ?_
    refine x_T_scld (v := xs 1) rfl rfl rfl rfl ?_
    refine x_T_i2c rfl rfl ?_
    refine x_T_cv (as := [.int (((xs 1).toUInt32 % 65536).toInt32)]) (r := []) rfl rfl rfl rfl zg_0 (Nat.le_of_ble_eq_true rfl) (Nat.le_of_ble_eq_true rfl) ?_
    refine x_T_aload_n rfl rfl rfl ?_
    refine x_T_getf rfl rfl zg_0 rfl rfl ?_
    refine x_T_aload_n rfl rfl rfl ?_
    refine x_T_getf rfl rfl zg_0 rfl rfl ?_
    refine x_T_aald rfl g_1 rfl (by decide) e_1 rfl ?_
    refine x_T_iload_n rfl rfl rfl ?_
    refine x_T_cv (as := [.int (((xs 1).toUInt32 % 65536).toInt32)]) (r := []) rfl rfl rfl rfl zg_243 (Nat.le_of_ble_eq_true rfl) (Nat.le_of_ble_eq_true rfl) ?_
    refine x_T_iload_n rfl rfl rfl ?_
    refine x_T_bipush (v := 10) rfl (by decide) rfl ?_
    refine x_T_ic (pc2 := 18) (pc3 := 6) rfl (by decide) rfl (fun _ => ?_) (fun hc => absurd c1 hc)
    refine x_T_iconst (v := 1) rfl (by decide) rfl ?_
    refine x_T_goto (pc2 := 23) rfl (by decide) ?_
    refine x_T_istore_n rfl (by decide) rfl ?_
    refine x_T_aload_n rfl rfl rfl ?_
    refine x_T_getf rfl rfl zg_243 rfl rfl ?_
    refine x_T_sipush (v := 160) rfl (by decide) rfl ?_
    refine x_T_ic (pc2 := 38) (pc3 := 34) rfl (by decide) rfl (fun hc => absurd hc (by decide)) (fun _ => ?_)
    refine x_T_iload_n rfl rfl rfl ?_
    refine x_T_if (pc2 := 40) (pc3 := 38) rfl (by decide) rfl (fun _ => ?_) (fun hc => absurd (by decide) hc)
    refine x_T_aload_n rfl rfl rfl ?_
    refine x_T_getf rfl rfl zg_243 rfl rfl ?_
    refine x_T_aload_n rfl rfl rfl ?_
    refine x_T_getf rfl rfl zg_243 rfl rfl ?_
    refine x_T_iload_n rfl rfl rfl ?_
    refine x_T_castV rfl g_244 (by decide) rfl (fun h1 g1 n1 s1 => ?_)
    have g1_0 := (n1 0 (by decide)).trans zg_0
    have g1_243 := (n1 243 (by decide)).trans zg_243
    have g1_249 := (n1 249 (by decide)).trans zg_249
    have g1_1 := (n1 1 (by decide)).trans g_1
    have g1_250 := (n1 250 (by decide)).trans g_250
    have g1_251 := (n1 251 (by decide)).trans g_251
    refine x_T_aload_n rfl rfl rfl ?_
    refine x_T_dup rfl rfl rfl ?_
    refine x_T_getf rfl rfl g1_243 rfl rfl ?_
    refine x_T_iconst (v := 1) rfl (by decide) rfl ?_
    refine x_T_iadd rfl rfl ?_
    refine x_T_putfV rfl rfl g1_243 rfl (by decide) (by decide) rfl (fun h2 g2 n2 s2 => ?_)
    have g2_0 := (n2 0 (by decide)).trans g1_0
    have g2_249 := (n2 249 (by decide)).trans g1_249
    have g2_1 := (n2 1 (by decide)).trans g1_1
    have g2_244 := (n2 244 (by decide)).trans g1
    have g2_250 := (n2 250 (by decide)).trans g1_250
    have g2_251 := (n2 251 (by decide)).trans g1_251
    refine x_T_iconst (v := 1) rfl (by decide) rfl ?_
    refine x_T_zret rfl rfl (by decide) ?_
    show x_T _ _ 3 13 _ [.int 1] _ _
    refine x_T_zret rfl rfl (by decide) ?_
    show x_T _ _ 0 133 _ [.int 1] _ _
    refine x_T_aload_n rfl rfl rfl ?_
    refine x_T_aload_nk rfl rfl rfl ?_
    refine x_T_iload_n rfl rfl rfl ?_
    refine x_T_iconst (v := 1) rfl (by decide) rfl ?_
    refine x_T_iadd rfl rfl ?_
    refine x_T_scld (v := xs 1) rfl rfl rfl rfl ?_
    refine x_T_i2c rfl rfl ?_
    refine x_T_cv (as := [.int (((xs 1).toUInt32 % 65536).toInt32)]) (r := [.int 1]) rfl rfl rfl rfl g2_249 (Nat.le_of_ble_eq_true rfl) (Nat.le_of_ble_eq_true rfl) ?_
    refine x_T_aload_n rfl rfl rfl ?_
    refine x_T_getf rfl rfl g2_249 rfl rfl ?_
    refine x_T_aload_n rfl rfl rfl ?_
    refine x_T_getf rfl rfl g2_249 rfl rfl ?_
    refine x_T_iald (v := 0) rfl g2_251 (by decide) e_251 rfl ?_
    refine x_T_sipush (v := 160) rfl (by decide) rfl ?_
    refine x_T_ic (pc2 := 33) (pc3 := 15) rfl (by decide) rfl (fun hc => absurd hc (by decide)) (fun _ => ?_)
    refine x_T_iload_n rfl rfl rfl ?_
    refine x_T_bipush (v := 10) rfl (by decide) rfl ?_
    refine x_T_ic (pc2 := 35) (pc3 := 21) rfl (by decide) rfl (fun _ => ?_) (fun hc => absurd c1 hc)
    refine x_T_aload_n rfl rfl rfl ?_
    refine x_T_getf rfl rfl g2_249 rfl rfl ?_
    refine x_T_sipush (v := 160) rfl (by decide) rfl ?_
    refine x_T_aload_n rfl rfl rfl ?_
    refine x_T_getf rfl rfl g2_249 rfl rfl ?_
    refine x_T_imul rfl rfl ?_
    refine x_T_aload_n rfl rfl rfl ?_
    refine x_T_getf rfl rfl g2_249 rfl rfl ?_
    refine x_T_aload_n rfl rfl rfl ?_
    refine x_T_getf rfl rfl g2_249 rfl rfl ?_
    refine x_T_iald (v := 0) rfl g2_251 (by decide) e_251 rfl ?_
    refine x_T_iadd rfl rfl ?_
    refine x_T_iload_n rfl rfl rfl ?_
    refine x_T_iastV rfl g2_250 (by decide) rfl (fun h3 g3 n3 s3 => ?_)
    have g3_0 := (n3 0 (by decide)).trans g2_0
    have g3_243 := (n3 243 (by decide)).trans g2
    have g3_249 := (n3 249 (by decide)).trans g2_249
    have g3_1 := (n3 1 (by decide)).trans g2_1
    have g3_244 := (n3 244 (by decide)).trans g2_244
    have g3_251 := (n3 251 (by decide)).trans g2_251
    refine x_T_aload_n rfl rfl rfl ?_
    refine x_T_getf rfl rfl g3_249 rfl rfl ?_
    refine x_T_aload_n rfl rfl rfl ?_
    refine x_T_getf rfl rfl g3_249 rfl rfl ?_
    refine x_T_dup2 rfl rfl rfl rfl ?_
    refine x_T_iald (v := 0) rfl g3_251 (by decide) e_251 rfl ?_
    refine x_T_iconst (v := 1) rfl (by decide) rfl ?_
    refine x_T_iadd rfl rfl ?_
    refine x_T_iastV rfl g3_251 (by decide) rfl (fun h4 g4 n4 s4 => ?_)
    have g4_0 := (n4 0 (by decide)).trans g3_0
    have g4_243 := (n4 243 (by decide)).trans g3_243
    have g4_249 := (n4 249 (by decide)).trans g3_249
    have g4_1 := (n4 1 (by decide)).trans g3_1
    have g4_244 := (n4 244 (by decide)).trans g3_244
    have g4_250 := (n4 250 (by decide)).trans g3
    refine x_T_iconst (v := 1) rfl (by decide) rfl ?_
    refine x_T_zret rfl rfl (by decide) ?_
    show x_T _ _ 0 143 _ [.int 1, .int 1] _ _
    refine x_T_ic (pc2 := 359) (pc3 := 146) rfl (by decide) rfl (fun _ => ?_) (fun hc => absurd (by decide) hc)
    refine z_fin xs _ ?_
    rw [s4, s3, s2, s1]
    exact z_d_n
  · by_cases c2 : x_cc .lt (((xs 1).toUInt32 % 65536).toInt32) 32 = true
    · refine x_T_aload_n rfl rfl rfl ?_
      refine x_T_aload_nk rfl rfl rfl ?_
      refine x_T_iload_n rfl rfl rfl ?_
      refine x_T_iconst (v := 1) rfl (by decide) rfl ?_
      refine x_T_iadd rfl rfl ?_
      refine x_T_scld (v := xs 1) rfl rfl rfl rfl ?_
      refine x_T_i2c rfl rfl ?_
      refine x_T_cv (as := [.int (((xs 1).toUInt32 % 65536).toInt32)]) (r := []) rfl rfl rfl rfl zg_0 (Nat.le_of_ble_eq_true rfl) (Nat.le_of_ble_eq_true rfl) ?_
      refine x_T_aload_n rfl rfl rfl ?_
      refine x_T_getf rfl rfl zg_0 rfl rfl ?_
      refine x_T_aload_n rfl rfl rfl ?_
      refine x_T_getf rfl rfl zg_0 rfl rfl ?_
      refine x_T_aald rfl g_1 rfl (by decide) e_1 rfl ?_
      refine x_T_iload_n rfl rfl rfl ?_
      refine x_T_cv (as := [.int (((xs 1).toUInt32 % 65536).toInt32)]) (r := []) rfl rfl rfl rfl zg_243 (Nat.le_of_ble_eq_true rfl) (Nat.le_of_ble_eq_true rfl) ?_
      refine x_T_iload_n rfl rfl rfl ?_
      refine x_T_bipush (v := 10) rfl (by decide) rfl ?_
      refine x_T_ic (pc2 := 18) (pc3 := 6) rfl (by decide) rfl (fun hc => absurd hc c1) (fun _ => ?_)
      refine x_T_iload_n rfl rfl rfl ?_
      refine x_T_bipush (v := 32) rfl (by decide) rfl ?_
      refine x_T_ic (pc2 := 22) (pc3 := 12) rfl (by decide) rfl (fun _ => ?_) (fun hc => absurd c2 hc)
      refine x_T_iconst (v := 0) rfl (by decide) rfl ?_
      refine x_T_istore_n rfl (by decide) rfl ?_
      refine x_T_aload_n rfl rfl rfl ?_
      refine x_T_getf rfl rfl zg_243 rfl rfl ?_
      refine x_T_sipush (v := 160) rfl (by decide) rfl ?_
      refine x_T_ic (pc2 := 38) (pc3 := 34) rfl (by decide) rfl (fun hc => absurd hc (by decide)) (fun _ => ?_)
      refine x_T_iload_n rfl rfl rfl ?_
      refine x_T_if (pc2 := 40) (pc3 := 38) rfl (by decide) rfl (fun hc => absurd hc (by decide)) (fun _ => ?_)
      refine x_T_iconst (v := 0) rfl (by decide) rfl ?_
      refine x_T_zret rfl rfl (by decide) ?_
      show x_T _ _ 3 13 _ [.int 0] _ _
      refine x_T_zret rfl rfl (by decide) ?_
      show x_T _ _ 0 133 _ [.int 0] _ _
      refine x_T_aload_n rfl rfl rfl ?_
      refine x_T_aload_nk rfl rfl rfl ?_
      refine x_T_iload_n rfl rfl rfl ?_
      refine x_T_iconst (v := 1) rfl (by decide) rfl ?_
      refine x_T_iadd rfl rfl ?_
      refine x_T_scld (v := xs 1) rfl rfl rfl rfl ?_
      refine x_T_i2c rfl rfl ?_
      refine x_T_cv (as := [.int (((xs 1).toUInt32 % 65536).toInt32)]) (r := [.int 0]) rfl rfl rfl rfl zg_249 (Nat.le_of_ble_eq_true rfl) (Nat.le_of_ble_eq_true rfl) ?_
      refine x_T_aload_n rfl rfl rfl ?_
      refine x_T_getf rfl rfl zg_249 rfl rfl ?_
      refine x_T_aload_n rfl rfl rfl ?_
      refine x_T_getf rfl rfl zg_249 rfl rfl ?_
      refine x_T_iald (v := 0) rfl g_251 (by decide) e_251 rfl ?_
      refine x_T_sipush (v := 160) rfl (by decide) rfl ?_
      refine x_T_ic (pc2 := 33) (pc3 := 15) rfl (by decide) rfl (fun hc => absurd hc (by decide)) (fun _ => ?_)
      refine x_T_iload_n rfl rfl rfl ?_
      refine x_T_bipush (v := 10) rfl (by decide) rfl ?_
      refine x_T_ic (pc2 := 35) (pc3 := 21) rfl (by decide) rfl (fun hc => absurd hc c1) (fun _ => ?_)
      refine x_T_iload_n rfl rfl rfl ?_
      refine x_T_bipush (v := 32) rfl (by decide) rfl ?_
      refine x_T_ic (pc2 := 33) (pc3 := 27) rfl (by decide) rfl (fun _ => ?_) (fun hc => absurd c2 hc)
      refine x_T_iconst (v := 0) rfl (by decide) rfl ?_
      refine x_T_zret rfl rfl (by decide) ?_
      show x_T _ _ 0 143 _ [.int 0, .int 0] _ _
      refine x_T_ic (pc2 := 359) (pc3 := 146) rfl (by decide) rfl (fun _ => ?_) (fun hc => absurd (by decide) hc)
      exact z_fin xs _ z_d_n
    · by_cases c3 : x_cc .gt (((xs 1).toUInt32 % 65536).toInt32) 126 = true
      · have c4 := z_gtle.mp c3
        refine x_T_aload_n rfl rfl rfl ?_
        refine x_T_aload_nk rfl rfl rfl ?_
        refine x_T_iload_n rfl rfl rfl ?_
        refine x_T_iconst (v := 1) rfl (by decide) rfl ?_
        refine x_T_iadd rfl rfl ?_
        refine x_T_scld (v := xs 1) rfl rfl rfl rfl ?_
        refine x_T_i2c rfl rfl ?_
        refine x_T_cv (as := [.int (((xs 1).toUInt32 % 65536).toInt32)]) (r := []) rfl rfl rfl rfl zg_0 (Nat.le_of_ble_eq_true rfl) (Nat.le_of_ble_eq_true rfl) ?_
        refine x_T_aload_n rfl rfl rfl ?_
        refine x_T_getf rfl rfl zg_0 rfl rfl ?_
        refine x_T_aload_n rfl rfl rfl ?_
        refine x_T_getf rfl rfl zg_0 rfl rfl ?_
        refine x_T_aald rfl g_1 rfl (by decide) e_1 rfl ?_
        refine x_T_iload_n rfl rfl rfl ?_
        refine x_T_cv (as := [.int (((xs 1).toUInt32 % 65536).toInt32)]) (r := []) rfl rfl rfl rfl zg_243 (Nat.le_of_ble_eq_true rfl) (Nat.le_of_ble_eq_true rfl) ?_
        refine x_T_iload_n rfl rfl rfl ?_
        refine x_T_bipush (v := 10) rfl (by decide) rfl ?_
        refine x_T_ic (pc2 := 18) (pc3 := 6) rfl (by decide) rfl (fun hc => absurd hc c1) (fun _ => ?_)
        refine x_T_iload_n rfl rfl rfl ?_
        refine x_T_bipush (v := 32) rfl (by decide) rfl ?_
        refine x_T_ic (pc2 := 22) (pc3 := 12) rfl (by decide) rfl (fun hc => absurd hc c2) (fun _ => ?_)
        refine x_T_iload_n rfl rfl rfl ?_
        refine x_T_bipush (v := 126) rfl (by decide) rfl ?_
        refine x_T_ic (pc2 := 22) (pc3 := 18) rfl (by decide) rfl (fun _ => ?_) (fun hc => absurd c3 hc)
        refine x_T_iconst (v := 0) rfl (by decide) rfl ?_
        refine x_T_istore_n rfl (by decide) rfl ?_
        refine x_T_aload_n rfl rfl rfl ?_
        refine x_T_getf rfl rfl zg_243 rfl rfl ?_
        refine x_T_sipush (v := 160) rfl (by decide) rfl ?_
        refine x_T_ic (pc2 := 38) (pc3 := 34) rfl (by decide) rfl (fun hc => absurd hc (by decide)) (fun _ => ?_)
        refine x_T_iload_n rfl rfl rfl ?_
        refine x_T_if (pc2 := 40) (pc3 := 38) rfl (by decide) rfl (fun hc => absurd hc (by decide)) (fun _ => ?_)
        refine x_T_iconst (v := 0) rfl (by decide) rfl ?_
        refine x_T_zret rfl rfl (by decide) ?_
        show x_T _ _ 3 13 _ [.int 0] _ _
        refine x_T_zret rfl rfl (by decide) ?_
        show x_T _ _ 0 133 _ [.int 0] _ _
        refine x_T_aload_n rfl rfl rfl ?_
        refine x_T_aload_nk rfl rfl rfl ?_
        refine x_T_iload_n rfl rfl rfl ?_
        refine x_T_iconst (v := 1) rfl (by decide) rfl ?_
        refine x_T_iadd rfl rfl ?_
        refine x_T_scld (v := xs 1) rfl rfl rfl rfl ?_
        refine x_T_i2c rfl rfl ?_
        refine x_T_cv (as := [.int (((xs 1).toUInt32 % 65536).toInt32)]) (r := [.int 0]) rfl rfl rfl rfl zg_249 (Nat.le_of_ble_eq_true rfl) (Nat.le_of_ble_eq_true rfl) ?_
        refine x_T_aload_n rfl rfl rfl ?_
        refine x_T_getf rfl rfl zg_249 rfl rfl ?_
        refine x_T_aload_n rfl rfl rfl ?_
        refine x_T_getf rfl rfl zg_249 rfl rfl ?_
        refine x_T_iald (v := 0) rfl g_251 (by decide) e_251 rfl ?_
        refine x_T_sipush (v := 160) rfl (by decide) rfl ?_
        refine x_T_ic (pc2 := 33) (pc3 := 15) rfl (by decide) rfl (fun hc => absurd hc (by decide)) (fun _ => ?_)
        refine x_T_iload_n rfl rfl rfl ?_
        refine x_T_bipush (v := 10) rfl (by decide) rfl ?_
        refine x_T_ic (pc2 := 35) (pc3 := 21) rfl (by decide) rfl (fun hc => absurd hc c1) (fun _ => ?_)
        refine x_T_iload_n rfl rfl rfl ?_
        refine x_T_bipush (v := 32) rfl (by decide) rfl ?_
        refine x_T_ic (pc2 := 33) (pc3 := 27) rfl (by decide) rfl (fun hc => absurd hc c2) (fun _ => ?_)
        refine x_T_iload_n rfl rfl rfl ?_
        refine x_T_bipush (v := 126) rfl (by decide) rfl ?_
        refine x_T_ic (pc2 := 35) (pc3 := 33) rfl (by decide) rfl (fun hc => absurd hc c4) (fun _ => ?_)
        refine x_T_iconst (v := 0) rfl (by decide) rfl ?_
        refine x_T_zret rfl rfl (by decide) ?_
        show x_T _ _ 0 143 _ [.int 0, .int 0] _ _
        refine x_T_ic (pc2 := 359) (pc3 := 146) rfl (by decide) rfl (fun _ => ?_) (fun hc => absurd (by decide) hc)
        exact z_fin xs _ z_d_n
      · have c4 : x_cc .le (((xs 1).toUInt32 % 65536).toInt32) 126 = true := Decidable.byContradiction (fun q => c3 (z_gtle.mpr q))
        refine x_T_aload_n rfl rfl rfl ?_
        refine x_T_aload_nk rfl rfl rfl ?_
        refine x_T_iload_n rfl rfl rfl ?_
        refine x_T_iconst (v := 1) rfl (by decide) rfl ?_
        refine x_T_iadd rfl rfl ?_
        refine x_T_scld (v := xs 1) rfl rfl rfl rfl ?_
        refine x_T_i2c rfl rfl ?_
        refine x_T_cv (as := [.int (((xs 1).toUInt32 % 65536).toInt32)]) (r := []) rfl rfl rfl rfl zg_0 (Nat.le_of_ble_eq_true rfl) (Nat.le_of_ble_eq_true rfl) ?_
        refine x_T_aload_n rfl rfl rfl ?_
        refine x_T_getf rfl rfl zg_0 rfl rfl ?_
        refine x_T_aload_n rfl rfl rfl ?_
        refine x_T_getf rfl rfl zg_0 rfl rfl ?_
        refine x_T_aald rfl g_1 rfl (by decide) e_1 rfl ?_
        refine x_T_iload_n rfl rfl rfl ?_
        refine x_T_cv (as := [.int (((xs 1).toUInt32 % 65536).toInt32)]) (r := []) rfl rfl rfl rfl zg_243 (Nat.le_of_ble_eq_true rfl) (Nat.le_of_ble_eq_true rfl) ?_
        refine x_T_iload_n rfl rfl rfl ?_
        refine x_T_bipush (v := 10) rfl (by decide) rfl ?_
        refine x_T_ic (pc2 := 18) (pc3 := 6) rfl (by decide) rfl (fun hc => absurd hc c1) (fun _ => ?_)
        refine x_T_iload_n rfl rfl rfl ?_
        refine x_T_bipush (v := 32) rfl (by decide) rfl ?_
        refine x_T_ic (pc2 := 22) (pc3 := 12) rfl (by decide) rfl (fun hc => absurd hc c2) (fun _ => ?_)
        refine x_T_iload_n rfl rfl rfl ?_
        refine x_T_bipush (v := 126) rfl (by decide) rfl ?_
        refine x_T_ic (pc2 := 22) (pc3 := 18) rfl (by decide) rfl (fun hc => absurd hc c3) (fun _ => ?_)
        refine x_T_iconst (v := 1) rfl (by decide) rfl ?_
        refine x_T_goto (pc2 := 23) rfl (by decide) ?_
        refine x_T_istore_n rfl (by decide) rfl ?_
        refine x_T_aload_n rfl rfl rfl ?_
        refine x_T_getf rfl rfl zg_243 rfl rfl ?_
        refine x_T_sipush (v := 160) rfl (by decide) rfl ?_
        refine x_T_ic (pc2 := 38) (pc3 := 34) rfl (by decide) rfl (fun hc => absurd hc (by decide)) (fun _ => ?_)
        refine x_T_iload_n rfl rfl rfl ?_
        refine x_T_if (pc2 := 40) (pc3 := 38) rfl (by decide) rfl (fun _ => ?_) (fun hc => absurd (by decide) hc)
        refine x_T_aload_n rfl rfl rfl ?_
        refine x_T_getf rfl rfl zg_243 rfl rfl ?_
        refine x_T_aload_n rfl rfl rfl ?_
        refine x_T_getf rfl rfl zg_243 rfl rfl ?_
        refine x_T_iload_n rfl rfl rfl ?_
        refine x_T_castV rfl g_244 (by decide) rfl (fun h1 g1 n1 s1 => ?_)
        have g1_0 := (n1 0 (by decide)).trans zg_0
        have g1_243 := (n1 243 (by decide)).trans zg_243
        have g1_249 := (n1 249 (by decide)).trans zg_249
        have g1_1 := (n1 1 (by decide)).trans g_1
        have g1_250 := (n1 250 (by decide)).trans g_250
        have g1_251 := (n1 251 (by decide)).trans g_251
        refine x_T_aload_n rfl rfl rfl ?_
        refine x_T_dup rfl rfl rfl ?_
        refine x_T_getf rfl rfl g1_243 rfl rfl ?_
        refine x_T_iconst (v := 1) rfl (by decide) rfl ?_
        refine x_T_iadd rfl rfl ?_
        refine x_T_putfV rfl rfl g1_243 rfl (by decide) (by decide) rfl (fun h2 g2 n2 s2 => ?_)
        have g2_0 := (n2 0 (by decide)).trans g1_0
        have g2_249 := (n2 249 (by decide)).trans g1_249
        have g2_1 := (n2 1 (by decide)).trans g1_1
        have g2_244 := (n2 244 (by decide)).trans g1
        have g2_250 := (n2 250 (by decide)).trans g1_250
        have g2_251 := (n2 251 (by decide)).trans g1_251
        refine x_T_iconst (v := 1) rfl (by decide) rfl ?_
        refine x_T_zret rfl rfl (by decide) ?_
        show x_T _ _ 3 13 _ [.int 1] _ _
        refine x_T_zret rfl rfl (by decide) ?_
        show x_T _ _ 0 133 _ [.int 1] _ _
        refine x_T_aload_n rfl rfl rfl ?_
        refine x_T_aload_nk rfl rfl rfl ?_
        refine x_T_iload_n rfl rfl rfl ?_
        refine x_T_iconst (v := 1) rfl (by decide) rfl ?_
        refine x_T_iadd rfl rfl ?_
        refine x_T_scld (v := xs 1) rfl rfl rfl rfl ?_
        refine x_T_i2c rfl rfl ?_
        refine x_T_cv (as := [.int (((xs 1).toUInt32 % 65536).toInt32)]) (r := [.int 1]) rfl rfl rfl rfl g2_249 (Nat.le_of_ble_eq_true rfl) (Nat.le_of_ble_eq_true rfl) ?_
        refine x_T_aload_n rfl rfl rfl ?_
        refine x_T_getf rfl rfl g2_249 rfl rfl ?_
        refine x_T_aload_n rfl rfl rfl ?_
        refine x_T_getf rfl rfl g2_249 rfl rfl ?_
        refine x_T_iald (v := 0) rfl g2_251 (by decide) e_251 rfl ?_
        refine x_T_sipush (v := 160) rfl (by decide) rfl ?_
        refine x_T_ic (pc2 := 33) (pc3 := 15) rfl (by decide) rfl (fun hc => absurd hc (by decide)) (fun _ => ?_)
        refine x_T_iload_n rfl rfl rfl ?_
        refine x_T_bipush (v := 10) rfl (by decide) rfl ?_
        refine x_T_ic (pc2 := 35) (pc3 := 21) rfl (by decide) rfl (fun hc => absurd hc c1) (fun _ => ?_)
        refine x_T_iload_n rfl rfl rfl ?_
        refine x_T_bipush (v := 32) rfl (by decide) rfl ?_
        refine x_T_ic (pc2 := 33) (pc3 := 27) rfl (by decide) rfl (fun hc => absurd hc c2) (fun _ => ?_)
        refine x_T_iload_n rfl rfl rfl ?_
        refine x_T_bipush (v := 126) rfl (by decide) rfl ?_
        refine x_T_ic (pc2 := 35) (pc3 := 33) rfl (by decide) rfl (fun _ => ?_) (fun hc => absurd c4 hc)
        refine x_T_aload_n rfl rfl rfl ?_
        refine x_T_getf rfl rfl g2_249 rfl rfl ?_
        refine x_T_sipush (v := 160) rfl (by decide) rfl ?_
        refine x_T_aload_n rfl rfl rfl ?_
        refine x_T_getf rfl rfl g2_249 rfl rfl ?_
        refine x_T_imul rfl rfl ?_
        refine x_T_aload_n rfl rfl rfl ?_
        refine x_T_getf rfl rfl g2_249 rfl rfl ?_
        refine x_T_aload_n rfl rfl rfl ?_
        refine x_T_getf rfl rfl g2_249 rfl rfl ?_
        refine x_T_iald (v := 0) rfl g2_251 (by decide) e_251 rfl ?_
        refine x_T_iadd rfl rfl ?_
        refine x_T_iload_n rfl rfl rfl ?_
        refine x_T_iastV rfl g2_250 (by decide) rfl (fun h3 g3 n3 s3 => ?_)
        have g3_0 := (n3 0 (by decide)).trans g2_0
        have g3_243 := (n3 243 (by decide)).trans g2
        have g3_249 := (n3 249 (by decide)).trans g2_249
        have g3_1 := (n3 1 (by decide)).trans g2_1
        have g3_244 := (n3 244 (by decide)).trans g2_244
        have g3_251 := (n3 251 (by decide)).trans g2_251
        refine x_T_aload_n rfl rfl rfl ?_
        refine x_T_getf rfl rfl g3_249 rfl rfl ?_
        refine x_T_aload_n rfl rfl rfl ?_
        refine x_T_getf rfl rfl g3_249 rfl rfl ?_
        refine x_T_dup2 rfl rfl rfl rfl ?_
        refine x_T_iald (v := 0) rfl g3_251 (by decide) e_251 rfl ?_
        refine x_T_iconst (v := 1) rfl (by decide) rfl ?_
        refine x_T_iadd rfl rfl ?_
        refine x_T_iastV rfl g3_251 (by decide) rfl (fun h4 g4 n4 s4 => ?_)
        have g4_0 := (n4 0 (by decide)).trans g3_0
        have g4_243 := (n4 243 (by decide)).trans g3_243
        have g4_249 := (n4 249 (by decide)).trans g3_249
        have g4_1 := (n4 1 (by decide)).trans g3_1
        have g4_244 := (n4 244 (by decide)).trans g3_244
        have g4_250 := (n4 250 (by decide)).trans g3
        refine x_T_iconst (v := 1) rfl (by decide) rfl ?_
        refine x_T_zret rfl rfl (by decide) ?_
        show x_T _ _ 0 143 _ [.int 1, .int 1] _ _
        refine x_T_ic (pc2 := 359) (pc3 := 146) rfl (by decide) rfl (fun _ => ?_) (fun hc => absurd (by decide) hc)
        refine z_fin xs _ ?_
        rw [s4, s3, s2, s1]
        exact z_d_n
