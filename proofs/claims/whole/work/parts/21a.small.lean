/-! The other methods of the class and of the reference. -/
def plq (l : List OTok) (k : Int) : Int := if 0 ≤ k ∧ k < l.length then (l.getD k.toNat (0, 0)).2 else -1
def spq (l : List OTok) (k i : Int) : Int := if 0 ≤ k ∧ k < l.length then wc (yw l k) i else -1
def ndv (N : List Nd) (k w : Int) : Int := if 0 ≤ k ∧ k < N.length then (if w = 0 then (ndg N k).1 else if w = 1 then (ndg N k).2.1 else if w = 2 then (ndg N k).2.2 else -2) else -2
theorem pu_len {Y : Int → Int64} {n : Int} (hY : ∀ k, n ≤ k → Y k = 0) : ∀ (m : Nat) (a : Int) (D : List Dcl) (r : Int × List Nd × Int × List Dcl × Bool), a ≤ n → pu Y n m a D = some r → (r.2.1.length : Int) ≤ n - a
  | 0, a, D, r, _, h => nns h
  | m + 1, a, D, r, an, h => by
    rw [pu] at h
    by_cases c : n ≤ a
    · rw [if_pos c] at h
      cases h
      show ((0 : Nat) : Int) ≤ _
      omega
    · rw [if_neg c] at h
      by_cases c2 : sdc D (Y a) = true
      · rw [if_pos c2] at h
        obtain ⟨q, hq, h2⟩ := bind_some h
        obtain ⟨s, hs, h3⟩ := bind_some h2
        have b := ps_r hY 1100 3 true false false 0 a D q (by decide) an hq
        have i := pu_len hY m q.1 q.2.2.2.1 s b.2.1 hs
        have b3 := b.2.2.1
        rw [if_neg (by decide)] at b3
        cases h3
        show ((q.2.1 ++ s.2.1).length : Int) ≤ _
        rw [List.length_append]
        omega
      · rw [if_neg c2] at h
        exact nns h
theorem Pnd_len {Y : Int → Int64} {n : Int} (hY : ∀ k, n ≤ k → Y k = 0) (n0 : 0 ≤ n) : ((Pnd Y n).length : Int) ≤ n + 1 := by
  unfold Pnd
  cases h : pu Y n 110 0 [] with
  | none =>
    show ((0 : Nat) : Int) ≤ _
    omega
  | some q =>
    have := pu_len hY 110 0 [] q n0 h
    show (((0, -1, q.2.2.1) :: q.2.1).length : Int) ≤ _
    rw [List.length_cons]
    omega
def okw (n c : Int) : Prop := n < 160 ∧ (c = 10 ∨ (32 ≤ c ∧ c ≤ 126))
theorem c_ch1 {sc : x_S} {d : Nat} {S : w_S} {f : Int} (f0 : 0 ≤ f) (f2 : f ≤ 2) (hd : 5 ≤ d) : w_T sc d 2 0 (x_en 0 [.ref 0, .int (iZ f)]) [] S (fun v S2 => v = some (.int (iZ 1)) ∧ S2 = w_v S 0 3 f) := by
  refine w_iload_n rfl rfl rfl ?_
  refine w_CS (as := [.int (iZ f)]) (r := []) rfl rfl rfl rfl (Nat.le_of_ble_eq_true rfl) (Nat.le_of_ble_eq_true rfl) (by omega) rfl (c_isfl (f := f) (by omega) (by omega)) ?_
  rintro _ _ ⟨rfl, hS⟩
  rw [hS]
  show w_T _ _ 2 4 _ [.int (iZ (zB (decide (0 ≤ f ∧ f < 3))))] _ _
  refine w_b_ne (pc2 := 9) (pc3 := 7) rfl (by decide) rfl (fun c4 => ?_) (fun c4 => ?_)
  · skip
    refine w_aload_n rfl rfl rfl ?_
    refine w_iload_n rfl rfl rfl ?_
    refine w_putf rfl rfl sh_0 rfl rfl (by decide) rfl ?_
    refine w_iconst rfl rfl ?_
    refine w_zret rfl rfl (by decide) ?_
    exact ⟨rfl, rfl⟩
  · exfalso; have := of_decide_eq_false c4; omega
theorem c_ch0 {sc : x_S} {d : Nat} {S : w_S} {f : Int} (hf : f < 0 ∨ 2 < f) (hr : -2147483648 ≤ f ∧ f < 2147483648) (hd : 5 ≤ d) : w_T sc d 2 0 (x_en 0 [.ref 0, .int (iZ f)]) [] S (fun v S2 => v = some (.int (iZ 0)) ∧ S2 = S) := by
  refine w_iload_n rfl rfl rfl ?_
  refine w_CS (as := [.int (iZ f)]) (r := []) rfl rfl rfl rfl (Nat.le_of_ble_eq_true rfl) (Nat.le_of_ble_eq_true rfl) (by omega) rfl (c_isfl (f := f) (by omega) (by omega)) ?_
  rintro _ _ ⟨rfl, hS⟩
  rw [hS]
  show w_T _ _ 2 4 _ [.int (iZ (zB (decide (0 ≤ f ∧ f < 3))))] _ _
  refine w_b_ne (pc2 := 9) (pc3 := 7) rfl (by decide) rfl (fun c4 => ?_) (fun c4 => ?_)
  · exfalso; have := of_decide_eq_true c4; omega
  · skip
    refine w_iconst rfl rfl ?_
    refine w_zret rfl rfl (by decide) ?_
    exact ⟨rfl, rfl⟩
theorem r_ch1 {sc : x_S} {d : Nat} {S : w_S} {f : Int} (f0 : 0 ≤ f) (f2 : f ≤ 2) (hd : 5 ≤ d) : w_T sc d 112 0 (x_en 0 [.ref 249, .int (iZ f)]) [] S (fun v S2 => v = some (.int (iZ 1)) ∧ S2 = w_v S 249 2 f) := by
  refine w_iload_n rfl rfl rfl ?_
  refine w_if_lt (pc2 := 9) (pc3 := 4) rfl (by decide) rfl ⟨by omega, by omega⟩ (fun c1 => ?_) (fun c1 => ?_)
  · exfalso; omega
  · skip
    refine w_iload_n rfl rfl rfl ?_
    refine w_iconst rfl rfl ?_
    refine w_ic_le (pc2 := 11) (pc3 := 9) rfl (by decide) rfl ⟨by omega, by omega⟩ ⟨by decide, by decide⟩ (fun c6 => ?_) (fun c6 => ?_)
    · skip
      refine w_aload_n rfl rfl rfl ?_
      refine w_iload_n rfl rfl rfl ?_
      refine w_putf rfl rfl sh_249 rfl rfl (by decide) rfl ?_
      refine w_iconst rfl rfl ?_
      refine w_zret rfl rfl (by decide) ?_
      exact ⟨rfl, rfl⟩
    · exfalso; omega
theorem r_ch0 {sc : x_S} {d : Nat} {S : w_S} {f : Int} (hf : f < 0 ∨ 2 < f) (hr : -2147483648 ≤ f ∧ f < 2147483648) (hd : 5 ≤ d) : w_T sc d 112 0 (x_en 0 [.ref 249, .int (iZ f)]) [] S (fun v S2 => v = some (.int (iZ 0)) ∧ S2 = S) := by
  refine w_iload_n rfl rfl rfl ?_
  refine w_if_lt (pc2 := 9) (pc3 := 4) rfl (by decide) rfl ⟨by omega, by omega⟩ (fun c1 => ?_) (fun c1 => ?_)
  · skip
    refine w_iconst rfl rfl ?_
    refine w_zret rfl rfl (by decide) ?_
    exact ⟨rfl, rfl⟩
  · skip
    refine w_iload_n rfl rfl rfl ?_
    refine w_iconst rfl rfl ?_
    refine w_ic_le (pc2 := 11) (pc3 := 9) rfl (by decide) rfl ⟨by omega, by omega⟩ ⟨by decide, by decide⟩ (fun c6 => ?_) (fun c6 => ?_)
    · exfalso; omega
    · skip
      refine w_iconst rfl rfl ?_
      refine w_zret rfl rfl (by decide) ?_
      exact ⟨rfl, rfl⟩
theorem c_ln1 {sc : x_S} {d : Nat} {S : w_S} {f : Nat} {n : Int} (hf : f < 3) (h1 : sR S 1 (f : Int) = some (243 + 2 * f)) (h2 : sv S (243 + 2 * f) 1 = n) (hd : 5 ≤ d) : w_T sc d 5 0 (x_en 0 [.ref 0, .int (iZ ((f : Int)))]) [] S (fun v S2 => v = some (.int (iZ n)) ∧ S2 = S) := by
  refine w_iload_n rfl rfl rfl ?_
  refine w_CS (as := [.int (iZ ((f : Int)))]) (r := []) rfl rfl rfl rfl (Nat.le_of_ble_eq_true rfl) (Nat.le_of_ble_eq_true rfl) (by omega) rfl (c_isfl (f := (f : Int)) (by omega) (by omega)) ?_
  rintro _ _ ⟨rfl, hS⟩
  rw [hS]
  show w_T _ _ 5 4 _ [.int (iZ (zB (decide (0 ≤ (f : Int) ∧ (f : Int) < 3))))] _ _
  refine w_b_eq (pc2 := 19) (pc3 := 7) rfl (by decide) rfl (fun c4 => ?_) (fun c4 => ?_)
  · exfalso; have := of_decide_eq_false c4; omega
  · skip
    refine w_aload_n rfl rfl rfl ?_
    refine w_getR rfl rfl sh_0 rfl rfl ?_
    refine w_iload_n rfl rfl rfl ?_
    refine w_aald rfl sh_1 rfl (by omega) (by omega) (by decide) h1 rfl ?_
    refine w_getI (z := n) rfl rfl (sh_txt hf) rfl h2 rfl ?_
    refine w_goto (pc2 := 20) rfl (by decide) ?_
    refine w_iret rfl rfl ?_
    exact ⟨rfl, rfl⟩
theorem c_ln0 {sc : x_S} {d : Nat} {S : w_S} {f : Int} (hf : f < 0 ∨ 2 < f) (hr : -2147483648 ≤ f ∧ f < 2147483648) (hd : 5 ≤ d) : w_T sc d 5 0 (x_en 0 [.ref 0, .int (iZ f)]) [] S (fun v S2 => v = some (.int (iZ (-1))) ∧ S2 = S) := by
  refine w_iload_n rfl rfl rfl ?_
  refine w_CS (as := [.int (iZ f)]) (r := []) rfl rfl rfl rfl (Nat.le_of_ble_eq_true rfl) (Nat.le_of_ble_eq_true rfl) (by omega) rfl (c_isfl (f := f) (by omega) (by omega)) ?_
  rintro _ _ ⟨rfl, hS⟩
  rw [hS]
  show w_T _ _ 5 4 _ [.int (iZ (zB (decide (0 ≤ f ∧ f < 3))))] _ _
  refine w_b_eq (pc2 := 19) (pc3 := 7) rfl (by decide) rfl (fun c4 => ?_) (fun c4 => ?_)
  · skip
    refine w_iconst rfl rfl ?_
    refine w_iret rfl rfl ?_
    exact ⟨rfl, rfl⟩
  · exfalso; have := of_decide_eq_true c4; omega
theorem r_ln1 {sc : x_S} {d : Nat} {S : w_S} {f n : Int} (f0 : 0 ≤ f) (f2 : f ≤ 2) (h2 : sA S 251 f = n) (hd : 5 ≤ d) : w_T sc d 115 0 (x_en 0 [.ref 249, .int (iZ f)]) [] S (fun v S2 => v = some (.int (iZ n)) ∧ S2 = S) := by
  refine w_iload_n rfl rfl rfl ?_
  refine w_if_lt (pc2 := 9) (pc3 := 4) rfl (by decide) rfl ⟨by omega, by omega⟩ (fun c1 => ?_) (fun c1 => ?_)
  · exfalso; omega
  · skip
    refine w_iload_n rfl rfl rfl ?_
    refine w_iconst rfl rfl ?_
    refine w_ic_le (pc2 := 13) (pc3 := 9) rfl (by decide) rfl ⟨by omega, by omega⟩ ⟨by decide, by decide⟩ (fun c6 => ?_) (fun c6 => ?_)
    · skip
      refine w_aload_n rfl rfl rfl ?_
      refine w_getR rfl rfl sh_249 rfl rfl ?_
      refine w_iload_n rfl rfl rfl ?_
      refine w_iald (z := n) rfl sh_251 (by omega) (by omega) (by decide) h2 rfl ?_
      refine w_iret rfl rfl ?_
      exact ⟨rfl, rfl⟩
    · exfalso; omega
theorem r_ln0 {sc : x_S} {d : Nat} {S : w_S} {f : Int} (hf : f < 0 ∨ 2 < f) (hr : -2147483648 ≤ f ∧ f < 2147483648) (hd : 5 ≤ d) : w_T sc d 115 0 (x_en 0 [.ref 249, .int (iZ f)]) [] S (fun v S2 => v = some (.int (iZ (-1))) ∧ S2 = S) := by
  refine w_iload_n rfl rfl rfl ?_
  refine w_if_lt (pc2 := 9) (pc3 := 4) rfl (by decide) rfl ⟨by omega, by omega⟩ (fun c1 => ?_) (fun c1 => ?_)
  · skip
    refine w_iconst rfl rfl ?_
    refine w_goto (pc2 := 19) rfl (by decide) ?_
    refine w_iret rfl rfl ?_
    exact ⟨rfl, rfl⟩
  · skip
    refine w_iload_n rfl rfl rfl ?_
    refine w_iconst rfl rfl ?_
    refine w_ic_le (pc2 := 13) (pc3 := 9) rfl (by decide) rfl ⟨by omega, by omega⟩ ⟨by decide, by decide⟩ (fun c6 => ?_) (fun c6 => ?_)
    · exfalso; omega
    · skip
      refine w_iconst rfl rfl ?_
      refine w_goto (pc2 := 19) rfl (by decide) ?_
      refine w_iret rfl rfl ?_
      exact ⟨rfl, rfl⟩
theorem c_clr {sc : x_S} {d : Nat} {S : w_S} {f : Nat} (hf : f < 3) (h0 : sv S 0 3 = (f : Int)) (h1 : sR S 1 (f : Int) = some (243 + 2 * f)) (hd : 5 ≤ d) : w_T sc d 4 0 (x_en 0 [.ref 0]) [] S (fun v S2 => v = none ∧ S2 = w_v S (243 + 2 * f) 1 0) := by
  refine w_aload_n rfl rfl rfl ?_
  refine w_getR rfl rfl sh_0 rfl rfl ?_
  refine w_aload_n rfl rfl rfl ?_
  refine w_getI (z := (f : Int)) rfl rfl sh_0 rfl h0 rfl ?_
  refine w_aald rfl sh_1 rfl (by omega) (by omega) (by decide) h1 rfl ?_
  refine w_iconst rfl rfl ?_
  refine w_putf rfl rfl (sh_txt hf) rfl rfl (by decide) rfl ?_
  refine w_vret rfl rfl ?_
  exact ⟨rfl, rfl⟩
theorem r_clr {sc : x_S} {d : Nat} {S : w_S} {f : Int} (f0 : 0 ≤ f) (f2 : f ≤ 2) (h0 : sv S 249 2 = f) (hd : 5 ≤ d) : w_T sc d 114 0 (x_en 0 [.ref 249]) [] S (fun v S2 => v = none ∧ S2 = w_A S 251 (w_u (sA S 251) f 0)) := by
  refine w_aload_n rfl rfl rfl ?_
  refine w_getR rfl rfl sh_249 rfl rfl ?_
  refine w_aload_n rfl rfl rfl ?_
  refine w_getI (z := f) rfl rfl sh_249 rfl h0 rfl ?_
  refine w_iconst rfl rfl ?_
  refine w_iaS (f := sA S 251) rfl sh_251 (by omega) (by omega) (by decide) rfl rfl ?_
  refine w_vret rfl rfl ?_
  exact ⟨rfl, rfl⟩
theorem c_ad1 {sc : x_S} {d : Nat} {S : w_S} {f : Nat} {n c : Int} (hf : f < 3) (h2 : sv S (243 + 2 * f) 1 = n) (n0 : 0 ≤ n) (n1 : n ≤ 160) (c0 : 0 ≤ c) (c1 : c < 65536) (hc : okw n c) (hd : 2 ≤ d) : w_T sc d 94 0 (x_en 0 [.ref (243 + 2 * f), .int (iZ c)]) [] S (fun v S2 => v = some (.int (iZ 1)) ∧ S2 = w_v (w_A S (244 + 2 * f) (w_u (sA S (244 + 2 * f)) n c)) (243 + 2 * f) 1 (n + 1)) := by
  unfold okw at hc
  refine w_iload_n rfl rfl rfl ?_
  refine w_bipush rfl (by decide) rfl ?_
  apply w_jn (A := w_T _ _ 94 23 _ [.int (iZ (zB (decide (c = 10 ∨ (32 ≤ c ∧ c ≤ 126)))))] _ _)
  · intro kT
    refine w_ic_eq (pc2 := 18) (pc3 := 6) rfl (by decide) rfl ⟨by omega, by omega⟩ ⟨by decide, by decide⟩ (fun q1 => ?_) (fun q1 => ?_)
    · skip
      refine w_iconst rfl rfl ?_
      refine w_goto (pc2 := 23) rfl (by decide) ?_
      exact w_j1 (p := c = 10 ∨ (32 ≤ c ∧ c ≤ 126)) (Or.inl q1) kT
    · skip
      refine w_iload_n rfl rfl rfl ?_
      refine w_bipush rfl (by decide) rfl ?_
      refine w_ic_lt (pc2 := 22) (pc3 := 12) rfl (by decide) rfl ⟨by omega, by omega⟩ ⟨by decide, by decide⟩ (fun q2 => ?_) (fun q2 => ?_)
      · skip
        refine w_iconst rfl rfl ?_
        exact w_j0 (p := c = 10 ∨ (32 ≤ c ∧ c ≤ 126)) (not_or.mpr ⟨q1, (fun q => (Int.not_le.mpr q2) q.1)⟩) kT
      · skip
        refine w_iload_n rfl rfl rfl ?_
        refine w_bipush rfl (by decide) rfl ?_
        refine w_ic_gt (pc2 := 22) (pc3 := 18) rfl (by decide) rfl ⟨by omega, by omega⟩ ⟨by decide, by decide⟩ (fun q3 => ?_) (fun q3 => ?_)
        · skip
          refine w_iconst rfl rfl ?_
          exact w_j0 (p := c = 10 ∨ (32 ≤ c ∧ c ≤ 126)) (not_or.mpr ⟨q1, (fun q => (Int.not_le.mpr q3) q.2)⟩) kT
        · skip
          refine w_iconst rfl rfl ?_
          refine w_goto (pc2 := 23) rfl (by decide) ?_
          exact w_j1 (p := c = 10 ∨ (32 ≤ c ∧ c ≤ 126)) (Or.inr ⟨q2, q3⟩) kT
  · show w_T _ _ 94 23 _ [.int (iZ (zB (decide (c = 10 ∨ (32 ≤ c ∧ c ≤ 126)))))] _ _
    refine w_istore_n rfl (by decide) rfl ?_
    refine w_aload_n rfl rfl rfl ?_
    refine w_getI (z := n) rfl rfl (sh_txt hf) rfl h2 rfl ?_
    refine w_sipush rfl (by decide) rfl ?_
    refine w_ic_ge (pc2 := 38) (pc3 := 34) rfl (by decide) rfl ⟨by omega, by omega⟩ ⟨by decide, by decide⟩ (fun c31 => ?_) (fun c31 => ?_)
    · exfalso; omega
    · skip
      refine w_iload_n rfl rfl rfl ?_
      refine w_p_ne (pc2 := 40) (pc3 := 38) rfl (by decide) rfl (fun c35 => ?_) (fun c35 => ?_)
      · skip
        refine w_aload_n rfl rfl rfl ?_
        refine w_getR rfl rfl (sh_txt hf) rfl rfl ?_
        refine w_aload_n rfl rfl rfl ?_
        refine w_getI (z := n) rfl rfl (sh_txt hf) rfl h2 rfl ?_
        refine w_iload_n rfl rfl rfl ?_
        refine w_caS (f := sA S (244 + 2 * f)) rfl (sh_txt1 hf) (by omega) (by omega) (by decide) (nar_c (by omega) (by omega)) rfl rfl ?_
        refine w_aload_n rfl rfl rfl ?_
        refine w_dup rfl rfl rfl ?_
        refine w_getI (z := n) rfl rfl (sh_txt hf) rfl h2 rfl ?_
        refine w_iconst rfl rfl ?_
        refine w_iadd rfl rfl ?_
        refine w_putf rfl rfl (sh_txt hf) rfl rfl (by decide) rfl ?_
        refine w_iconst rfl rfl ?_
        refine w_zret rfl rfl (by decide) ?_
        exact ⟨rfl, rfl⟩
      · exfalso; exact c35 (by omega)
theorem c_ad0 {sc : x_S} {d : Nat} {S : w_S} {f : Nat} {n c : Int} (hf : f < 3) (h2 : sv S (243 + 2 * f) 1 = n) (n0 : 0 ≤ n) (n1 : n ≤ 160) (c0 : 0 ≤ c) (c1 : c < 65536) (hc : ¬ okw n c) (hd : 2 ≤ d) : w_T sc d 94 0 (x_en 0 [.ref (243 + 2 * f), .int (iZ c)]) [] S (fun v S2 => v = some (.int (iZ 0)) ∧ S2 = S) := by
  unfold okw at hc
  refine w_iload_n rfl rfl rfl ?_
  refine w_bipush rfl (by decide) rfl ?_
  apply w_jn (A := w_T _ _ 94 23 _ [.int (iZ (zB (decide (c = 10 ∨ (32 ≤ c ∧ c ≤ 126)))))] _ _)
  · intro kT
    refine w_ic_eq (pc2 := 18) (pc3 := 6) rfl (by decide) rfl ⟨by omega, by omega⟩ ⟨by decide, by decide⟩ (fun q1 => ?_) (fun q1 => ?_)
    · skip
      refine w_iconst rfl rfl ?_
      refine w_goto (pc2 := 23) rfl (by decide) ?_
      exact w_j1 (p := c = 10 ∨ (32 ≤ c ∧ c ≤ 126)) (Or.inl q1) kT
    · skip
      refine w_iload_n rfl rfl rfl ?_
      refine w_bipush rfl (by decide) rfl ?_
      refine w_ic_lt (pc2 := 22) (pc3 := 12) rfl (by decide) rfl ⟨by omega, by omega⟩ ⟨by decide, by decide⟩ (fun q2 => ?_) (fun q2 => ?_)
      · skip
        refine w_iconst rfl rfl ?_
        exact w_j0 (p := c = 10 ∨ (32 ≤ c ∧ c ≤ 126)) (not_or.mpr ⟨q1, (fun q => (Int.not_le.mpr q2) q.1)⟩) kT
      · skip
        refine w_iload_n rfl rfl rfl ?_
        refine w_bipush rfl (by decide) rfl ?_
        refine w_ic_gt (pc2 := 22) (pc3 := 18) rfl (by decide) rfl ⟨by omega, by omega⟩ ⟨by decide, by decide⟩ (fun q3 => ?_) (fun q3 => ?_)
        · skip
          refine w_iconst rfl rfl ?_
          exact w_j0 (p := c = 10 ∨ (32 ≤ c ∧ c ≤ 126)) (not_or.mpr ⟨q1, (fun q => (Int.not_le.mpr q3) q.2)⟩) kT
        · skip
          refine w_iconst rfl rfl ?_
          refine w_goto (pc2 := 23) rfl (by decide) ?_
          exact w_j1 (p := c = 10 ∨ (32 ≤ c ∧ c ≤ 126)) (Or.inr ⟨q2, q3⟩) kT
  · show w_T _ _ 94 23 _ [.int (iZ (zB (decide (c = 10 ∨ (32 ≤ c ∧ c ≤ 126)))))] _ _
    refine w_istore_n rfl (by decide) rfl ?_
    refine w_aload_n rfl rfl rfl ?_
    refine w_getI (z := n) rfl rfl (sh_txt hf) rfl h2 rfl ?_
    refine w_sipush rfl (by decide) rfl ?_
    refine w_ic_ge (pc2 := 38) (pc3 := 34) rfl (by decide) rfl ⟨by omega, by omega⟩ ⟨by decide, by decide⟩ (fun c31 => ?_) (fun c31 => ?_)
    · skip
      refine w_iconst rfl rfl ?_
      refine w_zret rfl rfl (by decide) ?_
      exact ⟨rfl, rfl⟩
    · skip
      refine w_iload_n rfl rfl rfl ?_
      refine w_p_ne (pc2 := 40) (pc3 := 38) rfl (by decide) rfl (fun c35 => ?_) (fun c35 => ?_)
      · exfalso; exact hc ⟨by omega, by omega⟩
      · skip
        refine w_iconst rfl rfl ?_
        refine w_zret rfl rfl (by decide) ?_
        exact ⟨rfl, rfl⟩
theorem c_wr1 {sc : x_S} {d : Nat} {S : w_S} {f : Nat} {n c : Int} (hf : f < 3) (h2 : sv S (243 + 2 * f) 1 = n) (n0 : 0 ≤ n) (n1 : n ≤ 160) (c0 : 0 ≤ c) (c1 : c < 65536) (hc : okw n c) (h0 : sv S 0 3 = (f : Int)) (h1 : sR S 1 (f : Int) = some (243 + 2 * f)) (hd : 5 ≤ d) : w_T sc d 3 0 (x_en 0 [.ref 0, .int (iZ c)]) [] S (fun v S2 => v = some (.int (iZ 1)) ∧ S2 = w_v (w_A S (244 + 2 * f) (w_u (sA S (244 + 2 * f)) n c)) (243 + 2 * f) 1 (n + 1)) := by
  refine w_aload_n rfl rfl rfl ?_
  refine w_getR rfl rfl sh_0 rfl rfl ?_
  refine w_aload_n rfl rfl rfl ?_
  refine w_getI (z := (f : Int)) rfl rfl sh_0 rfl h0 rfl ?_
  refine w_aald rfl sh_1 rfl (by omega) (by omega) (by decide) h1 rfl ?_
  refine w_iload_n rfl rfl rfl ?_
  refine w_CV (as := [.int (iZ c)]) (r := []) rfl rfl rfl rfl (sh_txt hf) (Nat.le_of_ble_eq_true rfl) (Nat.le_of_ble_eq_true rfl) (by omega) rfl (c_ad1 hf h2 n0 n1 c0 c1 hc (by omega)) ?_
  rintro _ _ ⟨rfl, hS⟩
  rw [hS]
  show w_T _ _ 3 13 _ [.int (iZ 1)] _ _
  refine w_zret rfl rfl (by decide) ?_
  exact ⟨rfl, rfl⟩
theorem c_wr0 {sc : x_S} {d : Nat} {S : w_S} {f : Nat} {n c : Int} (hf : f < 3) (h2 : sv S (243 + 2 * f) 1 = n) (n0 : 0 ≤ n) (n1 : n ≤ 160) (c0 : 0 ≤ c) (c1 : c < 65536) (hc : ¬ okw n c) (h0 : sv S 0 3 = (f : Int)) (h1 : sR S 1 (f : Int) = some (243 + 2 * f)) (hd : 5 ≤ d) : w_T sc d 3 0 (x_en 0 [.ref 0, .int (iZ c)]) [] S (fun v S2 => v = some (.int (iZ 0)) ∧ S2 = S) := by
  refine w_aload_n rfl rfl rfl ?_
  refine w_getR rfl rfl sh_0 rfl rfl ?_
  refine w_aload_n rfl rfl rfl ?_
  refine w_getI (z := (f : Int)) rfl rfl sh_0 rfl h0 rfl ?_
  refine w_aald rfl sh_1 rfl (by omega) (by omega) (by decide) h1 rfl ?_
  refine w_iload_n rfl rfl rfl ?_
  refine w_CV (as := [.int (iZ c)]) (r := []) rfl rfl rfl rfl (sh_txt hf) (Nat.le_of_ble_eq_true rfl) (Nat.le_of_ble_eq_true rfl) (by omega) rfl (c_ad0 hf h2 n0 n1 c0 c1 hc (by omega)) ?_
  rintro _ _ ⟨rfl, hS⟩
  rw [hS]
  show w_T _ _ 3 13 _ [.int (iZ 0)] _ _
  refine w_zret rfl rfl (by decide) ?_
  exact ⟨rfl, rfl⟩
theorem r_wr1 {sc : x_S} {d : Nat} {S : w_S} {f n c : Int} (f0 : 0 ≤ f) (f2 : f ≤ 2) (h0 : sv S 249 2 = f) (h2 : sA S 251 f = n) (n0 : 0 ≤ n) (n1 : n ≤ 160) (c0 : 0 ≤ c) (c1 : c < 65536) (hc : okw n c) (hd : 5 ≤ d) : w_T sc d 113 0 (x_en 0 [.ref 249, .int (iZ c)]) [] S (fun v S2 => v = some (.int (iZ 1)) ∧ S2 = w_A (w_A S 250 (w_u (sA S 250) (160 * f + n) c)) 251 (w_u (sA S 251) f (n + 1))) := by
  unfold okw at hc
  refine w_aload_n rfl rfl rfl ?_
  refine w_getR rfl rfl sh_249 rfl rfl ?_
  refine w_aload_n rfl rfl rfl ?_
  refine w_getI (z := f) rfl rfl sh_249 rfl h0 rfl ?_
  refine w_iald (z := n) rfl sh_251 (by omega) (by omega) (by decide) h2 rfl ?_
  refine w_sipush rfl (by decide) rfl ?_
  refine w_ic_eq (pc2 := 33) (pc3 := 15) rfl (by decide) rfl ⟨by omega, by omega⟩ ⟨by decide, by decide⟩ (fun c12 => ?_) (fun c12 => ?_)
  · exfalso; omega
  · skip
    refine w_iload_n rfl rfl rfl ?_
    refine w_bipush rfl (by decide) rfl ?_
    refine w_ic_eq (pc2 := 35) (pc3 := 21) rfl (by decide) rfl ⟨by omega, by omega⟩ ⟨by decide, by decide⟩ (fun c18 => ?_) (fun c18 => ?_)
    · skip
      refine w_aload_n rfl rfl rfl ?_
      refine w_getR rfl rfl sh_249 rfl rfl ?_
      refine w_sipush rfl (by decide) rfl ?_
      refine w_aload_n rfl rfl rfl ?_
      refine w_getI (z := f) rfl rfl sh_249 rfl h0 rfl ?_
      refine w_imul rfl rfl ?_
      refine w_aload_n rfl rfl rfl ?_
      refine w_getR rfl rfl sh_249 rfl rfl ?_
      refine w_aload_n rfl rfl rfl ?_
      refine w_getI (z := f) rfl rfl sh_249 rfl h0 rfl ?_
      refine w_iald (z := n) rfl sh_251 (by omega) (by omega) (by decide) h2 rfl ?_
      refine w_iadd rfl rfl ?_
      refine w_iload_n rfl rfl rfl ?_
      refine w_iaS (f := sA S 250) rfl sh_250 (by omega) (by omega) (by decide) rfl rfl ?_
      refine w_aload_n rfl rfl rfl ?_
      refine w_getR rfl rfl sh_249 rfl rfl ?_
      refine w_aload_n rfl rfl rfl ?_
      refine w_getI (z := f) rfl rfl sh_249 rfl h0 rfl ?_
      refine w_dup2 rfl rfl rfl rfl ?_
      refine w_iald (z := n) rfl sh_251 (by omega) (by omega) (by decide) ((congrFun (rA_ne (by decide)) _).trans h2) rfl ?_
      refine w_iconst rfl rfl ?_
      refine w_iadd rfl rfl ?_
      refine w_iaS (f := sA S 251) rfl sh_251 (by omega) (by omega) (by decide) (rA_ne (by decide)) rfl ?_
      refine w_iconst rfl rfl ?_
      refine w_zret rfl rfl (by decide) ?_
      exact ⟨rfl, rfl⟩
    · skip
      refine w_iload_n rfl rfl rfl ?_
      refine w_bipush rfl (by decide) rfl ?_
      refine w_ic_lt (pc2 := 33) (pc3 := 27) rfl (by decide) rfl ⟨by omega, by omega⟩ ⟨by decide, by decide⟩ (fun c24 => ?_) (fun c24 => ?_)
      · exfalso; omega
      · skip
        refine w_iload_n rfl rfl rfl ?_
        refine w_bipush rfl (by decide) rfl ?_
        refine w_ic_le (pc2 := 35) (pc3 := 33) rfl (by decide) rfl ⟨by omega, by omega⟩ ⟨by decide, by decide⟩ (fun c30 => ?_) (fun c30 => ?_)
        · skip
          refine w_aload_n rfl rfl rfl ?_
          refine w_getR rfl rfl sh_249 rfl rfl ?_
          refine w_sipush rfl (by decide) rfl ?_
          refine w_aload_n rfl rfl rfl ?_
          refine w_getI (z := f) rfl rfl sh_249 rfl h0 rfl ?_
          refine w_imul rfl rfl ?_
          refine w_aload_n rfl rfl rfl ?_
          refine w_getR rfl rfl sh_249 rfl rfl ?_
          refine w_aload_n rfl rfl rfl ?_
          refine w_getI (z := f) rfl rfl sh_249 rfl h0 rfl ?_
          refine w_iald (z := n) rfl sh_251 (by omega) (by omega) (by decide) h2 rfl ?_
          refine w_iadd rfl rfl ?_
          refine w_iload_n rfl rfl rfl ?_
          refine w_iaS (f := sA S 250) rfl sh_250 (by omega) (by omega) (by decide) rfl rfl ?_
          refine w_aload_n rfl rfl rfl ?_
          refine w_getR rfl rfl sh_249 rfl rfl ?_
          refine w_aload_n rfl rfl rfl ?_
          refine w_getI (z := f) rfl rfl sh_249 rfl h0 rfl ?_
          refine w_dup2 rfl rfl rfl rfl ?_
          refine w_iald (z := n) rfl sh_251 (by omega) (by omega) (by decide) ((congrFun (rA_ne (by decide)) _).trans h2) rfl ?_
          refine w_iconst rfl rfl ?_
          refine w_iadd rfl rfl ?_
          refine w_iaS (f := sA S 251) rfl sh_251 (by omega) (by omega) (by decide) (rA_ne (by decide)) rfl ?_
          refine w_iconst rfl rfl ?_
          refine w_zret rfl rfl (by decide) ?_
          exact ⟨rfl, rfl⟩
        · exfalso; omega
theorem r_wr0 {sc : x_S} {d : Nat} {S : w_S} {f n c : Int} (f0 : 0 ≤ f) (f2 : f ≤ 2) (h0 : sv S 249 2 = f) (h2 : sA S 251 f = n) (n0 : 0 ≤ n) (n1 : n ≤ 160) (c0 : 0 ≤ c) (c1 : c < 65536) (hc : ¬ okw n c) (hd : 5 ≤ d) : w_T sc d 113 0 (x_en 0 [.ref 249, .int (iZ c)]) [] S (fun v S2 => v = some (.int (iZ 0)) ∧ S2 = S) := by
  unfold okw at hc
  refine w_aload_n rfl rfl rfl ?_
  refine w_getR rfl rfl sh_249 rfl rfl ?_
  refine w_aload_n rfl rfl rfl ?_
  refine w_getI (z := f) rfl rfl sh_249 rfl h0 rfl ?_
  refine w_iald (z := n) rfl sh_251 (by omega) (by omega) (by decide) h2 rfl ?_
  refine w_sipush rfl (by decide) rfl ?_
  refine w_ic_eq (pc2 := 33) (pc3 := 15) rfl (by decide) rfl ⟨by omega, by omega⟩ ⟨by decide, by decide⟩ (fun c12 => ?_) (fun c12 => ?_)
  · skip
    refine w_iconst rfl rfl ?_
    refine w_zret rfl rfl (by decide) ?_
    exact ⟨rfl, rfl⟩
  · skip
    refine w_iload_n rfl rfl rfl ?_
    refine w_bipush rfl (by decide) rfl ?_
    refine w_ic_eq (pc2 := 35) (pc3 := 21) rfl (by decide) rfl ⟨by omega, by omega⟩ ⟨by decide, by decide⟩ (fun c18 => ?_) (fun c18 => ?_)
    · exfalso; exact hc ⟨by omega, by omega⟩
    · skip
      refine w_iload_n rfl rfl rfl ?_
      refine w_bipush rfl (by decide) rfl ?_
      refine w_ic_lt (pc2 := 33) (pc3 := 27) rfl (by decide) rfl ⟨by omega, by omega⟩ ⟨by decide, by decide⟩ (fun c24 => ?_) (fun c24 => ?_)
      · skip
        refine w_iconst rfl rfl ?_
        refine w_zret rfl rfl (by decide) ?_
        exact ⟨rfl, rfl⟩
      · skip
        refine w_iload_n rfl rfl rfl ?_
        refine w_bipush rfl (by decide) rfl ?_
        refine w_ic_le (pc2 := 35) (pc3 := 33) rfl (by decide) rfl ⟨by omega, by omega⟩ ⟨by decide, by decide⟩ (fun c30 => ?_) (fun c30 => ?_)
        · exfalso; exact hc ⟨by omega, by omega⟩
        · skip
          refine w_iconst rfl rfl ?_
          refine w_zret rfl rfl (by decide) ?_
          exact ⟨rfl, rfl⟩
theorem c_vrd {sc : x_S} {d : Nat} {S : w_S} {z : Int} (h : sv S 0 4 = z) (hd : 2 ≤ d) : w_T sc d 7 0 (x_en 0 [.ref 0]) [] S (fun v S2 => v = some (.int (iZ z)) ∧ S2 = S) := by
  refine w_aload_n rfl rfl rfl ?_
  refine w_getI (z := z) rfl rfl sh_0 rfl h rfl ?_
  refine w_iret rfl rfl ?_
  exact ⟨rfl, rfl⟩
theorem r_vrd {sc : x_S} {d : Nat} {S : w_S} {z : Int} (h : sv S 249 50 = z) (hd : 2 ≤ d) : w_T sc d 164 0 (x_en 0 [.ref 249]) [] S (fun v S2 => v = some (.int (iZ z)) ∧ S2 = S) := by
  refine w_aload_n rfl rfl rfl ?_
  refine w_getI (z := z) rfl rfl sh_249 rfl h rfl ?_
  refine w_iret rfl rfl ?_
  exact ⟨rfl, rfl⟩
theorem c_tks {sc : x_S} {d : Nat} {S : w_S} {z : Int} (h : sv S 30 2 = z) (hd : 2 ≤ d) : w_T sc d 8 0 (x_en 0 [.ref 0]) [] S (fun v S2 => v = some (.int (iZ z)) ∧ S2 = S) := by
  refine w_aload_n rfl rfl rfl ?_
  refine w_getR rfl rfl sh_0 rfl rfl ?_
  refine w_getR rfl rfl sh_2 rfl rfl ?_
  refine w_getR rfl rfl sh_3 rfl rfl ?_
  refine w_getI (z := z) rfl rfl sh_30 rfl h rfl ?_
  refine w_iret rfl rfl ?_
  exact ⟨rfl, rfl⟩
theorem r_tks {sc : x_S} {d : Nat} {S : w_S} {z : Int} (h : sv S 249 49 = z) (hd : 2 ≤ d) : w_T sc d 165 0 (x_en 0 [.ref 249]) [] S (fun v S2 => v = some (.int (iZ z)) ∧ S2 = S) := by
  refine w_aload_n rfl rfl rfl ?_
  refine w_getI (z := z) rfl rfl sh_249 rfl h rfl ?_
  refine w_iret rfl rfl ?_
  exact ⟨rfl, rfl⟩
theorem c_rpl {sc : x_S} {d : Nat} {S : w_S} {z : Int} (h : sv S 3 2 = z) (hd : 2 ≤ d) : w_T sc d 11 0 (x_en 0 [.ref 0]) [] S (fun v S2 => v = some (.int (iZ z)) ∧ S2 = S) := by
  refine w_aload_n rfl rfl rfl ?_
  refine w_getR rfl rfl sh_0 rfl rfl ?_
  refine w_getR rfl rfl sh_2 rfl rfl ?_
  refine w_getI (z := z) rfl rfl sh_3 rfl h rfl ?_
  refine w_iret rfl rfl ?_
  exact ⟨rfl, rfl⟩
theorem r_rpl {sc : x_S} {d : Nat} {S : w_S} {z : Int} (h : sv S 249 23 = z) (hd : 2 ≤ d) : w_T sc d 168 0 (x_en 0 [.ref 249]) [] S (fun v S2 => v = some (.int (iZ z)) ∧ S2 = S) := by
  refine w_aload_n rfl rfl rfl ?_
  refine w_getI (z := z) rfl rfl sh_249 rfl h rfl ?_
  refine w_iret rfl rfl ?_
  exact ⟨rfl, rfl⟩
theorem c_mcs {sc : x_S} {d : Nat} {S : w_S} {z : Int} (h : sv S 4 1 = z) (hd : 2 ≤ d) : w_T sc d 12 0 (x_en 0 [.ref 0]) [] S (fun v S2 => v = some (.int (iZ z)) ∧ S2 = S) := by
  refine w_aload_n rfl rfl rfl ?_
  refine w_getR rfl rfl sh_0 rfl rfl ?_
  refine w_getR rfl rfl sh_2 rfl rfl ?_
  refine w_getR rfl rfl sh_3 rfl rfl ?_
  refine w_getI (z := z) rfl rfl sh_4 rfl h rfl ?_
  refine w_iret rfl rfl ?_
  exact ⟨rfl, rfl⟩
theorem c_nds {sc : x_S} {d : Nat} {S : w_S} {z : Int} (h : sv S 235 3 = z) (hd : 2 ≤ d) : w_T sc d 13 0 (x_en 0 [.ref 0]) [] S (fun v S2 => v = some (.int (iZ z)) ∧ S2 = S) := by
  refine w_aload_n rfl rfl rfl ?_
  refine w_getR rfl rfl sh_0 rfl rfl ?_
  refine w_getR rfl rfl sh_234 rfl rfl ?_
  refine w_getI (z := z) rfl rfl sh_235 rfl h rfl ?_
  refine w_iret rfl rfl ?_
  exact ⟨rfl, rfl⟩
theorem r_nds {sc : x_S} {d : Nat} {S : w_S} {z : Int} (h : sv S 249 56 = z) (hd : 2 ≤ d) : w_T sc d 170 0 (x_en 0 [.ref 249]) [] S (fun v S2 => v = some (.int (iZ z)) ∧ S2 = S) := by
  refine w_aload_n rfl rfl rfl ?_
  refine w_getI (z := z) rfl rfl sh_249 rfl h rfl ?_
  refine w_iret rfl rfl ?_
  exact ⟨rfl, rfl⟩
theorem c_itk {sc : x_S} {d : Nat} {S : w_S} {l : List OTok} {k : Int} (hl : sv S 30 2 = (l.length : Int)) (l1 : l.length ≤ 100) (hk : -2147483648 ≤ k ∧ k < 2147483648) (hd : 2 ≤ d) : w_T sc d 16 0 (x_en 0 [.ref 0, .int (iZ k)]) [] S (fun v S2 => v = some (.int (iZ (zB (decide (0 ≤ k ∧ k < (l.length : Int)))))) ∧ S2 = S) := by
  refine w_iload_n rfl rfl rfl ?_
  apply w_jn (A := w_T _ _ 16 26 _ [.int (iZ (zB (decide (0 ≤ k ∧ k < ((l.length : Int))))))] _ _)
  · intro kT
    refine w_if_lt (pc2 := 25) (pc3 := 4) rfl (by decide) rfl ⟨by omega, by omega⟩ (fun q1 => ?_) (fun q1 => ?_)
    · skip
      refine w_iconst rfl rfl ?_
      exact w_j0 (p := 0 ≤ k ∧ k < ((l.length : Int))) (fun q => (Int.not_le.mpr q1) q.1) kT
    · skip
      refine w_iload_n rfl rfl rfl ?_
      refine w_aload_n rfl rfl rfl ?_
      refine w_getR rfl rfl sh_0 rfl rfl ?_
      refine w_getR rfl rfl sh_2 rfl rfl ?_
      refine w_getR rfl rfl sh_3 rfl rfl ?_
      refine w_getI (z := (l.length : Int)) rfl rfl sh_30 rfl hl rfl ?_
      refine w_ic_ge (pc2 := 25) (pc3 := 21) rfl (by decide) rfl ⟨by omega, by omega⟩ ⟨by omega, by omega⟩ (fun q2 => ?_) (fun q2 => ?_)
      · skip
        refine w_iconst rfl rfl ?_
        exact w_j0 (p := 0 ≤ k ∧ k < ((l.length : Int))) (fun q => (Int.not_lt.mpr q2) q.2) kT
      · skip
        refine w_iconst rfl rfl ?_
        refine w_goto (pc2 := 26) rfl (by decide) ?_
        exact w_j1 (p := 0 ≤ k ∧ k < ((l.length : Int))) ⟨q1, q2⟩ kT
  · show w_T _ _ 16 26 _ [.int (iZ (zB (decide (0 ≤ k ∧ k < ((l.length : Int))))))] _ _
    refine w_bret rfl rfl ?_
    refine q_b ?_
    exact decide_eq_decide.2 (by constructor <;> (intro z; omega))
theorem c_plce {sc : x_S} {d : Nat} {S : w_S} {l : List OTok} {k : Int} (hl : sv S 30 2 = (l.length : Int)) (l1 : l.length ≤ 100) (ho : ofn (sL S 31) (sA S 32) 256 0 l) (hk : -2147483648 ≤ k ∧ k < 2147483648) (hd : 5 ≤ d) : w_T sc d 9 0 (x_en 0 [.ref 0, .int (iZ k)]) [] S (fun v S2 => v = some (.int (iZ (plq l k))) ∧ S2 = S) := by
  refine w_aload_n rfl rfl rfl ?_
  refine w_iload_n rfl rfl rfl ?_
  refine w_CV (as := [.int (iZ k)]) (r := []) rfl rfl rfl rfl sh_0 (Nat.le_of_ble_eq_true rfl) (Nat.le_of_ble_eq_true rfl) (by omega) rfl (c_itk (k := k) hl l1 hk (by omega)) ?_
  rintro _ _ ⟨rfl, hS⟩
  rw [hS]
  show w_T _ _ 9 5 _ [.int (iZ (zB (decide (0 ≤ k ∧ k < (l.length : Int)))))] _ _
  refine w_b_eq (pc2 := 25) (pc3 := 8) rfl (by decide) rfl (fun c5 => ?_) (fun c5 => ?_)
  · skip
    refine w_iconst rfl rfl ?_
    refine w_iret rfl rfl ?_
    refine q_i ?_
    unfold plq
    rw [if_neg (of_decide_eq_false c5)]
  · skip
    have c5p := of_decide_eq_true c5
    have hz : sL S 31 k = (l.getD k.toNat (0, 0)).1 ∧ sA S 32 k / 256 = (l.getD k.toNat (0, 0)).2 ∧ 0 ≤ sA S 32 k ∧ sA S 32 k < 2147483648 := by
      have q := ofn_get l 0 ho k.toNat (by omega)
      rw [show (0 : Int) + (k.toNat : Int) = k by omega] at q
      exact q
    refine w_aload_n rfl rfl rfl ?_
    refine w_getR rfl rfl sh_0 rfl rfl ?_
    refine w_getR rfl rfl sh_2 rfl rfl ?_
    refine w_getR rfl rfl sh_3 rfl rfl ?_
    refine w_iload_n rfl rfl rfl ?_
    refine w_CV (as := [.int (iZ k)]) (r := []) rfl rfl rfl rfl sh_30 (Nat.le_of_ble_eq_true rfl) (Nat.le_of_ble_eq_true rfl) (by omega) rfl (c_plc (a := 30) (b := 31) (c := 32) (n := 100) (i := k) ⟨sh_30, sh_31, sh_32⟩ (by decide) (by omega) (by omega) hz.2.2.1 hz.2.2.2 (by omega)) ?_
    rintro _ _ ⟨rfl, hS⟩
    rw [hS]
    show w_T _ _ 9 22 _ [.int (iZ (sA S 32 k / 256))] _ _
    refine w_goto (pc2 := 26) rfl (by decide) ?_
    refine w_iret rfl rfl ?_
    refine q_i ?_
    unfold plq
    rw [if_pos c5p]
    exact hz.2.1
theorem r_plce {sc : x_S} {d : Nat} {S : w_S} {l : List OTok} {k : Int} (hl : sv S 249 49 = (l.length : Int)) (l1 : l.length ≤ 100) (ho : ofn (sL S 285) (sA S 286) 1 0 l) (hk : -2147483648 ≤ k ∧ k < 2147483648) (hd : 5 ≤ d) : w_T sc d 166 0 (x_en 0 [.ref 249, .int (iZ k)]) [] S (fun v S2 => v = some (.int (iZ (plq l k))) ∧ S2 = S) := by
  refine w_iload_n rfl rfl rfl ?_
  refine w_if_lt (pc2 := 12) (pc3 := 4) rfl (by decide) rfl ⟨by omega, by omega⟩ (fun c1 => ?_) (fun c1 => ?_)
  · skip
    refine w_iconst rfl rfl ?_
    refine w_goto (pc2 := 22) rfl (by decide) ?_
    refine w_iret rfl rfl ?_
    refine q_i ?_
    unfold plq
    rw [if_neg (by omega)]
  · skip
    refine w_iload_n rfl rfl rfl ?_
    refine w_aload_n rfl rfl rfl ?_
    refine w_getI (z := (l.length : Int)) rfl rfl sh_249 rfl hl rfl ?_
    refine w_ic_lt (pc2 := 16) (pc3 := 12) rfl (by decide) rfl ⟨by omega, by omega⟩ ⟨by omega, by omega⟩ (fun c9 => ?_) (fun c9 => ?_)
    · skip
      have hz : sL S 285 k = (l.getD k.toNat (0, 0)).1 ∧ sA S 286 k / 1 = (l.getD k.toNat (0, 0)).2 ∧ 0 ≤ sA S 286 k ∧ sA S 286 k < 2147483648 := by
        have q := ofn_get l 0 ho k.toNat (by omega)
        rw [show (0 : Int) + (k.toNat : Int) = k by omega] at q
        exact q
      refine w_aload_n rfl rfl rfl ?_
      refine w_getR rfl rfl sh_249 rfl rfl ?_
      refine w_iload_n rfl rfl rfl ?_
      refine w_iald (z := sA S 286 k) rfl sh_286 (by omega) (by omega) (by decide) rfl rfl ?_
      refine w_iret rfl rfl ?_
      refine q_i ?_
      unfold plq
      rw [if_pos (by omega), ← hz.2.1, Int.ediv_one]
    · skip
      refine w_iconst rfl rfl ?_
      refine w_goto (pc2 := 22) rfl (by decide) ?_
      refine w_iret rfl rfl ?_
      refine q_i ?_
      unfold plq
      rw [if_neg (by omega)]
theorem c_splg {sc : x_S} {d : Nat} {S : w_S} {l : List OTok} {k i : Int} (hl : sv S 30 2 = (l.length : Int)) (l1 : l.length ≤ 100) (ho : ofn (sL S 31) (sA S 32) 256 0 l) (hg : ogw l) (hk : -2147483648 ≤ k ∧ k < 2147483648) (hi : -2147483648 ≤ i ∧ i < 2147483648) (hd : 5 ≤ d) : w_T sc d 10 0 (x_en 0 [.ref 0, .int (iZ k), .int (iZ i)]) [] S (fun v S2 => v = some (.int (iZ (spq l k i))) ∧ S2 = S) := by
  refine w_aload_n rfl rfl rfl ?_
  refine w_iload_n rfl rfl rfl ?_
  refine w_CV (as := [.int (iZ k)]) (r := []) rfl rfl rfl rfl sh_0 (Nat.le_of_ble_eq_true rfl) (Nat.le_of_ble_eq_true rfl) (by omega) rfl (c_itk (k := k) hl l1 hk (by omega)) ?_
  rintro _ _ ⟨rfl, hS⟩
  rw [hS]
  show w_T _ _ 10 5 _ [.int (iZ (zB (decide (0 ≤ k ∧ k < (l.length : Int)))))] _ _
  refine w_b_eq (pc2 := 30) (pc3 := 8) rfl (by decide) rfl (fun c5 => ?_) (fun c5 => ?_)
  · skip
    refine w_iconst rfl rfl ?_
    refine w_iret rfl rfl ?_
    refine q_i ?_
    unfold spq
    rw [if_neg (of_decide_eq_false c5)]
  · skip
    have c5p := of_decide_eq_true c5
    refine w_aload_n rfl rfl rfl ?_
    refine w_getR rfl rfl sh_0 rfl rfl ?_
    refine w_getR rfl rfl sh_2 rfl rfl ?_
    refine w_getR rfl rfl sh_3 rfl rfl ?_
    refine w_getR rfl rfl sh_30 rfl rfl ?_
    refine w_iload_n rfl rfl rfl ?_
    refine w_lald (z := yw l k) rfl sh_31 (by omega) (by omega) (by decide) (ofn_yw ho c5p.1 c5p.2).1 rfl ?_
    refine w_iload_n rfl rfl rfl ?_
    refine w_CS (as := [.long (yw l k), .int (iZ i)]) (r := []) rfl rfl rfl rfl (Nat.le_of_ble_eq_true rfl) (Nat.le_of_ble_eq_true rfl) (by omega) rfl (c_let (x := yw l k) (i := i) (Int.le_of_lt (yw_gw hg c5p.1 c5p.2).1) ⟨by omega, by omega⟩ (by omega)) ?_
    rintro _ _ ⟨rfl, hS⟩
    rw [hS]
    show w_T _ _ 10 27 _ [.int (iZ (wc (yw l k) i))] _ _
    refine w_goto (pc2 := 31) rfl (by decide) ?_
    refine w_iret rfl rfl ?_
    refine q_i ?_
    unfold spq
    rw [if_pos c5p]
theorem r_spl {sc : x_S} {d : Nat} {S : w_S} {l : List OTok} {k i : Int} (hl : sv S 249 49 = (l.length : Int)) (l1 : l.length ≤ 100) (ho : ofn (sL S 285) (sA S 286) 1 0 l) (hg : ogw l) (hk : -2147483648 ≤ k ∧ k < 2147483648) (hi : -2147483648 ≤ i ∧ i < 2147483648) (hd : 5 ≤ d) : w_T sc d 167 0 (x_en 0 [.ref 249, .int (iZ k), .int (iZ i)]) [] S (fun v S2 => v = some (.int (iZ (spq l k i))) ∧ S2 = S) := by
  refine w_iload_n rfl rfl rfl ?_
  refine w_if_lt (pc2 := 12) (pc3 := 4) rfl (by decide) rfl ⟨by omega, by omega⟩ (fun c1 => ?_) (fun c1 => ?_)
  · skip
    refine w_iconst rfl rfl ?_
    refine w_goto (pc2 := 26) rfl (by decide) ?_
    refine w_iret rfl rfl ?_
    refine q_i ?_
    unfold spq
    rw [if_neg (by omega)]
  · skip
    refine w_iload_n rfl rfl rfl ?_
    refine w_aload_n rfl rfl rfl ?_
    refine w_getI (z := (l.length : Int)) rfl rfl sh_249 rfl hl rfl ?_
    refine w_ic_lt (pc2 := 16) (pc3 := 12) rfl (by decide) rfl ⟨by omega, by omega⟩ ⟨by omega, by omega⟩ (fun c9 => ?_) (fun c9 => ?_)
    · skip
      refine w_aload_n rfl rfl rfl ?_
      refine w_getR rfl rfl sh_249 rfl rfl ?_
      refine w_iload_n rfl rfl rfl ?_
      refine w_lald (z := yw l k) rfl sh_285 (by omega) (by omega) (by decide) (ofn_yw ho (by omega) (by omega)).1 rfl ?_
      refine w_iload_n rfl rfl rfl ?_
      refine w_CS (as := [.long (yw l k), .int (iZ i)]) (r := []) rfl rfl rfl rfl (Nat.le_of_ble_eq_true rfl) (Nat.le_of_ble_eq_true rfl) (by omega) rfl (r_let (x := yw l k) (i := i) (Int.le_of_lt (yw_gw hg (by omega) (by omega)).1) ⟨by omega, by omega⟩ (by omega)) ?_
      rintro _ _ ⟨rfl, hS⟩
      rw [hS]
      show w_T _ _ 167 26 _ [.int (iZ (wc (yw l k) i))] _ _
      refine w_iret rfl rfl ?_
      refine q_i ?_
      unfold spq
      rw [if_pos (by omega)]
    · skip
      refine w_iconst rfl rfl ?_
      refine w_goto (pc2 := 26) rfl (by decide) ?_
      refine w_iret rfl rfl ?_
      refine q_i ?_
      unfold spq
      rw [if_neg (by omega)]
theorem c_nod0 {sc : x_S} {d : Nat} {S : w_S} {N : List Nd} {k : Int} (ht : trep S N) (hN : N.length ≤ 201) (hk : -2147483648 ≤ k ∧ k < 2147483648) (hd : 5 ≤ d) : w_T sc d 14 0 (x_en 0 [.ref 0, .int (iZ k), .int (iZ 0)]) [] S (fun v S2 => v = some (.int (iZ (ndv N k 0))) ∧ S2 = S) := by
  refine w_aload_n rfl rfl rfl ?_
  refine w_getR rfl rfl sh_0 rfl rfl ?_
  refine w_getR rfl rfl sh_234 rfl rfl ?_
  refine w_astore_n rfl (by decide) rfl ?_
  refine w_iload_n rfl rfl rfl ?_
  refine w_if_lt (pc2 := 20) (pc3 := 12) rfl (by decide) rfl ⟨by omega, by omega⟩ (fun c9 => ?_) (fun c9 => ?_)
  · skip
    refine w_bipush rfl (by decide) rfl ?_
    refine w_iret rfl rfl ?_
    refine q_i ?_
    unfold ndv
    rw [if_neg (by omega)]
  · skip
    refine w_iload_n rfl rfl rfl ?_
    refine w_aload_n rfl rfl rfl ?_
    refine w_getI (z := (N.length : Int)) rfl rfl sh_235 rfl ht.1 rfl ?_
    refine w_ic_lt (pc2 := 23) (pc3 := 20) rfl (by decide) rfl ⟨by omega, by omega⟩ ⟨by omega, by omega⟩ (fun c17 => ?_) (fun c17 => ?_)
    · skip
      refine w_iload_n rfl rfl rfl ?_
      refine w_ts (pc2 := 52) rfl rfl ?_
      refine w_aload_n rfl rfl rfl ?_
      refine w_getR rfl rfl sh_235 rfl rfl ?_
      refine w_iload_n rfl rfl rfl ?_
      refine w_iald (z := (ndg N k).1) rfl sh_236 (by omega) (by omega) (by decide) (ht.2 k (by omega) (by omega)).1 rfl ?_
      refine w_iret rfl rfl ?_
      refine q_i ?_
      unfold ndv
      rw [if_pos (by omega)]
      rfl
    · skip
      refine w_bipush rfl (by decide) rfl ?_
      refine w_iret rfl rfl ?_
      refine q_i ?_
      unfold ndv
      rw [if_neg (by omega)]
theorem c_nod1 {sc : x_S} {d : Nat} {S : w_S} {N : List Nd} {k : Int} (ht : trep S N) (hN : N.length ≤ 201) (hk : -2147483648 ≤ k ∧ k < 2147483648) (hd : 5 ≤ d) : w_T sc d 14 0 (x_en 0 [.ref 0, .int (iZ k), .int (iZ 1)]) [] S (fun v S2 => v = some (.int (iZ (ndv N k 1))) ∧ S2 = S) := by
  refine w_aload_n rfl rfl rfl ?_
  refine w_getR rfl rfl sh_0 rfl rfl ?_
  refine w_getR rfl rfl sh_234 rfl rfl ?_
  refine w_astore_n rfl (by decide) rfl ?_
  refine w_iload_n rfl rfl rfl ?_
  refine w_if_lt (pc2 := 20) (pc3 := 12) rfl (by decide) rfl ⟨by omega, by omega⟩ (fun c9 => ?_) (fun c9 => ?_)
  · skip
    refine w_bipush rfl (by decide) rfl ?_
    refine w_iret rfl rfl ?_
    refine q_i ?_
    unfold ndv
    rw [if_neg (by omega)]
  · skip
    refine w_iload_n rfl rfl rfl ?_
    refine w_aload_n rfl rfl rfl ?_
    refine w_getI (z := (N.length : Int)) rfl rfl sh_235 rfl ht.1 rfl ?_
    refine w_ic_lt (pc2 := 23) (pc3 := 20) rfl (by decide) rfl ⟨by omega, by omega⟩ ⟨by omega, by omega⟩ (fun c17 => ?_) (fun c17 => ?_)
    · skip
      refine w_iload_n rfl rfl rfl ?_
      refine w_ts (pc2 := 59) rfl rfl ?_
      refine w_aload_n rfl rfl rfl ?_
      refine w_getR rfl rfl sh_235 rfl rfl ?_
      refine w_iload_n rfl rfl rfl ?_
      refine w_iald (z := (ndg N k).2.1) rfl sh_237 (by omega) (by omega) (by decide) (ht.2 k (by omega) (by omega)).2.1 rfl ?_
      refine w_iret rfl rfl ?_
      refine q_i ?_
      unfold ndv
      rw [if_pos (by omega)]
      rfl
    · skip
      refine w_bipush rfl (by decide) rfl ?_
      refine w_iret rfl rfl ?_
      refine q_i ?_
      unfold ndv
      rw [if_neg (by omega)]
theorem c_nod2 {sc : x_S} {d : Nat} {S : w_S} {N : List Nd} {k : Int} (ht : trep S N) (hN : N.length ≤ 201) (hk : -2147483648 ≤ k ∧ k < 2147483648) (hd : 5 ≤ d) : w_T sc d 14 0 (x_en 0 [.ref 0, .int (iZ k), .int (iZ 2)]) [] S (fun v S2 => v = some (.int (iZ (ndv N k 2))) ∧ S2 = S) := by
  refine w_aload_n rfl rfl rfl ?_
  refine w_getR rfl rfl sh_0 rfl rfl ?_
  refine w_getR rfl rfl sh_234 rfl rfl ?_
  refine w_astore_n rfl (by decide) rfl ?_
  refine w_iload_n rfl rfl rfl ?_
  refine w_if_lt (pc2 := 20) (pc3 := 12) rfl (by decide) rfl ⟨by omega, by omega⟩ (fun c9 => ?_) (fun c9 => ?_)
  · skip
    refine w_bipush rfl (by decide) rfl ?_
    refine w_iret rfl rfl ?_
    refine q_i ?_
    unfold ndv
    rw [if_neg (by omega)]
  · skip
    refine w_iload_n rfl rfl rfl ?_
    refine w_aload_n rfl rfl rfl ?_
    refine w_getI (z := (N.length : Int)) rfl rfl sh_235 rfl ht.1 rfl ?_
    refine w_ic_lt (pc2 := 23) (pc3 := 20) rfl (by decide) rfl ⟨by omega, by omega⟩ ⟨by omega, by omega⟩ (fun c17 => ?_) (fun c17 => ?_)
    · skip
      refine w_iload_n rfl rfl rfl ?_
      refine w_ts (pc2 := 66) rfl rfl ?_
      refine w_aload_n rfl rfl rfl ?_
      refine w_getR rfl rfl sh_235 rfl rfl ?_
      refine w_iload_n rfl rfl rfl ?_
      refine w_iald (z := (ndg N k).2.2) rfl sh_238 (by omega) (by omega) (by decide) (ht.2 k (by omega) (by omega)).2.2 rfl ?_
      refine w_iret rfl rfl ?_
      refine q_i ?_
      unfold ndv
      rw [if_pos (by omega)]
      rfl
    · skip
      refine w_bipush rfl (by decide) rfl ?_
      refine w_iret rfl rfl ?_
      refine q_i ?_
      unfold ndv
      rw [if_neg (by omega)]
theorem c_nodx {sc : x_S} {d : Nat} {S : w_S} {N : List Nd} {k w : Int} (ht : trep S N) (hN : N.length ≤ 201) (hk : -2147483648 ≤ k ∧ k < 2147483648) (hw : w < 0 ∨ 2 < w) (hr : -2147483648 ≤ w ∧ w < 2147483648) (hd : 5 ≤ d) : w_T sc d 14 0 (x_en 0 [.ref 0, .int (iZ k), .int (iZ w)]) [] S (fun v S2 => v = some (.int (iZ (ndv N k w))) ∧ S2 = S) := by
  refine w_aload_n rfl rfl rfl ?_
  refine w_getR rfl rfl sh_0 rfl rfl ?_
  refine w_getR rfl rfl sh_234 rfl rfl ?_
  refine w_astore_n rfl (by decide) rfl ?_
  refine w_iload_n rfl rfl rfl ?_
  refine w_if_lt (pc2 := 20) (pc3 := 12) rfl (by decide) rfl ⟨by omega, by omega⟩ (fun c9 => ?_) (fun c9 => ?_)
  · skip
    refine w_bipush rfl (by decide) rfl ?_
    refine w_iret rfl rfl ?_
    refine q_i ?_
    unfold ndv
    rw [if_neg (by omega)]
  · skip
    refine w_iload_n rfl rfl rfl ?_
    refine w_aload_n rfl rfl rfl ?_
    refine w_getI (z := (N.length : Int)) rfl rfl sh_235 rfl ht.1 rfl ?_
    refine w_ic_lt (pc2 := 23) (pc3 := 20) rfl (by decide) rfl ⟨by omega, by omega⟩ ⟨by omega, by omega⟩ (fun c17 => ?_) (fun c17 => ?_)
    · skip
      refine w_iload_n rfl rfl rfl ?_
      refine w_ts (pc2 := 73) rfl (by show (if (iZ w).toInt < 0 ∨ 2 < (iZ w).toInt then _ else _) = _; rw [iZ_toInt hr, if_pos hw]; rfl) ?_
      refine w_bipush rfl (by decide) rfl ?_
      refine w_iret rfl rfl ?_
      refine q_i ?_
      unfold ndv
      rw [if_pos (by omega), if_neg (by omega), if_neg (by omega), if_neg (by omega)]
    · skip
      refine w_bipush rfl (by decide) rfl ?_
      refine w_iret rfl rfl ?_
      refine q_i ?_
      unfold ndv
      rw [if_neg (by omega)]
theorem r_nod {sc : x_S} {d : Nat} {S : w_S} {N : List Nd} {k w : Int} (ht : nrep S N) (hk : -2147483648 ≤ k ∧ k < 2147483648) (hr : -2147483648 ≤ w ∧ w < 2147483648) (hd : 5 ≤ d) : w_T sc d 171 0 (x_en 0 [.ref 249, .int (iZ k), .int (iZ w)]) [] S (fun v S2 => v = some (.int (iZ (ndv N k w))) ∧ S2 = S) := by
  have hN := ht.2.1
  refine w_iload_n rfl rfl rfl ?_
  refine w_if_lt (pc2 := 21) (pc3 := 4) rfl (by decide) rfl ⟨by omega, by omega⟩ (fun c1 => ?_) (fun c1 => ?_)
  · skip
    refine w_bipush rfl (by decide) rfl ?_
    refine w_iret rfl rfl ?_
    refine q_i ?_
    unfold ndv
    by_cases z : 0 ≤ k ∧ k < N.length
    · rw [if_pos z, if_neg (by omega), if_neg (by omega), if_neg (by omega)]
    · rw [if_neg z]
  · skip
    refine w_iload_n rfl rfl rfl ?_
    refine w_aload_n rfl rfl rfl ?_
    refine w_getI (z := (N.length : Int)) rfl rfl sh_249 rfl ht.1 rfl ?_
    refine w_ic_ge (pc2 := 21) (pc3 := 12) rfl (by decide) rfl ⟨by omega, by omega⟩ ⟨by omega, by omega⟩ (fun c9 => ?_) (fun c9 => ?_)
    · skip
      refine w_bipush rfl (by decide) rfl ?_
      refine w_iret rfl rfl ?_
      refine q_i ?_
      unfold ndv
      by_cases z : 0 ≤ k ∧ k < N.length
      · rw [if_pos z, if_neg (by omega), if_neg (by omega), if_neg (by omega)]
      · rw [if_neg z]
    · skip
      refine w_iload_n rfl rfl rfl ?_
      refine w_if_lt (pc2 := 21) (pc3 := 16) rfl (by decide) rfl ⟨by omega, by omega⟩ (fun c13 => ?_) (fun c13 => ?_)
      · skip
        refine w_bipush rfl (by decide) rfl ?_
        refine w_iret rfl rfl ?_
        refine q_i ?_
        unfold ndv
        by_cases z : 0 ≤ k ∧ k < N.length
        · rw [if_pos z, if_neg (by omega), if_neg (by omega), if_neg (by omega)]
        · rw [if_neg z]
      · skip
        refine w_iload_n rfl rfl rfl ?_
        refine w_iconst rfl rfl ?_
        refine w_ic_le (pc2 := 24) (pc3 := 21) rfl (by decide) rfl ⟨by omega, by omega⟩ ⟨by decide, by decide⟩ (fun c18 => ?_) (fun c18 => ?_)
        · skip
          refine w_iload_n rfl rfl rfl ?_
          refine w_if_ne (pc2 := 37) (pc3 := 28) rfl (by decide) rfl ⟨by omega, by omega⟩ (fun c25 => ?_) (fun c25 => ?_)
          · skip
            refine w_iload_n rfl rfl rfl ?_
            refine w_iconst rfl rfl ?_
            refine w_ic_ne (pc2 := 51) (pc3 := 42) rfl (by decide) rfl ⟨by omega, by omega⟩ ⟨by decide, by decide⟩ (fun c39 => ?_) (fun c39 => ?_)
            · skip
              refine w_aload_n rfl rfl rfl ?_
              refine w_getR rfl rfl sh_249 rfl rfl ?_
              refine w_iload_n rfl rfl rfl ?_
              refine w_iald (z := (ndg N k).2.2) rfl sh_291 (by omega) (by omega) (by decide) (ht.2.2 k (by omega) (by omega)).2.2 rfl ?_
              refine w_iret rfl rfl ?_
              refine q_i ?_
              unfold ndv
              rw [if_pos (by omega), if_neg (by omega), if_neg (by omega), if_pos (by omega)]
            · skip
              refine w_aload_n rfl rfl rfl ?_
              refine w_getR rfl rfl sh_249 rfl rfl ?_
              refine w_iload_n rfl rfl rfl ?_
              refine w_iald (z := (ndg N k).2.1) rfl sh_290 (by omega) (by omega) (by decide) (ht.2.2 k (by omega) (by omega)).2.1 rfl ?_
              refine w_goto (pc2 := 57) rfl (by decide) ?_
              refine w_iret rfl rfl ?_
              refine q_i ?_
              unfold ndv
              rw [if_pos (by omega), if_neg (by omega), if_pos (by omega)]
          · skip
            refine w_aload_n rfl rfl rfl ?_
            refine w_getR rfl rfl sh_249 rfl rfl ?_
            refine w_iload_n rfl rfl rfl ?_
            refine w_iald (z := (ndg N k).1) rfl sh_289 (by omega) (by omega) (by decide) (ht.2.2 k (by omega) (by omega)).1 rfl ?_
            refine w_goto (pc2 := 57) rfl (by decide) ?_
            refine w_iret rfl rfl ?_
            refine q_i ?_
            unfold ndv
            rw [if_pos (by omega), if_pos (by omega)]
        · skip
          refine w_bipush rfl (by decide) rfl ?_
          refine w_iret rfl rfl ?_
          refine q_i ?_
          unfold ndv
          by_cases z : 0 ≤ k ∧ k < N.length
          · rw [if_pos z, if_neg (by omega), if_neg (by omega), if_neg (by omega)]
          · rw [if_neg z]
