/-! The law, call by call. -/
theorem w_scld {L : Nat} {xs : Nat → Int32} {d k pc pc2 : Nat} {lv : x_L} {st : List Value} {S : w_S} {Q : Option Value → w_S → Prop} {j : Int} (hi : x_ins k pc = some .iaload) (j0 : 0 ≤ j) (j1 : j < (L : Int)) (hL : L ≤ 1536) (hn : pc + 1 = pc2) (t : w_T (some (L, xs)) d k pc2 lv (.int (iZ (xs j.toNat).toInt) :: st) S Q) : w_T (some (L, xs)) d k pc lv (.int (iZ j) :: .retAddr 0 :: st) S Q := fun h hW => x_T_scld hi (iZ_in j0 j1 (by omega)) rfl hn (by
  show x_T _ _ _ _ _ (.int (xs (iZ j).toNatClampNeg) :: st) _ _
  rw [iZ_clamp ⟨by omega, by omega⟩]
  have q := t h hW
  rw [iZ_back] at q
  exact q)
theorem w_sclen {L : Nat} {xs : Nat → Int32} {d k pc pc2 : Nat} {lv : x_L} {st : List Value} {S : w_S} {Q : Option Value → w_S → Prop} (hi : x_ins k pc = some .arraylength) (hn : pc + 1 = pc2) (t : w_T (some (L, xs)) d k pc2 lv (.int (iZ (L : Int)) :: st) S Q) : w_T (some (L, xs)) d k pc lv (.retAddr 0 :: st) S Q := fun h hW => x_T_sclen hi hn (by
  have q := t h hW
  have e : iZ (L : Int) = Int32.ofNat L := by unfold iZ; rw [Int32.ofInt_eq_ofNat]
  rw [e] at q
  exact q)
theorem w_ic_same {sc : x_S} {d k pc pc2 : Nat} {lv : x_L} {st : List Value} {S : w_S} {Q : Option Value → w_S → Prop} {v : Int32} {off : Int} (hi : x_ins k pc = some (.if_icmp .eq off)) (hn : (pc : Int) + off = (pc2 : Int)) (t : w_T sc d k pc2 lv st S Q) : w_T sc d k pc lv (.int v :: .int v :: st) S Q := fun h hW => x_T_ic hi hn rfl (fun _ => t h hW) (fun hc => absurd (show x_cc .eq v v = true from decide_eq_true rfl) hc)
def KL (sc : x_S) (d : Nat) (Q : Option Value → w_S → Prop) (i : Int) : Prop := ∀ (S : w_S) (F : Int → (Int → Int) × Int) (c : Nat) (R : Rst) (lv : x_L), LV9 S F c R → lv 0 = some (.retAddr 0) → lv 1 = some (.ref 0) → lv 2 = some (.ref 249) → lv 3 = some (.int (iZ i)) → w_T sc d 0 359 lv [] S Q
theorem c_nod {sc : x_S} {d : Nat} {S : w_S} {N : List Nd} {k b : Int} (ht : trep S N) (hN : N.length ≤ 201) (hk : -2147483648 ≤ k ∧ k < 2147483648) (hb : -2147483648 ≤ b ∧ b < 2147483648) (hd : 5 ≤ d) : w_T sc d 14 0 (x_en 0 [.ref 0, .int (iZ k), .int (iZ b)]) [] S (fun v S2 => v = some (.int (iZ (ndv N k b))) ∧ S2 = S) := by
  by_cases h0 : b = 0
  · rw [h0]
    exact c_nod0 ht hN hk hd
  · by_cases h1 : b = 1
    · rw [h1]
      exact c_nod1 ht hN hk hd
    · by_cases h2 : b = 2
      · rw [h2]
        exact c_nod2 ht hN hk hd
      · exact c_nodx ht hN hk (by omega) hb hd
theorem c_ln2 {sc : x_S} {d : Nat} {S : w_S} {f : Nat} {n a : Int} (a0 : 0 ≤ a) (a2 : a ≤ 2) (hf : f < 3) (h1 : sR S 1 a = some (243 + 2 * f)) (h2 : sv S (243 + 2 * f) 1 = n) (hd : 5 ≤ d) : w_T sc d 5 0 (x_en 0 [.ref 0, .int (iZ a)]) [] S (fun v S2 => v = some (.int (iZ n)) ∧ S2 = S) := by
  refine w_iload_n rfl rfl rfl ?_
  refine w_CS (as := [.int (iZ a)]) (r := []) rfl rfl rfl rfl (Nat.le_of_ble_eq_true rfl) (Nat.le_of_ble_eq_true rfl) (by omega) rfl (c_isfl (f := a) (by omega) (by omega)) ?_
  rintro _ _ ⟨rfl, hS⟩
  rw [hS]
  show w_T _ _ 5 4 _ [.int (iZ (zB (decide (0 ≤ a ∧ a < 3))))] _ _
  refine w_b_eq (pc2 := 19) (pc3 := 7) rfl (by decide) rfl (fun c4 => ?_) (fun c4 => ?_)
  · exfalso; have := of_decide_eq_false c4; omega
  · skip
    refine w_aload_n rfl rfl rfl ?_
    refine w_getR rfl rfl sh_0 rfl rfl ?_
    refine w_iload_n rfl rfl rfl ?_
    refine w_aald rfl sh_1 rfl (by omega) (by omega) (by decide) h1 rfl ?_
    refine w_getI (z := n) rfl rfl (sh_txt hf) rfl h2 rfl ?_
    refine w_goto (pc2 := 20) rfl (by decide) ?_
    refine w_iret rfl rfl ?_
    exact ⟨rfl, rfl⟩
theorem l_op0_c {sc : x_S} {d : Nat} {Q : Option Value → w_S → Prop} {L : Nat} {xs : Nat → Int32} {F : Int → (Int → Int) × Int} {c : Nat} {R : Rst} (hL : L ≤ 1536) (hsc : sc = some (L, xs)) (hd : 400 ≤ d) : ∀ n : Nat, (∀ (i : Int) (U : w_S) (lv : x_L) (l0 : lv 0 = some (.retAddr 0)) (l1 : lv 1 = some (.ref 0)) (l2 : lv 2 = some (.ref 249)) (l3 : lv 3 = some (.int (iZ i))) (i0 : 0 ≤ i) (i2 : i + 2 < (L : Int)) (hV : LV9 U F c R) (hK : KL sc d Q i) (hm : 0 < n), w_T sc d 0 100 lv [] U Q) := by
  intro n
  induction n with
  | zero => exact fun i U lv l0 l1 l2 l3 i0 i2 hV hK hm => absurd hm (Nat.not_lt_zero _)
  | succ n ih =>
    intro i U lv l0 l1 l2 l3 i0 i2 hV hK hm
    subst hsc
    have hC := hV.2.2.2.2.2.2.1
    have hRr := hV.2.2.2.2.2.2.2.1
    have hO := hV.2.2.2.2.2.2.2.2
    have hc9 := hV.2.2.2.2.2.1
    refine w_aload_n rfl l1 rfl ?_
    refine w_aloadk_n rfl l0 (by decide) rfl ?_
    refine w_iload_n rfl l3 rfl ?_
    refine w_iconst rfl rfl ?_
    refine w_iadd rfl rfl ?_
    refine w_scld rfl (by omega) (by omega) hL rfl ?_
    generalize ha : ((xs (i + 1).toNat).toInt) = a
    have hara := iR_of (xs (i + 1).toNat)
    rw [ha] at hara
    unfold iR at hara
    by_cases hv : 0 ≤ a ∧ a ≤ 2
    · skip
      refine w_CV (as := [.int (iZ a)]) (r := []) rfl rfl rfl rfl sh_0 (Nat.le_of_ble_eq_true rfl) (Nat.le_of_ble_eq_true rfl) (by omega) rfl (c_ch1 hv.1 hv.2 (by omega)) ?_
      rintro _ _ ⟨rfl, hS⟩
      rw [hS]
      show w_T _ _ 0 109 _ [.int (iZ 1)] _ _
      refine w_aload_n rfl l2 rfl ?_
      refine w_aloadk_n rfl l0 (by decide) rfl ?_
      refine w_iload_n rfl l3 rfl ?_
      refine w_iconst rfl rfl ?_
      refine w_iadd rfl rfl ?_
      refine w_scld rfl (by omega) (by omega) hL rfl ?_
      rw [ha]
      refine w_CV (as := [.int (iZ a)]) (r := [.int (iZ 1)]) rfl rfl rfl rfl sh_249 (Nat.le_of_ble_eq_true rfl) (Nat.le_of_ble_eq_true rfl) (by omega) rfl (r_ch1 hv.1 hv.2 (by omega)) ?_
      rintro _ _ ⟨rfl, hS⟩
      rw [hS]
      show w_T _ _ 0 118 _ [.int (iZ 1), .int (iZ 1)] _ _
      refine w_ic_same (pc2 := 359) rfl (by decide) ?_
      obtain ⟨f, rfl⟩ : ∃ f : Nat, a = (f : Int) := ⟨a.toNat, by omega⟩
      exact hK _ _ _ _ _ (LV_ch hV (by omega)) (by exact l0) (by exact l1) (by exact l2) (by exact l3)
    · skip
      refine w_CV (as := [.int (iZ a)]) (r := []) rfl rfl rfl rfl sh_0 (Nat.le_of_ble_eq_true rfl) (Nat.le_of_ble_eq_true rfl) (by omega) rfl (c_ch0 (by omega) hara (by omega)) ?_
      rintro _ _ ⟨rfl, hS⟩
      rw [hS]
      show w_T _ _ 0 109 _ [.int (iZ 0)] _ _
      refine w_aload_n rfl l2 rfl ?_
      refine w_aloadk_n rfl l0 (by decide) rfl ?_
      refine w_iload_n rfl l3 rfl ?_
      refine w_iconst rfl rfl ?_
      refine w_iadd rfl rfl ?_
      refine w_scld rfl (by omega) (by omega) hL rfl ?_
      rw [ha]
      refine w_CV (as := [.int (iZ a)]) (r := [.int (iZ 0)]) rfl rfl rfl rfl sh_249 (Nat.le_of_ble_eq_true rfl) (Nat.le_of_ble_eq_true rfl) (by omega) rfl (r_ch0 (by omega) hara (by omega)) ?_
      rintro _ _ ⟨rfl, hS⟩
      rw [hS]
      show w_T _ _ 0 118 _ [.int (iZ 0), .int (iZ 0)] _ _
      refine w_ic_same (pc2 := 359) rfl (by decide) ?_
      exact hK _ _ _ _ _ hV (by exact l0) (by exact l1) (by exact l2) (by exact l3)
theorem l_op1_c {sc : x_S} {d : Nat} {Q : Option Value → w_S → Prop} {L : Nat} {xs : Nat → Int32} {F : Int → (Int → Int) × Int} {c : Nat} {R : Rst} (hL : L ≤ 1536) (hsc : sc = some (L, xs)) (hd : 400 ≤ d) : ∀ n : Nat, (∀ (i : Int) (U : w_S) (lv : x_L) (l0 : lv 0 = some (.retAddr 0)) (l1 : lv 1 = some (.ref 0)) (l2 : lv 2 = some (.ref 249)) (l3 : lv 3 = some (.int (iZ i))) (i0 : 0 ≤ i) (i2 : i + 2 < (L : Int)) (hV : LV9 U F c R) (hK : KL sc d Q i) (hm : 0 < n), w_T sc d 0 123 lv [] U Q) := by
  intro n
  induction n with
  | zero => exact fun i U lv l0 l1 l2 l3 i0 i2 hV hK hm => absurd hm (Nat.not_lt_zero _)
  | succ n ih =>
    intro i U lv l0 l1 l2 l3 i0 i2 hV hK hm
    subst hsc
    have hC := hV.2.2.2.2.2.2.1
    have hRr := hV.2.2.2.2.2.2.2.1
    have hO := hV.2.2.2.2.2.2.2.2
    have hc9 := hV.2.2.2.2.2.1
    refine w_aload_n rfl l1 rfl ?_
    refine w_aloadk_n rfl l0 (by decide) rfl ?_
    refine w_iload_n rfl l3 rfl ?_
    refine w_iconst rfl rfl ?_
    refine w_iadd rfl rfl ?_
    refine w_scld rfl (by omega) (by omega) hL rfl ?_
    generalize ha : ((xs (i + 1).toNat).toInt) = a
    refine w_zi2c rfl rfl ?_
    generalize hx : (zi2c a) = x
    have hx9 := zi2c_r a
    rw [hx] at hx9
    have tx := LV_txt hV (k := (c : Int)) (by omega) (by omega)
    rw [Int.toNat_natCast] at tx
    have fg := hV.2.2.1 (c : Int) (by omega) (by omega)
    have rt := hV.2.1 (c : Int) (by omega) (by omega)
    by_cases hv : okw (F (c : Int)).2 x
    · skip
      refine w_CV (as := [.int (iZ x)]) (r := []) rfl rfl rfl rfl sh_0 (Nat.le_of_ble_eq_true rfl) (Nat.le_of_ble_eq_true rfl) (by omega) rfl (c_wr1 (f := c) (n := (F (c : Int)).2) (c := x) hc9 tx.2.1 fg.1 fg.2.1 hx9.1 hx9.2 hv hV.2.2.2.1 tx.1 (by omega)) ?_
      rintro _ _ ⟨rfl, hS⟩
      rw [hS]
      show w_T _ _ 0 133 _ [.int (iZ 1)] _ _
      refine w_aload_n rfl l2 rfl ?_
      refine w_aloadk_n rfl l0 (by decide) rfl ?_
      refine w_iload_n rfl l3 rfl ?_
      refine w_iconst rfl rfl ?_
      refine w_iadd rfl rfl ?_
      refine w_scld rfl (by omega) (by omega) hL rfl ?_
      rw [ha]
      refine w_zi2c rfl rfl ?_
      rw [hx]
      refine w_CV (as := [.int (iZ x)]) (r := [.int (iZ 1)]) rfl rfl rfl rfl sh_249 (Nat.le_of_ble_eq_true rfl) (Nat.le_of_ble_eq_true rfl) (by omega) rfl (r_wr1 (S := w_v (w_A U (244 + 2 * c) (w_u (sA U (244 + 2 * c)) (F (c : Int)).2 x)) (243 + 2 * c) 1 ((F (c : Int)).2 + 1)) (f := (c : Int)) (n := (F (c : Int)).2) (c := x) (by omega) (by omega) ((rv_ne (by omega)).trans hV.2.2.2.2.1) ((congrFun (show sA (w_v (w_A U (244 + 2 * c) (w_u (sA U (244 + 2 * c)) (F (c : Int)).2 x)) (243 + 2 * c) 1 ((F (c : Int)).2 + 1)) 251 = sA U 251 from rA_ne (by omega)) _).trans rt.1) fg.1 fg.2.1 hx9.1 hx9.2 hv (by omega)) ?_
      rintro _ _ ⟨rfl, hS⟩
      rw [hS]
      show w_T _ _ 0 143 _ [.int (iZ 1), .int (iZ 1)] _ _
      refine w_ic_same (pc2 := 359) rfl (by decide) ?_
      exact hK _ _ _ _ _ (LV_wr hV rfl hv) (by exact l0) (by exact l1) (by exact l2) (by exact l3)
    · skip
      refine w_CV (as := [.int (iZ x)]) (r := []) rfl rfl rfl rfl sh_0 (Nat.le_of_ble_eq_true rfl) (Nat.le_of_ble_eq_true rfl) (by omega) rfl (c_wr0 (f := c) (n := (F (c : Int)).2) (c := x) hc9 tx.2.1 fg.1 fg.2.1 hx9.1 hx9.2 hv hV.2.2.2.1 tx.1 (by omega)) ?_
      rintro _ _ ⟨rfl, hS⟩
      rw [hS]
      show w_T _ _ 0 133 _ [.int (iZ 0)] _ _
      refine w_aload_n rfl l2 rfl ?_
      refine w_aloadk_n rfl l0 (by decide) rfl ?_
      refine w_iload_n rfl l3 rfl ?_
      refine w_iconst rfl rfl ?_
      refine w_iadd rfl rfl ?_
      refine w_scld rfl (by omega) (by omega) hL rfl ?_
      rw [ha]
      refine w_zi2c rfl rfl ?_
      rw [hx]
      refine w_CV (as := [.int (iZ x)]) (r := [.int (iZ 0)]) rfl rfl rfl rfl sh_249 (Nat.le_of_ble_eq_true rfl) (Nat.le_of_ble_eq_true rfl) (by omega) rfl (r_wr0 (f := (c : Int)) (n := (F (c : Int)).2) (c := x) (by omega) (by omega) hV.2.2.2.2.1 rt.1 fg.1 fg.2.1 hx9.1 hx9.2 hv (by omega)) ?_
      rintro _ _ ⟨rfl, hS⟩
      rw [hS]
      show w_T _ _ 0 143 _ [.int (iZ 0), .int (iZ 0)] _ _
      refine w_ic_same (pc2 := 359) rfl (by decide) ?_
      exact hK _ _ _ _ _ hV (by exact l0) (by exact l1) (by exact l2) (by exact l3)
theorem l_op2_c {sc : x_S} {d : Nat} {Q : Option Value → w_S → Prop} {L : Nat} {xs : Nat → Int32} {F : Int → (Int → Int) × Int} {c : Nat} {R : Rst} (hL : L ≤ 1536) (hsc : sc = some (L, xs)) (hd : 400 ≤ d) : ∀ n : Nat, (∀ (i : Int) (U : w_S) (lv : x_L) (l0 : lv 0 = some (.retAddr 0)) (l1 : lv 1 = some (.ref 0)) (l2 : lv 2 = some (.ref 249)) (l3 : lv 3 = some (.int (iZ i))) (i0 : 0 ≤ i) (i2 : i + 2 < (L : Int)) (hV : LV9 U F c R) (hK : KL sc d Q i) (hm : 0 < n), w_T sc d 0 148 lv [] U Q) := by
  intro n
  induction n with
  | zero => exact fun i U lv l0 l1 l2 l3 i0 i2 hV hK hm => absurd hm (Nat.not_lt_zero _)
  | succ n ih =>
    intro i U lv l0 l1 l2 l3 i0 i2 hV hK hm
    subst hsc
    have hC := hV.2.2.2.2.2.2.1
    have hRr := hV.2.2.2.2.2.2.2.1
    have hO := hV.2.2.2.2.2.2.2.2
    have hc9 := hV.2.2.2.2.2.1
    have tx := LV_txt hV (k := (c : Int)) (by omega) (by omega)
    rw [Int.toNat_natCast] at tx
    have fg := hV.2.2.1 (c : Int) (by omega) (by omega)
    have rt := hV.2.1 (c : Int) (by omega) (by omega)
    refine w_aload_n rfl l1 rfl ?_
    refine w_CV (as := []) (r := []) rfl rfl rfl rfl sh_0 (Nat.le_of_ble_eq_true rfl) (Nat.le_of_ble_eq_true rfl) (by omega) rfl (c_clr (f := c) hc9 hV.2.2.2.1 tx.1 (by omega)) ?_
    rintro _ _ ⟨rfl, hS⟩
    rw [hS]
    show w_T _ _ 0 152 _ [] _ _
    refine w_aload_n rfl l2 rfl ?_
    refine w_CV (as := []) (r := []) rfl rfl rfl rfl sh_249 (Nat.le_of_ble_eq_true rfl) (Nat.le_of_ble_eq_true rfl) (by omega) rfl (r_clr (S := w_v U (243 + 2 * c) 1 0) (f := (c : Int)) (by omega) (by omega) ((rv_ne (by omega)).trans hV.2.2.2.2.1) (by omega)) ?_
    rintro _ _ ⟨rfl, hS⟩
    rw [hS]
    show w_T _ _ 0 156 _ [] _ _
    refine w_goto (pc2 := 359) rfl (by decide) ?_
    exact hK _ _ _ _ _ (LV_clr hV) (by exact l0) (by exact l1) (by exact l2) (by exact l3)
theorem l_op3_c {sc : x_S} {d : Nat} {Q : Option Value → w_S → Prop} {L : Nat} {xs : Nat → Int32} {F : Int → (Int → Int) × Int} {c : Nat} {R : Rst} (hL : L ≤ 1536) (hsc : sc = some (L, xs)) (hd : 400 ≤ d) : ∀ n : Nat, (∀ (i : Int) (U : w_S) (lv : x_L) (l0 : lv 0 = some (.retAddr 0)) (l1 : lv 1 = some (.ref 0)) (l2 : lv 2 = some (.ref 249)) (l3 : lv 3 = some (.int (iZ i))) (i0 : 0 ≤ i) (i2 : i + 2 < (L : Int)) (hV : LV9 U F c R) (hK : KL sc d Q i) (hm : 0 < n), w_T sc d 0 159 lv [] U Q) := by
  intro n
  induction n with
  | zero => exact fun i U lv l0 l1 l2 l3 i0 i2 hV hK hm => absurd hm (Nat.not_lt_zero _)
  | succ n ih =>
    intro i U lv l0 l1 l2 l3 i0 i2 hV hK hm
    subst hsc
    have hC := hV.2.2.2.2.2.2.1
    have hRr := hV.2.2.2.2.2.2.2.1
    have hO := hV.2.2.2.2.2.2.2.2
    have hc9 := hV.2.2.2.2.2.1
    refine w_aload_n rfl l1 rfl ?_
    refine w_aloadk_n rfl l0 (by decide) rfl ?_
    refine w_iload_n rfl l3 rfl ?_
    refine w_iconst rfl rfl ?_
    refine w_iadd rfl rfl ?_
    refine w_scld rfl (by omega) (by omega) hL rfl ?_
    generalize ha : ((xs (i + 1).toNat).toInt) = a
    have hara := iR_of (xs (i + 1).toNat)
    rw [ha] at hara
    unfold iR at hara
    by_cases hv : 0 ≤ a ∧ a ≤ 2
    · skip
      refine w_CV (as := [.int (iZ a)]) (r := []) rfl rfl rfl rfl sh_0 (Nat.le_of_ble_eq_true rfl) (Nat.le_of_ble_eq_true rfl) (by omega) rfl (c_ln2 (f := a.toNat) hv.1 hv.2 (by omega) (LV_txt hV hv.1 hv.2).1 (LV_txt hV hv.1 hv.2).2.1 (by omega)) ?_
      rintro _ _ ⟨rfl, hS⟩
      rw [hS]
      show w_T _ _ 0 168 _ [.int (iZ ((F a).2))] _ _
      refine w_aload_n rfl l2 rfl ?_
      refine w_aloadk_n rfl l0 (by decide) rfl ?_
      refine w_iload_n rfl l3 rfl ?_
      refine w_iconst rfl rfl ?_
      refine w_iadd rfl rfl ?_
      refine w_scld rfl (by omega) (by omega) hL rfl ?_
      rw [ha]
      refine w_CV (as := [.int (iZ a)]) (r := [.int (iZ ((F a).2))]) rfl rfl rfl rfl sh_249 (Nat.le_of_ble_eq_true rfl) (Nat.le_of_ble_eq_true rfl) (by omega) rfl (r_ln1 hv.1 hv.2 (hV.2.1 a hv.1 hv.2).1 (by omega)) ?_
      rintro _ _ ⟨rfl, hS⟩
      rw [hS]
      show w_T _ _ 0 177 _ [.int (iZ ((F a).2)), .int (iZ ((F a).2))] _ _
      refine w_ic_same (pc2 := 359) rfl (by decide) ?_
      exact hK _ _ _ _ _ hV (by exact l0) (by exact l1) (by exact l2) (by exact l3)
    · skip
      refine w_CV (as := [.int (iZ a)]) (r := []) rfl rfl rfl rfl sh_0 (Nat.le_of_ble_eq_true rfl) (Nat.le_of_ble_eq_true rfl) (by omega) rfl (c_ln0 (by omega) hara (by omega)) ?_
      rintro _ _ ⟨rfl, hS⟩
      rw [hS]
      show w_T _ _ 0 168 _ [.int (iZ ((-1)))] _ _
      refine w_aload_n rfl l2 rfl ?_
      refine w_aloadk_n rfl l0 (by decide) rfl ?_
      refine w_iload_n rfl l3 rfl ?_
      refine w_iconst rfl rfl ?_
      refine w_iadd rfl rfl ?_
      refine w_scld rfl (by omega) (by omega) hL rfl ?_
      rw [ha]
      refine w_CV (as := [.int (iZ a)]) (r := [.int (iZ ((-1)))]) rfl rfl rfl rfl sh_249 (Nat.le_of_ble_eq_true rfl) (Nat.le_of_ble_eq_true rfl) (by omega) rfl (r_ln0 (by omega) hara (by omega)) ?_
      rintro _ _ ⟨rfl, hS⟩
      rw [hS]
      show w_T _ _ 0 177 _ [.int (iZ ((-1))), .int (iZ ((-1)))] _ _
      refine w_ic_same (pc2 := 359) rfl (by decide) ?_
      exact hK _ _ _ _ _ hV (by exact l0) (by exact l1) (by exact l2) (by exact l3)
theorem l_op4_c {sc : x_S} {d : Nat} {Q : Option Value → w_S → Prop} {L : Nat} {xs : Nat → Int32} {F : Int → (Int → Int) × Int} {c : Nat} {R : Rst} (hL : L ≤ 1536) (hsc : sc = some (L, xs)) (hd : 400 ≤ d) : ∀ n : Nat, (∀ (i : Int) (U : w_S) (lv : x_L) (l0 : lv 0 = some (.retAddr 0)) (l1 : lv 1 = some (.ref 0)) (l2 : lv 2 = some (.ref 249)) (l3 : lv 3 = some (.int (iZ i))) (i0 : 0 ≤ i) (i2 : i + 2 < (L : Int)) (hV : LV9 U F c R) (hK : KL sc d Q i) (hm : 0 < n), w_T sc d 0 182 lv [] U Q) := by
  intro n
  induction n with
  | zero => exact fun i U lv l0 l1 l2 l3 i0 i2 hV hK hm => absurd hm (Nat.not_lt_zero _)
  | succ n ih =>
    intro i U lv l0 l1 l2 l3 i0 i2 hV hK hm
    subst hsc
    have hC := hV.2.2.2.2.2.2.1
    have hRr := hV.2.2.2.2.2.2.2.1
    have hO := hV.2.2.2.2.2.2.2.2
    have hc9 := hV.2.2.2.2.2.1
    refine w_aload_n rfl l1 rfl ?_
    refine w_aloadk_n rfl l0 (by decide) rfl ?_
    refine w_iload_n rfl l3 rfl ?_
    refine w_iconst rfl rfl ?_
    refine w_iadd rfl rfl ?_
    refine w_scld rfl (by omega) (by omega) hL rfl ?_
    generalize ha : ((xs (i + 1).toNat).toInt) = a
    have hara := iR_of (xs (i + 1).toNat)
    rw [ha] at hara
    unfold iR at hara
    by_cases hv : 0 ≤ a ∧ a ≤ 2
    · skip
      refine w_CV (as := [.int (iZ a)]) (r := []) rfl rfl rfl rfl sh_0 (Nat.le_of_ble_eq_true rfl) (Nat.le_of_ble_eq_true rfl) (by omega) rfl (w_mono (c_trans (S := U) (F := F) (Fok_of hV.2.2.1) hV.1 hv.1 hv.2 (by omega)) (fun v S2 h => (⟨h.1, h⟩ : v = some (.int (iZ (vdq (pall F a)))) ∧ CTp U (pall F a) v S2))) ?_
      rintro _ V1 ⟨rfl, g1⟩
      show w_T _ _ 0 191 _ [.int (iZ (vdq (pall F a)))] _ _
      refine w_aload_n rfl l2 rfl ?_
      refine w_aloadk_n rfl l0 (by decide) rfl ?_
      refine w_iload_n rfl l3 rfl ?_
      refine w_iconst rfl rfl ?_
      refine w_iadd rfl rfl ?_
      refine w_scld rfl (by omega) (by omega) hL rfl ?_
      rw [ha]
      refine w_CV (as := [.int (iZ a)]) (r := [.int (iZ (vdq (pall F a)))]) rfl rfl rfl rfl sh_249 (Nat.le_of_ble_eq_true rfl) (Nat.le_of_ble_eq_true rfl) (by omega) rfl (w_mono (r_trans (S := V1) (F := F) (Fok_of hV.2.2.1) (RT_tr hV g1) hv.1 hv.2 (by omega)) (fun v S2 h => (⟨h.1, h⟩ : v = some (.int (iZ (vdq (pall F a)))) ∧ RTp V1 (pall F a) v S2))) ?_
      rintro _ V2 ⟨rfl, g2⟩
      show w_T _ _ 0 200 _ [.int (iZ (vdq (pall F a))), .int (iZ (vdq (pall F a)))] _ _
      refine w_ic_same (pc2 := 359) rfl (by decide) ?_
      exact hK _ _ _ _ _ (LV_tr hV (pall_ok (Fok_of hV.2.2.1) hv.1 hv.2) g1 g2) (by exact l0) (by exact l1) (by exact l2) (by exact l3)
    · skip
      refine w_CV (as := [.int (iZ a)]) (r := []) rfl rfl rfl rfl sh_0 (Nat.le_of_ble_eq_true rfl) (Nat.le_of_ble_eq_true rfl) (by omega) rfl (c_transn (by omega) hara (by omega)) ?_
      rintro _ _ ⟨rfl, hS⟩
      rw [hS]
      show w_T _ _ 0 191 _ [.int (iZ ((-1)))] _ _
      refine w_aload_n rfl l2 rfl ?_
      refine w_aloadk_n rfl l0 (by decide) rfl ?_
      refine w_iload_n rfl l3 rfl ?_
      refine w_iconst rfl rfl ?_
      refine w_iadd rfl rfl ?_
      refine w_scld rfl (by omega) (by omega) hL rfl ?_
      rw [ha]
      refine w_CV (as := [.int (iZ a)]) (r := [.int (iZ ((-1)))]) rfl rfl rfl rfl sh_249 (Nat.le_of_ble_eq_true rfl) (Nat.le_of_ble_eq_true rfl) (by omega) rfl (r_transn (by omega) hara (by omega)) ?_
      rintro _ _ ⟨rfl, hS⟩
      rw [hS]
      show w_T _ _ 0 200 _ [.int (iZ ((-1))), .int (iZ ((-1)))] _ _
      refine w_ic_same (pc2 := 359) rfl (by decide) ?_
      exact hK _ _ _ _ _ hV (by exact l0) (by exact l1) (by exact l2) (by exact l3)
theorem l_op5_c {sc : x_S} {d : Nat} {Q : Option Value → w_S → Prop} {L : Nat} {xs : Nat → Int32} {F : Int → (Int → Int) × Int} {c : Nat} {R : Rst} (hL : L ≤ 1536) (hsc : sc = some (L, xs)) (hd : 400 ≤ d) : ∀ n : Nat, (∀ (i : Int) (U : w_S) (lv : x_L) (l0 : lv 0 = some (.retAddr 0)) (l1 : lv 1 = some (.ref 0)) (l2 : lv 2 = some (.ref 249)) (l3 : lv 3 = some (.int (iZ i))) (i0 : 0 ≤ i) (i2 : i + 2 < (L : Int)) (hV : LV9 U F c R) (hK : KL sc d Q i) (hm : 0 < n), w_T sc d 0 205 lv [] U Q) := by
  intro n
  induction n with
  | zero => exact fun i U lv l0 l1 l2 l3 i0 i2 hV hK hm => absurd hm (Nat.not_lt_zero _)
  | succ n ih =>
    intro i U lv l0 l1 l2 l3 i0 i2 hV hK hm
    subst hsc
    have hC := hV.2.2.2.2.2.2.1
    have hRr := hV.2.2.2.2.2.2.2.1
    have hO := hV.2.2.2.2.2.2.2.2
    have hc9 := hV.2.2.2.2.2.1
    refine w_aload_n rfl l1 rfl ?_
    refine w_CV (as := []) (r := []) rfl rfl rfl rfl sh_0 (Nat.le_of_ble_eq_true rfl) (Nat.le_of_ble_eq_true rfl) (by omega) rfl (c_vrd hC.1 (by omega)) ?_
    rintro _ _ ⟨rfl, hS⟩
    rw [hS]
    show w_T _ _ 0 209 _ [.int (iZ R.1)] _ _
    refine w_aload_n rfl l2 rfl ?_
    refine w_CV (as := []) (r := [.int (iZ R.1)]) rfl rfl rfl rfl sh_249 (Nat.le_of_ble_eq_true rfl) (Nat.le_of_ble_eq_true rfl) (by omega) rfl (r_vrd hRr.1 (by omega)) ?_
    rintro _ _ ⟨rfl, hS⟩
    rw [hS]
    show w_T _ _ 0 213 _ [.int (iZ R.1), .int (iZ R.1)] _ _
    refine w_ic_same (pc2 := 359) rfl (by decide) ?_
    exact hK _ _ _ _ _ hV (by exact l0) (by exact l1) (by exact l2) (by exact l3)
theorem l_op6_c {sc : x_S} {d : Nat} {Q : Option Value → w_S → Prop} {L : Nat} {xs : Nat → Int32} {F : Int → (Int → Int) × Int} {c : Nat} {R : Rst} (hL : L ≤ 1536) (hsc : sc = some (L, xs)) (hd : 400 ≤ d) : ∀ n : Nat, (∀ (i : Int) (U : w_S) (lv : x_L) (l0 : lv 0 = some (.retAddr 0)) (l1 : lv 1 = some (.ref 0)) (l2 : lv 2 = some (.ref 249)) (l3 : lv 3 = some (.int (iZ i))) (i0 : 0 ≤ i) (i2 : i + 2 < (L : Int)) (hV : LV9 U F c R) (hK : KL sc d Q i) (hm : 0 < n), w_T sc d 0 218 lv [] U Q) := by
  intro n
  induction n with
  | zero => exact fun i U lv l0 l1 l2 l3 i0 i2 hV hK hm => absurd hm (Nat.not_lt_zero _)
  | succ n ih =>
    intro i U lv l0 l1 l2 l3 i0 i2 hV hK hm
    subst hsc
    have hC := hV.2.2.2.2.2.2.1
    have hRr := hV.2.2.2.2.2.2.2.1
    have hO := hV.2.2.2.2.2.2.2.2
    have hc9 := hV.2.2.2.2.2.1
    refine w_aload_n rfl l1 rfl ?_
    refine w_CV (as := []) (r := []) rfl rfl rfl rfl sh_0 (Nat.le_of_ble_eq_true rfl) (Nat.le_of_ble_eq_true rfl) (by omega) rfl (c_tks hC.2.1 (by omega)) ?_
    rintro _ _ ⟨rfl, hS⟩
    rw [hS]
    show w_T _ _ 0 222 _ [.int (iZ ((R.2.1.length : Int)))] _ _
    refine w_aload_n rfl l2 rfl ?_
    refine w_CV (as := []) (r := [.int (iZ ((R.2.1.length : Int)))]) rfl rfl rfl rfl sh_249 (Nat.le_of_ble_eq_true rfl) (Nat.le_of_ble_eq_true rfl) (by omega) rfl (r_tks hRr.2.1 (by omega)) ?_
    rintro _ _ ⟨rfl, hS⟩
    rw [hS]
    show w_T _ _ 0 226 _ [.int (iZ ((R.2.1.length : Int))), .int (iZ ((R.2.1.length : Int)))] _ _
    refine w_ic_same (pc2 := 359) rfl (by decide) ?_
    exact hK _ _ _ _ _ hV (by exact l0) (by exact l1) (by exact l2) (by exact l3)
theorem l_op7_c {sc : x_S} {d : Nat} {Q : Option Value → w_S → Prop} {L : Nat} {xs : Nat → Int32} {F : Int → (Int → Int) × Int} {c : Nat} {R : Rst} (hL : L ≤ 1536) (hsc : sc = some (L, xs)) (hd : 400 ≤ d) : ∀ n : Nat, (∀ (i : Int) (U : w_S) (lv : x_L) (l0 : lv 0 = some (.retAddr 0)) (l1 : lv 1 = some (.ref 0)) (l2 : lv 2 = some (.ref 249)) (l3 : lv 3 = some (.int (iZ i))) (i0 : 0 ≤ i) (i2 : i + 2 < (L : Int)) (hV : LV9 U F c R) (hK : KL sc d Q i) (hm : 0 < n), w_T sc d 0 231 lv [] U Q) := by
  intro n
  induction n with
  | zero => exact fun i U lv l0 l1 l2 l3 i0 i2 hV hK hm => absurd hm (Nat.not_lt_zero _)
  | succ n ih =>
    intro i U lv l0 l1 l2 l3 i0 i2 hV hK hm
    subst hsc
    have hC := hV.2.2.2.2.2.2.1
    have hRr := hV.2.2.2.2.2.2.2.1
    have hO := hV.2.2.2.2.2.2.2.2
    have hc9 := hV.2.2.2.2.2.1
    refine w_aload_n rfl l1 rfl ?_
    refine w_aloadk_n rfl l0 (by decide) rfl ?_
    refine w_iload_n rfl l3 rfl ?_
    refine w_iconst rfl rfl ?_
    refine w_iadd rfl rfl ?_
    refine w_scld rfl (by omega) (by omega) hL rfl ?_
    generalize ha : ((xs (i + 1).toNat).toInt) = a
    have hara := iR_of (xs (i + 1).toNat)
    rw [ha] at hara
    unfold iR at hara
    refine w_CV (as := [.int (iZ a)]) (r := []) rfl rfl rfl rfl sh_0 (Nat.le_of_ble_eq_true rfl) (Nat.le_of_ble_eq_true rfl) (by omega) rfl (c_plce hC.2.1 hO.2.2.1 hC.2.2.1 hara (by omega)) ?_
    rintro _ _ ⟨rfl, hS⟩
    rw [hS]
    show w_T _ _ 0 240 _ [.int (iZ (plq R.2.1 a))] _ _
    refine w_aload_n rfl l2 rfl ?_
    refine w_aloadk_n rfl l0 (by decide) rfl ?_
    refine w_iload_n rfl l3 rfl ?_
    refine w_iconst rfl rfl ?_
    refine w_iadd rfl rfl ?_
    refine w_scld rfl (by omega) (by omega) hL rfl ?_
    rw [ha]
    refine w_CV (as := [.int (iZ a)]) (r := [.int (iZ (plq R.2.1 a))]) rfl rfl rfl rfl sh_249 (Nat.le_of_ble_eq_true rfl) (Nat.le_of_ble_eq_true rfl) (by omega) rfl (r_plce hRr.2.1 hO.2.2.1 hRr.2.2.1 hara (by omega)) ?_
    rintro _ _ ⟨rfl, hS⟩
    rw [hS]
    show w_T _ _ 0 249 _ [.int (iZ (plq R.2.1 a)), .int (iZ (plq R.2.1 a))] _ _
    refine w_ic_same (pc2 := 359) rfl (by decide) ?_
    exact hK _ _ _ _ _ hV (by exact l0) (by exact l1) (by exact l2) (by exact l3)
theorem l_op8_c {sc : x_S} {d : Nat} {Q : Option Value → w_S → Prop} {L : Nat} {xs : Nat → Int32} {F : Int → (Int → Int) × Int} {c : Nat} {R : Rst} (hL : L ≤ 1536) (hsc : sc = some (L, xs)) (hd : 400 ≤ d) : ∀ n : Nat, (∀ (i : Int) (U : w_S) (lv : x_L) (l0 : lv 0 = some (.retAddr 0)) (l1 : lv 1 = some (.ref 0)) (l2 : lv 2 = some (.ref 249)) (l3 : lv 3 = some (.int (iZ i))) (i0 : 0 ≤ i) (i2 : i + 2 < (L : Int)) (hV : LV9 U F c R) (hK : KL sc d Q i) (hm : 0 < n), w_T sc d 0 254 lv [] U Q) := by
  intro n
  induction n with
  | zero => exact fun i U lv l0 l1 l2 l3 i0 i2 hV hK hm => absurd hm (Nat.not_lt_zero _)
  | succ n ih =>
    intro i U lv l0 l1 l2 l3 i0 i2 hV hK hm
    subst hsc
    have hC := hV.2.2.2.2.2.2.1
    have hRr := hV.2.2.2.2.2.2.2.1
    have hO := hV.2.2.2.2.2.2.2.2
    have hc9 := hV.2.2.2.2.2.1
    refine w_aload_n rfl l1 rfl ?_
    refine w_aloadk_n rfl l0 (by decide) rfl ?_
    refine w_iload_n rfl l3 rfl ?_
    refine w_iconst rfl rfl ?_
    refine w_iadd rfl rfl ?_
    refine w_scld rfl (by omega) (by omega) hL rfl ?_
    generalize ha : ((xs (i + 1).toNat).toInt) = a
    have hara := iR_of (xs (i + 1).toNat)
    rw [ha] at hara
    unfold iR at hara
    refine w_aloadk_n rfl l0 (by decide) rfl ?_
    refine w_iload_n rfl l3 rfl ?_
    refine w_iconst rfl rfl ?_
    refine w_iadd rfl rfl ?_
    refine w_scld rfl (by omega) (by omega) hL rfl ?_
    generalize hb : ((xs (i + 2).toNat).toInt) = b
    have harb := iR_of (xs (i + 2).toNat)
    rw [hb] at harb
    unfold iR at harb
    refine w_CV (as := [.int (iZ a), .int (iZ b)]) (r := []) rfl rfl rfl rfl sh_0 (Nat.le_of_ble_eq_true rfl) (Nat.le_of_ble_eq_true rfl) (by omega) rfl (c_splg hC.2.1 hO.2.2.1 hC.2.2.1 hO.2.2.2.1 hara harb (by omega)) ?_
    rintro _ _ ⟨rfl, hS⟩
    rw [hS]
    show w_T _ _ 0 268 _ [.int (iZ (spq R.2.1 a b))] _ _
    refine w_aload_n rfl l2 rfl ?_
    refine w_aloadk_n rfl l0 (by decide) rfl ?_
    refine w_iload_n rfl l3 rfl ?_
    refine w_iconst rfl rfl ?_
    refine w_iadd rfl rfl ?_
    refine w_scld rfl (by omega) (by omega) hL rfl ?_
    rw [ha]
    refine w_aloadk_n rfl l0 (by decide) rfl ?_
    refine w_iload_n rfl l3 rfl ?_
    refine w_iconst rfl rfl ?_
    refine w_iadd rfl rfl ?_
    refine w_scld rfl (by omega) (by omega) hL rfl ?_
    rw [hb]
    refine w_CV (as := [.int (iZ a), .int (iZ b)]) (r := [.int (iZ (spq R.2.1 a b))]) rfl rfl rfl rfl sh_249 (Nat.le_of_ble_eq_true rfl) (Nat.le_of_ble_eq_true rfl) (by omega) rfl (r_spl hRr.2.1 hO.2.2.1 hRr.2.2.1 hO.2.2.2.1 hara harb (by omega)) ?_
    rintro _ _ ⟨rfl, hS⟩
    rw [hS]
    show w_T _ _ 0 282 _ [.int (iZ (spq R.2.1 a b)), .int (iZ (spq R.2.1 a b))] _ _
    refine w_ic_same (pc2 := 359) rfl (by decide) ?_
    exact hK _ _ _ _ _ hV (by exact l0) (by exact l1) (by exact l2) (by exact l3)
theorem l_op9_c {sc : x_S} {d : Nat} {Q : Option Value → w_S → Prop} {L : Nat} {xs : Nat → Int32} {F : Int → (Int → Int) × Int} {c : Nat} {R : Rst} (hL : L ≤ 1536) (hsc : sc = some (L, xs)) (hd : 400 ≤ d) : ∀ n : Nat, (∀ (i : Int) (U : w_S) (lv : x_L) (l0 : lv 0 = some (.retAddr 0)) (l1 : lv 1 = some (.ref 0)) (l2 : lv 2 = some (.ref 249)) (l3 : lv 3 = some (.int (iZ i))) (i0 : 0 ≤ i) (i2 : i + 2 < (L : Int)) (hV : LV9 U F c R) (hK : KL sc d Q i) (hm : 0 < n), w_T sc d 0 287 lv [] U Q) := by
  intro n
  induction n with
  | zero => exact fun i U lv l0 l1 l2 l3 i0 i2 hV hK hm => absurd hm (Nat.not_lt_zero _)
  | succ n ih =>
    intro i U lv l0 l1 l2 l3 i0 i2 hV hK hm
    subst hsc
    have hC := hV.2.2.2.2.2.2.1
    have hRr := hV.2.2.2.2.2.2.2.1
    have hO := hV.2.2.2.2.2.2.2.2
    have hc9 := hV.2.2.2.2.2.1
    refine w_aload_n rfl l1 rfl ?_
    refine w_CV (as := []) (r := []) rfl rfl rfl rfl sh_0 (Nat.le_of_ble_eq_true rfl) (Nat.le_of_ble_eq_true rfl) (by omega) rfl (c_rpl hC.2.2.2.1 (by omega)) ?_
    rintro _ _ ⟨rfl, hS⟩
    rw [hS]
    show w_T _ _ 0 291 _ [.int (iZ R.2.2.1)] _ _
    refine w_aload_n rfl l2 rfl ?_
    refine w_CV (as := []) (r := [.int (iZ R.2.2.1)]) rfl rfl rfl rfl sh_249 (Nat.le_of_ble_eq_true rfl) (Nat.le_of_ble_eq_true rfl) (by omega) rfl (r_rpl hRr.2.2.2.1 (by omega)) ?_
    rintro _ _ ⟨rfl, hS⟩
    rw [hS]
    show w_T _ _ 0 295 _ [.int (iZ R.2.2.1), .int (iZ R.2.2.1)] _ _
    refine w_ic_same (pc2 := 359) rfl (by decide) ?_
    exact hK _ _ _ _ _ hV (by exact l0) (by exact l1) (by exact l2) (by exact l3)
theorem l_op10_c {sc : x_S} {d : Nat} {Q : Option Value → w_S → Prop} {L : Nat} {xs : Nat → Int32} {F : Int → (Int → Int) × Int} {c : Nat} {R : Rst} (hL : L ≤ 1536) (hsc : sc = some (L, xs)) (hd : 400 ≤ d) : ∀ n : Nat, (∀ (i : Int) (U : w_S) (lv : x_L) (l0 : lv 0 = some (.retAddr 0)) (l1 : lv 1 = some (.ref 0)) (l2 : lv 2 = some (.ref 249)) (l3 : lv 3 = some (.int (iZ i))) (i0 : 0 ≤ i) (i2 : i + 2 < (L : Int)) (hV : LV9 U F c R) (hK : KL sc d Q i) (hm : 0 < n), w_T sc d 0 300 lv [] U Q) := by
  intro n
  induction n with
  | zero => exact fun i U lv l0 l1 l2 l3 i0 i2 hV hK hm => absurd hm (Nat.not_lt_zero _)
  | succ n ih =>
    intro i U lv l0 l1 l2 l3 i0 i2 hV hK hm
    subst hsc
    have hC := hV.2.2.2.2.2.2.1
    have hRr := hV.2.2.2.2.2.2.2.1
    have hO := hV.2.2.2.2.2.2.2.2
    have hc9 := hV.2.2.2.2.2.1
    obtain ⟨pi, hct⟩ := hC.2.2.2.2.1
    obtain ⟨sg, hrt⟩ := hRr.2.2.2.2.1
    refine w_aload_n rfl l1 rfl ?_
    refine w_CV (as := []) (r := []) rfl rfl rfl rfl sh_0 (Nat.le_of_ble_eq_true rfl) (Nat.le_of_ble_eq_true rfl) (by omega) rfl (c_mcs hct.1 (by omega)) ?_
    rintro _ _ ⟨rfl, hS⟩
    rw [hS]
    show w_T _ _ 0 304 _ [.int (iZ ((R.2.2.2.1.length : Int)))] _ _
    refine w_aload_n rfl l2 rfl ?_
    refine w_CV (as := []) (r := [.int (iZ ((R.2.2.2.1.length : Int)))]) rfl rfl rfl rfl sh_249 (Nat.le_of_ble_eq_true rfl) (Nat.le_of_ble_eq_true rfl) (by omega) rfl (r_mcs hO.2.2.2.2.2.2.1.1 hrt (by omega)) ?_
    rintro _ _ ⟨rfl, hS⟩
    rw [hS]
    show w_T _ _ 0 308 _ [.int (iZ ((R.2.2.2.1.length : Int))), .int (iZ ((R.2.2.2.1.length : Int)))] _ _
    refine w_ic_same (pc2 := 359) rfl (by decide) ?_
    exact hK _ _ _ _ _ hV (by exact l0) (by exact l1) (by exact l2) (by exact l3)
theorem l_op11_c {sc : x_S} {d : Nat} {Q : Option Value → w_S → Prop} {L : Nat} {xs : Nat → Int32} {F : Int → (Int → Int) × Int} {c : Nat} {R : Rst} (hL : L ≤ 1536) (hsc : sc = some (L, xs)) (hd : 400 ≤ d) : ∀ n : Nat, (∀ (i : Int) (U : w_S) (lv : x_L) (l0 : lv 0 = some (.retAddr 0)) (l1 : lv 1 = some (.ref 0)) (l2 : lv 2 = some (.ref 249)) (l3 : lv 3 = some (.int (iZ i))) (i0 : 0 ≤ i) (i2 : i + 2 < (L : Int)) (hV : LV9 U F c R) (hK : KL sc d Q i) (hm : 0 < n), w_T sc d 0 313 lv [] U Q) := by
  intro n
  induction n with
  | zero => exact fun i U lv l0 l1 l2 l3 i0 i2 hV hK hm => absurd hm (Nat.not_lt_zero _)
  | succ n ih =>
    intro i U lv l0 l1 l2 l3 i0 i2 hV hK hm
    subst hsc
    have hC := hV.2.2.2.2.2.2.1
    have hRr := hV.2.2.2.2.2.2.2.1
    have hO := hV.2.2.2.2.2.2.2.2
    have hc9 := hV.2.2.2.2.2.1
    refine w_aload_n rfl l1 rfl ?_
    refine w_CV (as := []) (r := []) rfl rfl rfl rfl sh_0 (Nat.le_of_ble_eq_true rfl) (Nat.le_of_ble_eq_true rfl) (by omega) rfl (c_nds hC.2.2.2.2.2.1 (by omega)) ?_
    rintro _ _ ⟨rfl, hS⟩
    rw [hS]
    show w_T _ _ 0 317 _ [.int (iZ ((R.2.2.2.2.length : Int)))] _ _
    refine w_aload_n rfl l2 rfl ?_
    refine w_CV (as := []) (r := [.int (iZ ((R.2.2.2.2.length : Int)))]) rfl rfl rfl rfl sh_249 (Nat.le_of_ble_eq_true rfl) (Nat.le_of_ble_eq_true rfl) (by omega) rfl (r_nds hRr.2.2.2.2.2.1 (by omega)) ?_
    rintro _ _ ⟨rfl, hS⟩
    rw [hS]
    show w_T _ _ 0 321 _ [.int (iZ ((R.2.2.2.2.length : Int))), .int (iZ ((R.2.2.2.2.length : Int)))] _ _
    refine w_ic_same (pc2 := 359) rfl (by decide) ?_
    exact hK _ _ _ _ _ hV (by exact l0) (by exact l1) (by exact l2) (by exact l3)
theorem l_op12_c {sc : x_S} {d : Nat} {Q : Option Value → w_S → Prop} {L : Nat} {xs : Nat → Int32} {F : Int → (Int → Int) × Int} {c : Nat} {R : Rst} (hL : L ≤ 1536) (hsc : sc = some (L, xs)) (hd : 400 ≤ d) : ∀ n : Nat, (∀ (i : Int) (U : w_S) (lv : x_L) (l0 : lv 0 = some (.retAddr 0)) (l1 : lv 1 = some (.ref 0)) (l2 : lv 2 = some (.ref 249)) (l3 : lv 3 = some (.int (iZ i))) (i0 : 0 ≤ i) (i2 : i + 2 < (L : Int)) (hV : LV9 U F c R) (hK : KL sc d Q i) (hm : 0 < n), w_T sc d 0 326 lv [] U Q) := by
  intro n
  induction n with
  | zero => exact fun i U lv l0 l1 l2 l3 i0 i2 hV hK hm => absurd hm (Nat.not_lt_zero _)
  | succ n ih =>
    intro i U lv l0 l1 l2 l3 i0 i2 hV hK hm
    subst hsc
    have hC := hV.2.2.2.2.2.2.1
    have hRr := hV.2.2.2.2.2.2.2.1
    have hO := hV.2.2.2.2.2.2.2.2
    have hc9 := hV.2.2.2.2.2.1
    refine w_aload_n rfl l1 rfl ?_
    refine w_aloadk_n rfl l0 (by decide) rfl ?_
    refine w_iload_n rfl l3 rfl ?_
    refine w_iconst rfl rfl ?_
    refine w_iadd rfl rfl ?_
    refine w_scld rfl (by omega) (by omega) hL rfl ?_
    generalize ha : ((xs (i + 1).toNat).toInt) = a
    have hara := iR_of (xs (i + 1).toNat)
    rw [ha] at hara
    unfold iR at hara
    refine w_aloadk_n rfl l0 (by decide) rfl ?_
    refine w_iload_n rfl l3 rfl ?_
    refine w_iconst rfl rfl ?_
    refine w_iadd rfl rfl ?_
    refine w_scld rfl (by omega) (by omega) hL rfl ?_
    generalize hb : ((xs (i + 2).toNat).toInt) = b
    have harb := iR_of (xs (i + 2).toNat)
    rw [hb] at harb
    unfold iR at harb
    refine w_CV (as := [.int (iZ a), .int (iZ b)]) (r := []) rfl rfl rfl rfl sh_0 (Nat.le_of_ble_eq_true rfl) (Nat.le_of_ble_eq_true rfl) (by omega) rfl (c_nod hC.2.2.2.2.2 hO.2.2.2.2.2.2.2 hara harb (by omega)) ?_
    rintro _ _ ⟨rfl, hS⟩
    rw [hS]
    show w_T _ _ 0 340 _ [.int (iZ (ndv R.2.2.2.2 a b))] _ _
    refine w_aload_n rfl l2 rfl ?_
    refine w_aloadk_n rfl l0 (by decide) rfl ?_
    refine w_iload_n rfl l3 rfl ?_
    refine w_iconst rfl rfl ?_
    refine w_iadd rfl rfl ?_
    refine w_scld rfl (by omega) (by omega) hL rfl ?_
    rw [ha]
    refine w_aloadk_n rfl l0 (by decide) rfl ?_
    refine w_iload_n rfl l3 rfl ?_
    refine w_iconst rfl rfl ?_
    refine w_iadd rfl rfl ?_
    refine w_scld rfl (by omega) (by omega) hL rfl ?_
    rw [hb]
    refine w_CV (as := [.int (iZ a), .int (iZ b)]) (r := [.int (iZ (ndv R.2.2.2.2 a b))]) rfl rfl rfl rfl sh_249 (Nat.le_of_ble_eq_true rfl) (Nat.le_of_ble_eq_true rfl) (by omega) rfl (r_nod hRr.2.2.2.2.2 hara harb (by omega)) ?_
    rintro _ _ ⟨rfl, hS⟩
    rw [hS]
    show w_T _ _ 0 354 _ [.int (iZ (ndv R.2.2.2.2 a b)), .int (iZ (ndv R.2.2.2.2 a b))] _ _
    refine w_ic_same (pc2 := 359) rfl (by decide) ?_
    exact hK _ _ _ _ _ hV (by exact l0) (by exact l1) (by exact l2) (by exact l3)
theorem l_inc_c {sc : x_S} {d : Nat} {Q : Option Value → w_S → Prop}  (hd : 400 ≤ d) : ∀ n : Nat, (∀ (i : Int) (U : w_S) (lv : x_L) (l0 : lv 0 = some (.retAddr 0)) (l1 : lv 1 = some (.ref 0)) (l2 : lv 2 = some (.ref 249)) (l3 : lv 3 = some (.int (iZ i))) (H : ∀ lv : x_L, lv 0 = some (.retAddr 0) → lv 1 = some (.ref 0) → lv 2 = some (.ref 249) → lv 3 = some (.int (iZ (i + 3))) → w_T sc d 0 18 lv [] U Q) (hm : 0 < n), w_T sc d 0 359 lv [] U Q) := by
  intro n
  induction n with
  | zero => exact fun i U lv l0 l1 l2 l3 H hm => absurd hm (Nat.not_lt_zero _)
  | succ n ih =>
    intro i U lv l0 l1 l2 l3 H hm
    refine w_iinc rfl l3 (by decide) rfl ?_
    refine w_goto (pc2 := 18) rfl (by decide) ?_
    exact H _ (by exact l0) (by exact l1) (by exact (congrArg x_k2 l2)) (by exact rfl)
def LQ : Option Value → w_S → Prop := fun v _ => v = some (.int (iZ 1))
theorem l_loop_c {sc : x_S} {d : Nat} {L : Nat} {xs : Nat → Int32} (hL : L ≤ 1536) (hsc : sc = some (L, xs)) (hd : 400 ≤ d) : ∀ n : Nat, (∀ (i : Int) (F : Int → (Int → Int) × Int) (c : Nat) (R : Rst) (U : w_S) (lv : x_L) (l0 : lv 0 = some (.retAddr 0)) (l1 : lv 1 = some (.ref 0)) (l2 : lv 2 = some (.ref 249)) (l3 : lv 3 = some (.int (iZ i))) (i0 : 0 ≤ i) (i1 : i ≤ (L : Int)) (hV : LV9 U F c R) (hm : ((L : Int) - i).toNat < n), w_T sc d 0 18 lv [] U LQ) := by
  intro n
  induction n with
  | zero => exact fun i F c R U lv l0 l1 l2 l3 i0 i1 hV hm => absurd hm (Nat.not_lt_zero _)
  | succ n ih =>
    intro i F c R U lv l0 l1 l2 l3 i0 i1 hV hm
    subst hsc
    refine w_iload_n rfl l3 rfl ?_
    refine w_aloadk_n rfl l0 (by decide) rfl ?_
    refine w_sclen rfl rfl ?_
    refine w_iconst rfl rfl ?_
    refine w_isub rfl rfl ?_
    refine w_ic_gt (pc2 := 365) (pc3 := 26) rfl (by decide) rfl ⟨by omega, by omega⟩ ⟨by omega, by omega⟩ (fun c23 => ?_) (fun c23 => ?_)
    · skip
      refine w_iconst rfl rfl ?_
      refine w_zret rfl rfl (by decide) ?_
      exact rfl
    · skip
      refine w_aloadk_n rfl l0 (by decide) rfl ?_
      refine w_iload_n rfl l3 rfl ?_
      refine w_scld rfl (by omega) (by omega) hL rfl ?_
      refine w_bipush rfl (by decide) rfl ?_
      refine w_zand rfl rfl ?_
      have hz := zand_15 ((xs (i).toNat).toInt)
      generalize zand ((xs (i).toNat).toInt) 15 = z at hz ⊢
      have hK : KL (some (L, xs)) d LQ i := fun S2 F2 c2 R2 lv2 h2 m0 m1 m2 m3 => l_inc_c hd 1 i S2 lv2 m0 m1 m2 m3 (fun lv3 n0 n1 n2 n3 => ih (i + 3) F2 c2 R2 S2 lv3 n0 n1 n2 n3 (by omega) (by omega) h2 (by omega)) (by omega)
      rcases (show z = 0 ∨ z = 1 ∨ z = 2 ∨ z = 3 ∨ z = 4 ∨ z = 5 ∨ z = 6 ∨ z = 7 ∨ z = 8 ∨ z = 9 ∨ z = 10 ∨ z = 11 ∨ z = 12 ∨ z = 13 ∨ z = 14 ∨ z = 15 by omega) with rfl | rfl | rfl | rfl | rfl | rfl | rfl | rfl | rfl | rfl | rfl | rfl | rfl | rfl | rfl | rfl
      · refine w_ts (pc2 := 100) rfl rfl ?_
        exact l_op0_c hL rfl hd 1 i U _ (by exact l0) (by exact l1) (by exact l2) (by exact l3) i0 (by omega) hV hK (by omega)
      · refine w_ts (pc2 := 123) rfl rfl ?_
        exact l_op1_c hL rfl hd 1 i U _ (by exact l0) (by exact l1) (by exact l2) (by exact l3) i0 (by omega) hV hK (by omega)
      · refine w_ts (pc2 := 148) rfl rfl ?_
        exact l_op2_c hL rfl hd 1 i U _ (by exact l0) (by exact l1) (by exact l2) (by exact l3) i0 (by omega) hV hK (by omega)
      · refine w_ts (pc2 := 159) rfl rfl ?_
        exact l_op3_c hL rfl hd 1 i U _ (by exact l0) (by exact l1) (by exact l2) (by exact l3) i0 (by omega) hV hK (by omega)
      · refine w_ts (pc2 := 182) rfl rfl ?_
        exact l_op4_c hL rfl hd 1 i U _ (by exact l0) (by exact l1) (by exact l2) (by exact l3) i0 (by omega) hV hK (by omega)
      · refine w_ts (pc2 := 205) rfl rfl ?_
        exact l_op5_c hL rfl hd 1 i U _ (by exact l0) (by exact l1) (by exact l2) (by exact l3) i0 (by omega) hV hK (by omega)
      · refine w_ts (pc2 := 218) rfl rfl ?_
        exact l_op6_c hL rfl hd 1 i U _ (by exact l0) (by exact l1) (by exact l2) (by exact l3) i0 (by omega) hV hK (by omega)
      · refine w_ts (pc2 := 231) rfl rfl ?_
        exact l_op7_c hL rfl hd 1 i U _ (by exact l0) (by exact l1) (by exact l2) (by exact l3) i0 (by omega) hV hK (by omega)
      · refine w_ts (pc2 := 254) rfl rfl ?_
        exact l_op8_c hL rfl hd 1 i U _ (by exact l0) (by exact l1) (by exact l2) (by exact l3) i0 (by omega) hV hK (by omega)
      · refine w_ts (pc2 := 287) rfl rfl ?_
        exact l_op9_c hL rfl hd 1 i U _ (by exact l0) (by exact l1) (by exact l2) (by exact l3) i0 (by omega) hV hK (by omega)
      · refine w_ts (pc2 := 300) rfl rfl ?_
        exact l_op10_c hL rfl hd 1 i U _ (by exact l0) (by exact l1) (by exact l2) (by exact l3) i0 (by omega) hV hK (by omega)
      · refine w_ts (pc2 := 313) rfl rfl ?_
        exact l_op11_c hL rfl hd 1 i U _ (by exact l0) (by exact l1) (by exact l2) (by exact l3) i0 (by omega) hV hK (by omega)
      · refine w_ts (pc2 := 326) rfl rfl ?_
        exact l_op12_c hL rfl hd 1 i U _ (by exact l0) (by exact l1) (by exact l2) (by exact l3) i0 (by omega) hV hK (by omega)
      · refine w_ts (pc2 := 359) rfl rfl ?_
        exact hK U F c R _ hV (by exact l0) (by exact l1) (by exact l2) (by exact l3)
      · refine w_ts (pc2 := 359) rfl rfl ?_
        exact hK U F c R _ hV (by exact l0) (by exact l1) (by exact l2) (by exact l3)
      · refine w_ts (pc2 := 359) rfl rfl ?_
        exact hK U F c R _ hV (by exact l0) (by exact l1) (by exact l2) (by exact l3)
