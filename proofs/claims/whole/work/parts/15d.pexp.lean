/-! The class takes expressions. -/
def XR (S : w_S) (n : Int) (Y : Int → Int64) (D : List Dcl) (M : List Nd) (res : PR) (v : Option Value) (S2 : w_S) : Prop := (res = none → v = some (.int (iZ 0)) ∧ fr (fun a => 234 ≤ a ∧ a ≤ 242) S S2) ∧ (∀ q, res = some q → v = some (.int (iZ 1)) ∧ fr (fun a => 234 ≤ a ∧ a ≤ 242) S S2 ∧ PW S2 n Y D q.1 (M ++ q.2.1))
theorem XR_n {S S2 : w_S} {n : Int} {Y : Int → Int64} {D : List Dcl} {M : List Nd} {res : PR} (h : res = none) (f : fr (fun a => 234 ≤ a ∧ a ≤ 242) S S2) : XR S n Y D M res (some (.int (iZ 0))) S2 := ⟨fun _ => ⟨rfl, f⟩, fun q hq => nns (h.symm.trans hq)⟩
theorem XR_s {S S2 : w_S} {n : Int} {Y : Int → Int64} {D : List Dcl} {M : List Nd} {res : PR} {q : Int × List Nd × Int} (h : res = some q) (f : fr (fun a => 234 ≤ a ∧ a ≤ 242) S S2) (hw : PW S2 n Y D q.1 (M ++ q.2.1)) : XR S n Y D M res (some (.int (iZ 1))) S2 := ⟨fun z => nns (z.symm.trans h), fun r hr => by
  have e : q = r := Option.some.inj (h.symm.trans hr)
  rw [← e]
  exact ⟨rfl, f, hw⟩⟩
def CE (sc : x_S) (m : Nat) : Prop := ∀ (d : Nat) (S : w_S) (nn : Int) (Y : Int → Int64) (D : List Dcl) (a : Int) (M : List Nd) (dp : Int), PW S nn Y D a M → 0 < nn → 0 ≤ dp → dp ≤ 13 → 20 * (nn + 1 - a) + 12 ≤ m → (M.length : Int) + (nn - a) ≤ 156 → 16 * (13 - dp) + 40 ≤ d → w_T sc d 55 0 (x_en 0 [.ref 234, .int (iZ dp)]) [] S (XR S nn Y D M (px Y D nn m 0 dp a []))
theorem c_sto {sc : x_S} {d : Nat} {S : w_S} {x : Int64}  (hd : 20 ≤ d) : w_T sc d 57 0 (x_en 0 [.long x]) [] S (fun v S2 => v = some (.int (iZ (sto x))) ∧ S2 = S) := by
  refine w_lload_n rfl rfl rfl ?_
  refine w_ldc2 (v := 42) rfl rfl rfl ?_
  refine w_l_eq (pc2 := 16) (pc3 := 8) rfl rfl (by decide) rfl (fun c5 => ?_) (fun c5 => ?_)
  · skip
    refine w_iconst rfl rfl ?_
    refine w_iret rfl rfl ?_
    refine q_i ?_
    unfold sto
    first
      | (rw [if_pos (by first | exact Or.inl c5 | exact Or.inr c13)]; done)
      | (rw [if_neg (fun z => z.elim c5 c13), if_pos (by first | exact Or.inl c23 | exact Or.inr c31)]; done)
      | (rw [if_neg (fun z => z.elim c5 c13), if_neg (fun z => z.elim c23 c31), if_pos (by first | exact Or.inl c41 | exact Or.inr c49)]; done)
      | (rw [if_neg (fun z => z.elim c5 c13), if_neg (fun z => z.elim c23 c31), if_neg (fun z => z.elim c41 c49), if_pos c60]; done)
      | (rw [if_neg (fun z => z.elim c5 c13), if_neg (fun z => z.elim c23 c31), if_neg (fun z => z.elim c41 c49), if_neg c60]; done)
  · skip
    refine w_lload_n rfl rfl rfl ?_
    refine w_ldc2 (v := 47) rfl rfl rfl ?_
    refine w_l_ne (pc2 := 18) (pc3 := 16) rfl rfl (by decide) rfl (fun c13 => ?_) (fun c13 => ?_)
    · skip
      refine w_lload_n rfl rfl rfl ?_
      refine w_ldc2 (v := 43) rfl rfl rfl ?_
      refine w_l_eq (pc2 := 34) (pc3 := 26) rfl rfl (by decide) rfl (fun c23 => ?_) (fun c23 => ?_)
      · skip
        refine w_iconst rfl rfl ?_
        refine w_iret rfl rfl ?_
        refine q_i ?_
        unfold sto
        first
          | (rw [if_pos (by first | exact Or.inl c5 | exact Or.inr c13)]; done)
          | (rw [if_neg (fun z => z.elim c5 c13), if_pos (by first | exact Or.inl c23 | exact Or.inr c31)]; done)
          | (rw [if_neg (fun z => z.elim c5 c13), if_neg (fun z => z.elim c23 c31), if_pos (by first | exact Or.inl c41 | exact Or.inr c49)]; done)
          | (rw [if_neg (fun z => z.elim c5 c13), if_neg (fun z => z.elim c23 c31), if_neg (fun z => z.elim c41 c49), if_pos c60]; done)
          | (rw [if_neg (fun z => z.elim c5 c13), if_neg (fun z => z.elim c23 c31), if_neg (fun z => z.elim c41 c49), if_neg c60]; done)
      · skip
        refine w_lload_n rfl rfl rfl ?_
        refine w_ldc2 (v := 45) rfl rfl rfl ?_
        refine w_l_ne (pc2 := 36) (pc3 := 34) rfl rfl (by decide) rfl (fun c31 => ?_) (fun c31 => ?_)
        · skip
          refine w_lload_n rfl rfl rfl ?_
          refine w_ldc2 (v := 60) rfl rfl rfl ?_
          refine w_l_eq (pc2 := 52) (pc3 := 44) rfl rfl (by decide) rfl (fun c41 => ?_) (fun c41 => ?_)
          · skip
            refine w_iconst rfl rfl ?_
            refine w_iret rfl rfl ?_
            refine q_i ?_
            unfold sto
            first
              | (rw [if_pos (by first | exact Or.inl c5 | exact Or.inr c13)]; done)
              | (rw [if_neg (fun z => z.elim c5 c13), if_pos (by first | exact Or.inl c23 | exact Or.inr c31)]; done)
              | (rw [if_neg (fun z => z.elim c5 c13), if_neg (fun z => z.elim c23 c31), if_pos (by first | exact Or.inl c41 | exact Or.inr c49)]; done)
              | (rw [if_neg (fun z => z.elim c5 c13), if_neg (fun z => z.elim c23 c31), if_neg (fun z => z.elim c41 c49), if_pos c60]; done)
              | (rw [if_neg (fun z => z.elim c5 c13), if_neg (fun z => z.elim c23 c31), if_neg (fun z => z.elim c41 c49), if_neg c60]; done)
          · skip
            refine w_lload_n rfl rfl rfl ?_
            refine w_ldc2 (v := 62) rfl rfl rfl ?_
            refine w_l_ne (pc2 := 54) (pc3 := 52) rfl rfl (by decide) rfl (fun c49 => ?_) (fun c49 => ?_)
            · skip
              refine w_lload_n rfl rfl rfl ?_
              refine w_ldcs (q := 19) rfl rfl rfl ?_
              refine w_CS (as := [.long x, .retAddr 19]) (r := []) rfl rfl rfl rfl (Nat.le_of_ble_eq_true rfl) (Nat.le_of_ble_eq_true rfl) (by omega) rfl (c_spl (x := x) (q := 19) ⟨by decide, by decide⟩ spk_19 (by omega)) ?_
              rintro _ _ ⟨rfl, hS⟩
              rw [hS]
              show w_T _ _ 57 60 _ [.int (iZ (zB (decide (x = 7869))))] _ _
              refine w_p_eq (pc2 := 67) (pc3 := 63) rfl (by decide) rfl (fun c60 => ?_) (fun c60 => ?_)
              · skip
                refine w_iconst rfl rfl ?_
                refine w_iret rfl rfl ?_
                refine q_i ?_
                unfold sto
                first
                  | (rw [if_pos (by first | exact Or.inl c5 | exact Or.inr c13)]; done)
                  | (rw [if_neg (fun z => z.elim c5 c13), if_pos (by first | exact Or.inl c23 | exact Or.inr c31)]; done)
                  | (rw [if_neg (fun z => z.elim c5 c13), if_neg (fun z => z.elim c23 c31), if_pos (by first | exact Or.inl c41 | exact Or.inr c49)]; done)
                  | (rw [if_neg (fun z => z.elim c5 c13), if_neg (fun z => z.elim c23 c31), if_neg (fun z => z.elim c41 c49), if_pos c60]; done)
                  | (rw [if_neg (fun z => z.elim c5 c13), if_neg (fun z => z.elim c23 c31), if_neg (fun z => z.elim c41 c49), if_neg c60]; done)
              · skip
                refine w_iconst rfl rfl ?_
                refine w_goto (pc2 := 68) rfl (by decide) ?_
                refine w_iret rfl rfl ?_
                refine q_i ?_
                unfold sto
                first
                  | (rw [if_pos (by first | exact Or.inl c5 | exact Or.inr c13)]; done)
                  | (rw [if_neg (fun z => z.elim c5 c13), if_pos (by first | exact Or.inl c23 | exact Or.inr c31)]; done)
                  | (rw [if_neg (fun z => z.elim c5 c13), if_neg (fun z => z.elim c23 c31), if_pos (by first | exact Or.inl c41 | exact Or.inr c49)]; done)
                  | (rw [if_neg (fun z => z.elim c5 c13), if_neg (fun z => z.elim c23 c31), if_neg (fun z => z.elim c41 c49), if_pos c60]; done)
                  | (rw [if_neg (fun z => z.elim c5 c13), if_neg (fun z => z.elim c23 c31), if_neg (fun z => z.elim c41 c49), if_neg c60]; done)
            · skip
              refine w_iconst rfl rfl ?_
              refine w_iret rfl rfl ?_
              refine q_i ?_
              unfold sto
              first
                | (rw [if_pos (by first | exact Or.inl c5 | exact Or.inr c13)]; done)
                | (rw [if_neg (fun z => z.elim c5 c13), if_pos (by first | exact Or.inl c23 | exact Or.inr c31)]; done)
                | (rw [if_neg (fun z => z.elim c5 c13), if_neg (fun z => z.elim c23 c31), if_pos (by first | exact Or.inl c41 | exact Or.inr c49)]; done)
                | (rw [if_neg (fun z => z.elim c5 c13), if_neg (fun z => z.elim c23 c31), if_neg (fun z => z.elim c41 c49), if_pos c60]; done)
                | (rw [if_neg (fun z => z.elim c5 c13), if_neg (fun z => z.elim c23 c31), if_neg (fun z => z.elim c41 c49), if_neg c60]; done)
        · skip
          refine w_iconst rfl rfl ?_
          refine w_iret rfl rfl ?_
          refine q_i ?_
          unfold sto
          first
            | (rw [if_pos (by first | exact Or.inl c5 | exact Or.inr c13)]; done)
            | (rw [if_neg (fun z => z.elim c5 c13), if_pos (by first | exact Or.inl c23 | exact Or.inr c31)]; done)
            | (rw [if_neg (fun z => z.elim c5 c13), if_neg (fun z => z.elim c23 c31), if_pos (by first | exact Or.inl c41 | exact Or.inr c49)]; done)
            | (rw [if_neg (fun z => z.elim c5 c13), if_neg (fun z => z.elim c23 c31), if_neg (fun z => z.elim c41 c49), if_pos c60]; done)
            | (rw [if_neg (fun z => z.elim c5 c13), if_neg (fun z => z.elim c23 c31), if_neg (fun z => z.elim c41 c49), if_neg c60]; done)
    · skip
      refine w_iconst rfl rfl ?_
      refine w_iret rfl rfl ?_
      refine q_i ?_
      unfold sto
      first
        | (rw [if_pos (by first | exact Or.inl c5 | exact Or.inr c13)]; done)
        | (rw [if_neg (fun z => z.elim c5 c13), if_pos (by first | exact Or.inl c23 | exact Or.inr c31)]; done)
        | (rw [if_neg (fun z => z.elim c5 c13), if_neg (fun z => z.elim c23 c31), if_pos (by first | exact Or.inl c41 | exact Or.inr c49)]; done)
        | (rw [if_neg (fun z => z.elim c5 c13), if_neg (fun z => z.elim c23 c31), if_neg (fun z => z.elim c41 c49), if_pos c60]; done)
        | (rw [if_neg (fun z => z.elim c5 c13), if_neg (fun z => z.elim c23 c31), if_neg (fun z => z.elim c41 c49), if_neg c60]; done)
theorem sto_r (y : Int64) : 0 ≤ sto y ∧ sto y ≤ 4 := by
  unfold sto
  repeat' split
  all_goals decide
theorem c_ty1 {sc : x_S} {d : Nat} {S : w_S} {nn : Int} {Y : Int → Int64} {D : List Dcl} {a : Int} {M : List Nd} (hw : PW S nn Y D a M) (hr : M.length ≤ 199) (ht : isT D (Y a) = true) (hd : 20 ≤ d) : w_T sc d 48 0 (x_en 0 [.ref 234]) [] S (fun v S2 => v = some (.int (iZ 1)) ∧ fr (fun a => 234 ≤ a ∧ a ≤ 242) S S2 ∧ PW S2 nn Y D (a + 1) (M ++ [(3, a, 0)])) := by
  have hnn := hw.1.1
  have hn1 := hw.1.2.1
  have ha0 := hw.2.2.2.2.1
  have ha1 := hw.2.2.2.2.2
  have f0 : fr (fun a => 234 ≤ a ∧ a ≤ 242) S S := fr_refl _ _
  have hal : a < nn := by
    by_cases c : a < nn
    · exact c
    · rw [hw.1.2.2.2.2.2 a (by omega), isT_0] at ht
      exact Bool.noConfusion ht
  refine w_aload_n rfl rfl rfl ?_
  refine w_aload_n rfl rfl rfl ?_
  refine w_getI (z := a) rfl rfl sh_234 rfl hw.2.2.1 rfl ?_
  refine w_CV (as := [.int (iZ a)]) (r := []) rfl rfl rfl rfl sh_234 (Nat.le_of_ble_eq_true rfl) (Nat.le_of_ble_eq_true rfl) (by omega) rfl (c_ist (i := a) hw (by omega) (by omega) (by omega)) ?_
  rintro _ _ ⟨rfl, hS⟩
  rw [hS]
  show w_T _ _ 48 8 _ [.int (iZ (zB (isT D (Y a))))] _ _
  refine w_b_ne (pc2 := 13) (pc3 := 11) rfl (by decide) rfl (fun c8 => ?_) (fun c8 => ?_)
  · skip
    refine w_aload_n rfl rfl rfl ?_
    refine w_getR rfl rfl sh_234 rfl rfl ?_
    refine w_iconst rfl rfl ?_
    refine w_aload_n rfl rfl rfl ?_
    refine w_getI (z := a) rfl rfl sh_234 rfl hw.2.2.1 rfl ?_
    refine w_iconst rfl rfl ?_
    refine w_CV (as := [.int (iZ 3), .int (iZ a), .int (iZ 0)]) (r := []) rfl rfl rfl rfl sh_235 (Nat.le_of_ble_eq_true rfl) (Nat.le_of_ble_eq_true rfl) (by omega) rfl (c_tadd (M := M) hw.2.2.2.1 (by (try simp only [List.length_append, List.length_cons, List.length_nil, stF_len]); omega) (by omega)) ?_
    rintro _ V1 ⟨rfl, g1, ht1⟩
    show w_T _ _ 48 26 _ [.int (iZ ((M.length : Int)))] _ _
    have hw1 := PW_tree hw g1 ht1
    have f1 := fr_trans f0 (fr_mono g1 (fun a h => by omega))
    refine w_pop rfl rfl rfl ?_
    refine w_aload_n rfl rfl rfl ?_
    refine w_dup rfl rfl rfl ?_
    refine w_getI (z := a) rfl rfl sh_234 rfl hw1.2.2.1 rfl ?_
    refine w_iconst rfl rfl ?_
    refine w_iadd rfl rfl ?_
    refine w_putf rfl rfl sh_234 rfl rfl (by decide) rfl ?_
    refine w_iconst rfl rfl ?_
    refine w_zret rfl rfl (by decide) ?_
    exact ⟨rfl, (fr_v f1 (by omega)), (PW_at hw1 (b := a + 1) (by omega) (by omega))⟩
  · (rw [ht] at c8; exact Bool.noConfusion c8)
theorem c_ty0 {sc : x_S} {d : Nat} {S : w_S} {nn : Int} {Y : Int → Int64} {D : List Dcl} {a : Int} {M : List Nd} (hw : PW S nn Y D a M) (hr : M.length ≤ 199) (ht : isT D (Y a) = false) (hd : 20 ≤ d) : w_T sc d 48 0 (x_en 0 [.ref 234]) [] S (fun v S2 => v = some (.int (iZ 0)) ∧ fr (fun a => 234 ≤ a ∧ a ≤ 242) S S2) := by
  have hnn := hw.1.1
  have hn1 := hw.1.2.1
  have ha0 := hw.2.2.2.2.1
  have ha1 := hw.2.2.2.2.2
  have f0 : fr (fun a => 234 ≤ a ∧ a ≤ 242) S S := fr_refl _ _
  refine w_aload_n rfl rfl rfl ?_
  refine w_aload_n rfl rfl rfl ?_
  refine w_getI (z := a) rfl rfl sh_234 rfl hw.2.2.1 rfl ?_
  refine w_CV (as := [.int (iZ a)]) (r := []) rfl rfl rfl rfl sh_234 (Nat.le_of_ble_eq_true rfl) (Nat.le_of_ble_eq_true rfl) (by omega) rfl (c_ist (i := a) hw (by omega) (by omega) (by omega)) ?_
  rintro _ _ ⟨rfl, hS⟩
  rw [hS]
  show w_T _ _ 48 8 _ [.int (iZ (zB (isT D (Y a))))] _ _
  refine w_b_ne (pc2 := 13) (pc3 := 11) rfl (by decide) rfl (fun c8 => ?_) (fun c8 => ?_)
  · (rw [ht] at c8; exact Bool.noConfusion c8)
  · skip
    refine w_iconst rfl rfl ?_
    refine w_zret rfl rfl (by decide) ?_
    exact ⟨rfl, f0⟩
theorem trep_g {S : w_S} {M N : List Nd} {k t c : Int} (h : trep S (M ++ (k, t, c) :: N)) : sA S 236 M.length = k ∧ sA S 237 M.length = t ∧ sA S 238 M.length = c := by
  have q := h.2 M.length (by omega) (by rw [List.length_append, List.length_cons]; omega)
  rw [ndg_r (Int.le_refl _), Int.sub_self, ndg_0] at q
  exact q
theorem PW_kid {S : w_S} {n : Int} {Y : Int → Int64} {D : List Dcl} {a : Int} {M N : List Nd} {k t c c2 : Int} (h : PW S n Y D a (M ++ (k, t, c) :: N)) : PW (w_A S 238 (w_u (sA S 238) M.length c2)) n Y D a (M ++ (k, t, c2) :: N) := PW_tree h (fr_A (fr_refl _ _) (by omega)) (trep_kid h.2.2.2.1)
theorem PW_tok {S : w_S} {n : Int} {Y : Int → Int64} {D : List Dcl} {a : Int} {M N : List Nd} {k t c c2 : Int} (h : PW S n Y D a (M ++ (k, t, c) :: N)) : PW (w_A S 237 (w_u (sA S 237) M.length c2)) n Y D a (M ++ (k, c2, c) :: N) := PW_tree h (fr_A (fr_refl _ _) (by omega)) (trep_tok h.2.2.2.1)
theorem PW_knd {S : w_S} {n : Int} {Y : Int → Int64} {D : List Dcl} {a : Int} {M N : List Nd} {k t c c2 : Int} (h : PW S n Y D a (M ++ (k, t, c) :: N)) : PW (w_A S 236 (w_u (sA S 236) M.length c2)) n Y D a (M ++ (c2, t, c) :: N) := PW_tree h (fr_A (fr_refl _ _) (by omega)) (trep_knd h.2.2.2.1)
theorem stF_snoc : ∀ (m : Nat) (a : Int), stF (m + 1) a = stF m a ++ [(7, a + m, 0)]
  | 0, a => by
    show [(7, a, 0)] = [((7 : Int), a + ((0 : Nat) : Int), (0 : Int))]
    rw [show a + ((0 : Nat) : Int) = a by omega]
  | m + 1, a => by
    show (7, a, 0) :: stF (m + 1) (a + 1) = (7, a, 0) :: (stF m (a + 1) ++ [(7, a + ((m + 1 : Nat) : Int), 0)])
    rw [stF_snoc m (a + 1), show a + 1 + (m : Int) = a + ((m + 1 : Nat) : Int) by omega]
def cst (Y : Int → Int64) (n a : Int) : PR := if Y (stN Y n (a + 2)) = 41 then some (stN Y n (a + 2) + 1, (14, a, 2 + (stN Y n (a + 2) - (a + 2))) :: (3, a + 1, 0) :: stF (stN Y n (a + 2) - (a + 2)).toNat (a + 2), 0) else none
theorem c_cst_c {sc : x_S} {d : Nat} {S : w_S} {nn : Int} {Y : Int → Int64} {D : List Dcl} {a : Int} {M : List Nd} (hw : PW S nn Y D a M) (hrm : (M.length : Int) + (nn - a) ≤ 160) (h40 : Y a = 40) (hty : isT D (Y (a + 1)) = true) (hd : 30 ≤ d) : ∀ n : Nat, (∀ (c : Nat) (U : w_S) (lv : x_L) (l0 : lv 0 = some (.ref 234)) (l1 : lv 1 = some (.int (iZ ((M.length : Int))))) (hfr : fr (fun a => 234 ≤ a ∧ a ≤ 242) S U) (hwU : PW U nn Y D (a + 2 + c) (M ++ (14, a, 2 + (c : Int)) :: (3, a + 1, 0) :: stF c (a + 2))) (hs : stN Y nn (a + 2) = fi (fun j => decide (¬ Y j = 42)) nn (a + 2 + c)) (hm : (nn - (a + 2 + c)).toNat < n), w_T sc d 59 34 lv [] U (XR S nn Y D M (cst Y nn a))) := by
  intro n
  induction n with
  | zero => exact fun c U lv l0 l1 hfr hwU hs hm => absurd hm (Nat.not_lt_zero _)
  | succ n ih =>
    intro c U lv l0 l1 hfr hwU hs hm
    have hnn := hw.1.1
    have hn1 := hw.1.2.1
    have ha0 := hw.2.2.2.2.1
    have ha1 := hw.2.2.2.2.2
    have ha0U := hwU.2.2.2.2.1
    have ha1U := hwU.2.2.2.2.2
    refine w_aload_n rfl l0 rfl ?_
    refine w_getI (z := a + 2 + c) rfl rfl sh_234 rfl hwU.2.2.1 rfl ?_
    refine w_aload_n rfl l0 rfl ?_
    refine w_getI (z := nn) rfl rfl sh_234 rfl hwU.1.2.2.1 rfl ?_
    refine w_ic_ge (pc2 := 102) (pc3 := 45) rfl (by decide) rfl ⟨by omega, by omega⟩ ⟨by omega, by omega⟩ (fun c42 => ?_) (fun c42 => ?_)
    · skip
      refine w_aload_n rfl l0 rfl ?_
      refine w_bipush rfl (by decide) rfl ?_
      by_cases k105 : Y (a + 2 + c) = 41
      · skip
        refine w_CV (as := [.int (iZ 41)]) (r := []) rfl rfl rfl rfl sh_234 (Nat.le_of_ble_eq_true rfl) (Nat.le_of_ble_eq_true rfl) (by omega) rfl (c_tk1 (c := 41) (x := 41) hwU (by decide) (by decide) (by decide) (by decide) k105 (by omega)) ?_
        rintro _ V1 ⟨rfl, g1, hw1⟩
        show w_T _ _ 59 108 _ [.int (iZ 1)] _ _
        have f1 := fr_trans hfr g1
        have kl105 := Y_lt hwU (by decide) k105
        refine w_zret rfl rfl (by decide) ?_
        have hse : stN Y nn (a + 2) = a + 2 + c := by
          rw [hs]
          first
            | rw [fi_end (by omega)]
            | rw [fi_stop (by omega) (decide_eq_true c58)]
        have hce : (a + 2 + (c : Int) - (a + 2)) = c := by omega
        refine XR_s (q := (a + 2 + c + 1, (14, a, 2 + (c : Int)) :: (3, a + 1, 0) :: stF c (a + 2), 0)) ?_ f1 hw1
        unfold cst
        rw [hse, if_pos k105, hce, Int.toNat_natCast]
      · skip
        refine w_CV (as := [.int (iZ 41)]) (r := []) rfl rfl rfl rfl sh_234 (Nat.le_of_ble_eq_true rfl) (Nat.le_of_ble_eq_true rfl) (by omega) rfl (c_tk0 (c := 41) (x := 41) hwU (by decide) (by decide) (by decide) (by decide) k105 (by omega)) ?_
        rintro _ V2 ⟨rfl, g2, hw2⟩
        show w_T _ _ 59 108 _ [.int (iZ 0)] _ _
        have f2 := fr_trans hfr g2
        refine w_zret rfl rfl (by decide) ?_
        have hse : stN Y nn (a + 2) = a + 2 + c := by
          rw [hs]
          first
            | rw [fi_end (by omega)]
            | rw [fi_stop (by omega) (decide_eq_true c58)]
        have hce : (a + 2 + (c : Int) - (a + 2)) = c := by omega
        refine XR_n ?_ f2
        unfold cst
        rw [hse, if_neg k105]
    · skip
      refine w_aload_n rfl l0 rfl ?_
      refine w_getR rfl rfl sh_234 rfl rfl ?_
      refine w_aload_n rfl l0 rfl ?_
      refine w_getI (z := a + 2 + c) rfl rfl sh_234 rfl hwU.2.2.1 rfl ?_
      refine w_lald (z := Y (a + 2 + c)) rfl sh_239 (by omega) (by omega) (by decide) (hwU.1.2.2.2.1 _ (by omega) (by omega)).1 rfl ?_
      refine w_ldc2 (v := 42) rfl rfl rfl ?_
      refine w_l_ne (pc2 := 102) (pc3 := 61) rfl rfl (by decide) rfl (fun c58 => ?_) (fun c58 => ?_)
      · skip
        refine w_aload_n rfl l0 rfl ?_
        refine w_bipush rfl (by decide) rfl ?_
        by_cases k105 : Y (a + 2 + c) = 41
        · skip
          refine w_CV (as := [.int (iZ 41)]) (r := []) rfl rfl rfl rfl sh_234 (Nat.le_of_ble_eq_true rfl) (Nat.le_of_ble_eq_true rfl) (by omega) rfl (c_tk1 (c := 41) (x := 41) hwU (by decide) (by decide) (by decide) (by decide) k105 (by omega)) ?_
          rintro _ V3 ⟨rfl, g3, hw3⟩
          show w_T _ _ 59 108 _ [.int (iZ 1)] _ _
          have f3 := fr_trans hfr g3
          have kl105 := Y_lt hwU (by decide) k105
          refine w_zret rfl rfl (by decide) ?_
          have hse : stN Y nn (a + 2) = a + 2 + c := by
            rw [hs]
            first
              | rw [fi_end (by omega)]
              | rw [fi_stop (by omega) (decide_eq_true c58)]
          have hce : (a + 2 + (c : Int) - (a + 2)) = c := by omega
          refine XR_s (q := (a + 2 + c + 1, (14, a, 2 + (c : Int)) :: (3, a + 1, 0) :: stF c (a + 2), 0)) ?_ f3 hw3
          unfold cst
          rw [hse, if_pos k105, hce, Int.toNat_natCast]
        · skip
          refine w_CV (as := [.int (iZ 41)]) (r := []) rfl rfl rfl rfl sh_234 (Nat.le_of_ble_eq_true rfl) (Nat.le_of_ble_eq_true rfl) (by omega) rfl (c_tk0 (c := 41) (x := 41) hwU (by decide) (by decide) (by decide) (by decide) k105 (by omega)) ?_
          rintro _ V4 ⟨rfl, g4, hw4⟩
          show w_T _ _ 59 108 _ [.int (iZ 0)] _ _
          have f4 := fr_trans hfr g4
          refine w_zret rfl rfl (by decide) ?_
          have hse : stN Y nn (a + 2) = a + 2 + c := by
            rw [hs]
            first
              | rw [fi_end (by omega)]
              | rw [fi_stop (by omega) (decide_eq_true c58)]
          have hce : (a + 2 + (c : Int) - (a + 2)) = c := by omega
          refine XR_n ?_ f4
          unfold cst
          rw [hse, if_neg k105]
      · skip
        refine w_aload_n rfl l0 rfl ?_
        refine w_getR rfl rfl sh_234 rfl rfl ?_
        refine w_bipush rfl (by decide) rfl ?_
        refine w_aload_n rfl l0 rfl ?_
        refine w_getI (z := a + 2 + c) rfl rfl sh_234 rfl hwU.2.2.1 rfl ?_
        refine w_iconst rfl rfl ?_
        refine w_CV (as := [.int (iZ 7), .int (iZ (a + 2 + c)), .int (iZ 0)]) (r := []) rfl rfl rfl rfl sh_235 (Nat.le_of_ble_eq_true rfl) (Nat.le_of_ble_eq_true rfl) (by omega) rfl (c_tadd (M := M ++ (14, a, 2 + (c : Int)) :: (3, a + 1, 0) :: stF c (a + 2)) hwU.2.2.2.1 (by (try simp only [List.length_append, List.length_cons, List.length_nil, stF_len]); omega) (by omega)) ?_
        rintro _ V5 ⟨rfl, g5, ht5⟩
        show w_T _ _ 59 75 _ [.int (iZ (((M ++ (14, a, 2 + (c : Int)) :: (3, a + 1, 0) :: stF c (a + 2)).length : Int)))] _ _
        have hw5 := PW_tree hwU g5 ht5
        have f5 := fr_trans hfr (fr_mono g5 (fun a h => by omega))
        refine w_pop rfl rfl rfl ?_
        have hw6 : PW V5 nn Y D (a + 2 + c) (M ++ (14, a, 2 + (c : Int)) :: (3, a + 1, 0) :: stF (c + 1) (a + 2)) := by
          have q := hw5
          rw [stF_snoc]
          simpa [List.append_assoc] using q
        have f6 : fr (fun a => 234 ≤ a ∧ a ≤ 242) S V5 := f5
        generalize V5 = V6 at hw6 f6 ⊢
        refine w_aload_n rfl l0 rfl ?_
        refine w_getR rfl rfl sh_234 rfl rfl ?_
        refine w_getR rfl rfl sh_235 rfl rfl ?_
        refine w_iload_n rfl l1 rfl ?_
        refine w_dup2 rfl rfl rfl rfl ?_
        refine w_iald (z := 2 + (c : Int)) rfl sh_238 (by omega) (by omega) (by decide) (trep_g hw6.2.2.2.1).2.2 rfl ?_
        refine w_iconst rfl rfl ?_
        refine w_iadd rfl rfl ?_
        rw [show 2 + (c : Int) + 1 = 2 + ((c + 1 : Nat) : Int) by omega]
        refine w_iaS (f := sA V6 238) rfl sh_238 (by omega) (by omega) (by decide) rfl rfl ?_
        have hw7 : PW ((w_A V6 238 (w_u (sA V6 238) ((M.length : Int)) (2 + ((c + 1 : Nat) : Int))))) nn Y D (a + 2 + c) (M ++ (14, a, 2 + ((c + 1 : Nat) : Int)) :: (3, a + 1, 0) :: stF (c + 1) (a + 2)) := PW_kid hw6
        have f7 : fr (fun a => 234 ≤ a ∧ a ≤ 242) S ((w_A V6 238 (w_u (sA V6 238) ((M.length : Int)) (2 + ((c + 1 : Nat) : Int))))) := fr_A f6 (by omega)
        generalize (w_A V6 238 (w_u (sA V6 238) ((M.length : Int)) (2 + ((c + 1 : Nat) : Int)))) = V7 at hw7 f7 ⊢
        refine w_aload_n rfl l0 rfl ?_
        refine w_dup rfl rfl rfl ?_
        refine w_getI (z := a + 2 + c) rfl rfl sh_234 rfl hw7.2.2.1 rfl ?_
        refine w_iconst rfl rfl ?_
        refine w_iadd rfl rfl ?_
        refine w_putf rfl rfl sh_234 rfl rfl (by decide) rfl ?_
        refine w_goto (pc2 := 34) rfl (by decide) ?_
        exact ih ((c + 1)) _ _ l0 l1 (by exact (fr_v f7 (by omega))) (by have q := (PW_at hw7 (b := a + 2 + c + 1) (by omega) (by omega)); rw [show a + 2 + ((c + 1 : Nat) : Int) = a + 2 + c + 1 by omega]; exact q) (by rw [hs, fi_next (by omega) (decide_eq_false (not_not_intro c58)), show a + 2 + ((c + 1 : Nat) : Int) = a + 2 + c + 1 by omega]) (by omega)
theorem c_cst {sc : x_S} {d : Nat} {S : w_S} {nn : Int} {Y : Int → Int64} {D : List Dcl} {a : Int} {M : List Nd} (hw : PW S nn Y D a M) (hrm : (M.length : Int) + (nn - a) ≤ 160) (h40 : Y a = 40) (hty : isT D (Y (a + 1)) = true) (hd : 30 ≤ d) : w_T sc d 59 0 (x_en 0 [.ref 234]) [] S (XR S nn Y D M (cst Y nn a)) := by
  have hnn := hw.1.1
  have hn1 := hw.1.2.1
  have ha0 := hw.2.2.2.2.1
  have ha1 := hw.2.2.2.2.2
  have f0 : fr (fun a => 234 ≤ a ∧ a ≤ 242) S S := fr_refl _ _
  have hal := Y_lt hw (by decide) h40
  have hal2 : a + 1 < nn := by
    by_cases c : a + 1 < nn
    · exact c
    · rw [hw.1.2.2.2.2.2 (a + 1) (by omega), isT_0] at hty
      exact Bool.noConfusion hty
  refine w_aload_n rfl rfl rfl ?_
  refine w_getR rfl rfl sh_234 rfl rfl ?_
  refine w_bipush rfl (by decide) rfl ?_
  refine w_aload_n rfl rfl rfl ?_
  refine w_getI (z := a) rfl rfl sh_234 rfl hw.2.2.1 rfl ?_
  refine w_iconst rfl rfl ?_
  refine w_CV (as := [.int (iZ 14), .int (iZ a), .int (iZ 2)]) (r := []) rfl rfl rfl rfl sh_235 (Nat.le_of_ble_eq_true rfl) (Nat.le_of_ble_eq_true rfl) (by omega) rfl (c_tadd (M := M) hw.2.2.2.1 (by (try simp only [List.length_append, List.length_cons, List.length_nil, stF_len]); omega) (by omega)) ?_
  rintro _ V8 ⟨rfl, g8, ht8⟩
  show w_T _ _ 59 14 _ [.int (iZ ((M.length : Int)))] _ _
  have hw8 := PW_tree hw g8 ht8
  have f8 := fr_trans f0 (fr_mono g8 (fun a h => by omega))
  refine w_istore_n rfl (by decide) rfl ?_
  refine w_aload_n rfl rfl rfl ?_
  refine w_dup rfl rfl rfl ?_
  refine w_getI (z := a) rfl rfl sh_234 rfl hw8.2.2.1 rfl ?_
  refine w_iconst rfl rfl ?_
  refine w_iadd rfl rfl ?_
  refine w_putf rfl rfl sh_234 rfl rfl (by decide) rfl ?_
  refine w_aload_n rfl rfl rfl ?_
  rcases Bool.eq_false_or_eq_true (isT D (Y (a + 1))) with k26 | k26
  · skip
    refine w_CV (as := []) (r := []) rfl rfl rfl rfl sh_234 (Nat.le_of_ble_eq_true rfl) (Nat.le_of_ble_eq_true rfl) (by omega) rfl (c_ty1 (PW_at hw8 (b := a + 1) (by omega) (by omega)) (by (try simp only [List.length_append, List.length_cons, List.length_nil, stF_len]); omega) k26 (by omega)) ?_
    rintro _ V9 ⟨rfl, g9, hw9⟩
    show w_T _ _ 59 29 _ [.int (iZ 1)] _ _
    have f9 := fr_trans (fr_v f8 (by omega)) g9
    have kl26 := hw9.2.2.2.2.2
    refine w_if_ne (pc2 := 34) (pc3 := 32) rfl (by decide) rfl ⟨by decide, by decide⟩ (fun _ => ?_) (fun hc => absurd hc (by decide))
    exact (c_cst_c hw hrm h40 hty hd _) 0 _ _ rfl rfl (by exact f9) (by have q := hw9; simpa [List.append_assoc, Int.add_assoc, stF] using q) (by unfold stN; rw [show a + 2 + ((0 : Nat) : Int) = a + 2 by omega]) (Nat.lt_succ_self _)
  · skip
    refine w_CV (as := []) (r := []) rfl rfl rfl rfl sh_234 (Nat.le_of_ble_eq_true rfl) (Nat.le_of_ble_eq_true rfl) (by omega) rfl (c_ty0 (PW_at hw8 (b := a + 1) (by omega) (by omega)) (by (try simp only [List.length_append, List.length_cons, List.length_nil, stF_len]); omega) k26 (by omega)) ?_
    rintro _ V10 ⟨rfl, g10⟩
    show w_T _ _ 59 29 _ [.int (iZ 0)] _ _
    have f10 := fr_trans (fr_v f8 (by omega)) g10
    refine w_if_ne (pc2 := 34) (pc3 := 32) rfl (by decide) rfl ⟨by decide, by decide⟩ (fun hc => absurd hc (by decide)) (fun _ => ?_)
    refine w_iconst rfl rfl ?_
    refine w_zret rfl rfl (by decide) ?_
    rw [k26] at hty
    exact Bool.noConfusion hty
