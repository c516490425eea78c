/-! The class takes statements, blocks, declarations. -/
def SX (S : w_S) (n : Int) (Y : Int → Int64) (M : List Nd) (res : SR) (v : Option Value) (S2 : w_S) : Prop := (res = none → v = some (.int (iZ 0)) ∧ fr (fun a => 234 ≤ a ∧ a ≤ 242) S S2) ∧ (∀ q, res = some q → v = some (.int (iZ 1)) ∧ fr (fun a => 234 ≤ a ∧ a ≤ 242) S S2 ∧ PW S2 n Y q.2.2.2.1 q.1 (M ++ q.2.1))
theorem SX_n {S S2 : w_S} {n : Int} {Y : Int → Int64} {M : List Nd} {res : SR} (h : res = none) (f : fr (fun a => 234 ≤ a ∧ a ≤ 242) S S2) : SX S n Y M res (some (.int (iZ 0))) S2 := ⟨fun _ => ⟨rfl, f⟩, fun q hq => nns (h.symm.trans hq)⟩
theorem SX_s {S S2 : w_S} {n : Int} {Y : Int → Int64} {M : List Nd} {res : SR} {q : Int × List Nd × Int × List Dcl × Bool} (h : res = some q) (f : fr (fun a => 234 ≤ a ∧ a ≤ 242) S S2) (hw : PW S2 n Y q.2.2.2.1 q.1 (M ++ q.2.1)) : SX S n Y M res (some (.int (iZ 1))) S2 := ⟨fun z => nns (z.symm.trans h), fun r hr => by
  have e : q = r := Option.some.inj (h.symm.trans hr)
  rw [← e]
  exact ⟨rfl, f, hw⟩⟩
theorem DR_cons {S W : w_S} {D : List Dcl} {x : Int64} {td : Bool} (h : DR S D) (h9 : D.length ≤ 99) (w7 : sv W 234 7 = (D.length : Int) + 1) (w1 : sL W 241 = w_u (sL S 241) D.length x) (w2 : sA W 242 = w_u (sA S 242) D.length (zB td)) : DR W ((x, td) :: D) := by
  refine ⟨by rw [w7, List.length_cons]; omega, by rw [List.length_cons]; omega, ?_, ?_, drep_fr D h.2.2 (fun j hj => ?_)⟩
  · rw [w1, w_u_self]
  · rw [w2, w_u_self]
  · rw [w1, w2]
    exact ⟨w_u_ne _ _ (by omega), w_u_ne _ _ (by omega)⟩
theorem c_dcl {sc : x_S} {d : Nat} {S : w_S} {nn : Int} {Y : Int → Int64} {D : List Dcl} {a s c0 : Int} {M F : List Nd} {td : Bool} (hw : PW S nn Y D a (M ++ (4, s, c0) :: F)) (h9 : D.length ≤ 99) (s0 : 0 ≤ s) (s1 : s < nn) (hrm : M.length + F.length ≤ 190) (hd : 2 ≤ d) : w_T sc d 49 0 (x_en 0 [.ref 234, .int (iZ ((M.length : Int))), .int (iZ (zB td))]) [] S (fun v S2 => v = none ∧ fr (fun a => 234 ≤ a ∧ a ≤ 242) S S2 ∧ PW S2 nn Y ((Y s, td) :: D) a (M ++ (4, s, (F.length : Int)) :: F)) := by
  have hnn := hw.1.1
  have hn1 := hw.1.2.1
  have ha0 := hw.2.2.2.2.1
  have ha1 := hw.2.2.2.2.2
  have f0 : fr (fun a => 234 ≤ a ∧ a ≤ 242) S S := fr_refl _ _
  have hl : ((M ++ (4, s, c0) :: F).length : Int) = M.length + F.length + 1 := by rw [List.length_append, List.length_cons]; omega
  have hsz : sv S 235 3 = (M.length : Int) + F.length + 1 := by rw [← hl]; exact hw.2.2.2.1.1
  refine w_aload_n rfl rfl rfl ?_
  refine w_getR rfl rfl sh_234 rfl rfl ?_
  refine w_getR rfl rfl sh_235 rfl rfl ?_
  refine w_iload_n rfl rfl rfl ?_
  refine w_aload_n rfl rfl rfl ?_
  refine w_getR rfl rfl sh_234 rfl rfl ?_
  refine w_getI (z := (M.length : Int) + F.length + 1) rfl rfl sh_235 rfl hsz rfl ?_
  refine w_iload_n rfl rfl rfl ?_
  refine w_isub rfl rfl ?_
  refine w_iconst rfl rfl ?_
  refine w_isub rfl rfl ?_
  rw [show (M.length : Int) + F.length + 1 - (M.length : Int) - 1 = (F.length : Int) by omega]
  refine w_iaS (f := sA S 238) rfl sh_238 (by omega) (by omega) (by decide) rfl rfl ?_
  refine w_aload_n rfl rfl rfl ?_
  refine w_getI (z := (D.length : Int)) rfl rfl sh_234 rfl hw.2.1.1 rfl ?_
  refine w_aload_n rfl rfl rfl ?_
  refine w_getR rfl rfl sh_234 rfl rfl ?_
  refine w_alen rfl sh_241 (by decide) (by decide) rfl ?_
  refine w_ic_ge (pc2 := 75) (pc3 := 32) rfl (by decide) rfl ⟨by omega, by omega⟩ ⟨by decide, by decide⟩ (fun c29 => ?_) (fun c29 => ?_)
  · omega
  · skip
    refine w_aload_n rfl rfl rfl ?_
    refine w_getR rfl rfl sh_234 rfl rfl ?_
    refine w_aload_n rfl rfl rfl ?_
    refine w_getI (z := (D.length : Int)) rfl rfl sh_234 rfl hw.2.1.1 rfl ?_
    refine w_aload_n rfl rfl rfl ?_
    refine w_getR rfl rfl sh_234 rfl rfl ?_
    refine w_aload_n rfl rfl rfl ?_
    refine w_getR rfl rfl sh_234 rfl rfl ?_
    refine w_getR rfl rfl sh_235 rfl rfl ?_
    refine w_iload_n rfl rfl rfl ?_
    refine w_iald (z := s) rfl sh_237 (by omega) (by omega) (by decide) ((congrFun (rA_ne (by decide)) _).trans (trep_g hw.2.2.2.1).2.1) rfl ?_
    refine w_lald (z := Y s) rfl sh_239 (by omega) (by omega) (by decide) (hw.1.2.2.2.1 _ (by omega) (by omega)).1 rfl ?_
    refine w_laS (f := sL S 241) rfl sh_241 (by omega) (by omega) (by decide) rfl rfl ?_
    refine w_aload_n rfl rfl rfl ?_
    refine w_getR rfl rfl sh_234 rfl rfl ?_
    refine w_aload_n rfl rfl rfl ?_
    refine w_getI (z := (D.length : Int)) rfl rfl sh_234 rfl hw.2.1.1 rfl ?_
    refine w_iload_n rfl rfl rfl ?_
    refine w_baS (f := sA S 242) rfl sh_242 (by omega) (by omega) (by decide) (zB_nar _) (rA_ne (S := S) (a := 238) (f := w_u (sA S 238) ((M.length : Int)) ((F.length : Int))) (b := 242) (by decide)) rfl ?_
    refine w_aload_n rfl rfl rfl ?_
    refine w_dup rfl rfl rfl ?_
    refine w_getI (z := (D.length : Int)) rfl rfl sh_234 rfl hw.2.1.1 rfl ?_
    refine w_iconst rfl rfl ?_
    refine w_iadd rfl rfl ?_
    refine w_putf rfl rfl sh_234 rfl rfl (by decide) rfl ?_
    refine w_vret rfl rfl ?_
    have hk := PW_kid (c2 := (F.length : Int)) hw
    refine ⟨rfl, (fr_v (fr_A (fr_L (fr_A (fr_refl _ _) (by omega)) (by omega)) (by omega)) (by omega)), ?_⟩
    refine ⟨⟨hw.1.1, hw.1.2.1, ?_, ?_, hw.1.2.2.2.2⟩, DR_cons hw.2.1 h9 (by simp (disch := omega) only [rv_self, rv_ne, rl_self, rl_ne, rA_self, rA_ne, rL_self, rL_ne, rR_self, rR_ne, xvl, xvA, xvL, xvR, xlv, xlA, xlL, xlR, xAv, xAl, xAL, xAR, xLv, xLl, xLA, xLR, xRv, xRl, xRA, xRL]) rfl rfl, ?_, ?_, hw.2.2.2.2⟩
    · (simp (disch := omega) only [rv_self, rv_ne, rl_self, rl_ne, rA_self, rA_ne, rL_self, rL_ne, rR_self, rR_ne, xvl, xvA, xvL, xvR, xlv, xlA, xlL, xlR, xAv, xAl, xAL, xAR, xLv, xLl, xLA, xLR, xRv, xRl, xRA, xRL]); exact hw.1.2.2.1
    · exact hw.1.2.2.2.1
    · (simp (disch := omega) only [rv_self, rv_ne, rl_self, rl_ne, rA_self, rA_ne, rL_self, rL_ne, rR_self, rR_ne, xvl, xvA, xvL, xvR, xlv, xlA, xlL, xlR, xAv, xAl, xAL, xAR, xLv, xLl, xLA, xLR, xRv, xRl, xRA, xRL]); exact hw.2.2.1
    · exact ⟨hk.2.2.2.1.1, hk.2.2.2.1.2⟩
theorem c_isf {sc : x_S} {d : Nat} {S : w_S} {nn : Int} {Y : Int → Int64} {D : List Dcl} {a s c : Int} {M F : List Nd} (hw : PW S nn Y D a (M ++ (4, s, c) :: F)) (hc : 0 ≤ c) (hc2 : c ≤ F.length) (hrm : M.length + F.length ≤ 190) (hk6 : 0 ≤ (ndg F 0).1 ∧ (ndg F 0).1 ≤ 100) (hd : 2 ≤ d) : w_T sc d 50 0 (x_en 0 [.ref 234, .int (iZ ((M.length : Int)))]) [] S (fun v S2 => v = some (.int (iZ (zB (decide (0 < c ∧ (ndg F 0).1 = 6))))) ∧ S2 = S) := by
  have hnn := hw.1.1
  have hn1 := hw.1.2.1
  have ha0 := hw.2.2.2.2.1
  have ha1 := hw.2.2.2.2.2
  have f0 : fr (fun a => 234 ≤ a ∧ a ≤ 242) S S := fr_refl _ _
  have hk : 0 < c → sA S 236 ((M.length : Int) + 1) = (ndg F 0).1 := fun z => by
    have q := (hw.2.2.2.1.2 ((M.length : Int) + 1) (by omega) (by rw [List.length_append, List.length_cons]; omega)).1
    rw [ndg_r (by omega), show (M.length : Int) + 1 - M.length = 1 by omega, ndg_s (by decide)] at q
    exact q
  have hkr : 0 < c → True := fun _ => trivial
  refine w_iload_n rfl rfl rfl ?_
  refine w_iconst rfl rfl ?_
  refine w_iadd rfl rfl ?_
  refine w_istore_n rfl (by decide) rfl ?_
  refine w_aload_n rfl rfl rfl ?_
  refine w_getR rfl rfl sh_234 rfl rfl ?_
  refine w_getR rfl rfl sh_235 rfl rfl ?_
  refine w_iload_n rfl rfl rfl ?_
  refine w_iald (z := c) rfl sh_238 (by omega) (by omega) (by decide) (trep_g hw.2.2.2.1).2.2 rfl ?_
  refine w_if_le (pc2 := 34) (pc3 := 16) rfl (by decide) rfl ⟨by omega, by omega⟩ (fun c13 => ?_) (fun c13 => ?_)
  · skip
    refine w_iconst rfl rfl ?_
    refine w_zret rfl rfl (by decide) ?_
    refine q_i ?_
    first
      | (rw [decide_eq_true ⟨by omega, c27⟩]; rfl)
      | (rw [decide_eq_false (fun z => c27 z.2)]; rfl)
      | (rw [decide_eq_false (fun z => by omega)]; rfl)
  · skip
    refine w_aload_n rfl rfl rfl ?_
    refine w_getR rfl rfl sh_234 rfl rfl ?_
    refine w_getR rfl rfl sh_235 rfl rfl ?_
    refine w_iload_n rfl rfl rfl ?_
    refine w_iald (z := (ndg F 0).1) rfl sh_236 (by omega) (by omega) (by decide) (hk c13) rfl ?_
    refine w_bipush rfl (by decide) rfl ?_
    refine w_ic_ne (pc2 := 34) (pc3 := 30) rfl (by decide) rfl ⟨by omega, by omega⟩ ⟨by decide, by decide⟩ (fun c27 => ?_) (fun c27 => ?_)
    · skip
      refine w_iconst rfl rfl ?_
      refine w_zret rfl rfl (by decide) ?_
      refine q_i ?_
      first
        | (rw [decide_eq_true ⟨by omega, c27⟩]; rfl)
        | (rw [decide_eq_false (fun z => c27 z.2)]; rfl)
        | (rw [decide_eq_false (fun z => by omega)]; rfl)
    · skip
      refine w_iconst rfl rfl ?_
      refine w_goto (pc2 := 35) rfl (by decide) ?_
      refine w_zret rfl rfl (by decide) ?_
      refine q_i ?_
      first
        | (rw [decide_eq_true ⟨by omega, c27⟩]; rfl)
        | (rw [decide_eq_false (fun z => c27 z.2)]; rfl)
        | (rw [decide_eq_false (fun z => by omega)]; rfl)
theorem c_sdc {sc : x_S} {d : Nat} {S : w_S} {nn : Int} {Y : Int → Int64} {D : List Dcl} {a : Int} {M : List Nd} (hw : PW S nn Y D a M)  (hd : 3 ≤ d) : w_T sc d 45 0 (x_en 0 [.ref 234]) [] S (fun v S2 => v = some (.int (iZ (zB (sdc D (Y a))))) ∧ S2 = S) := by
  have hnn := hw.1.1
  have hn1 := hw.1.2.1
  have ha0 := hw.2.2.2.2.1
  have ha1 := hw.2.2.2.2.2
  have f0 : fr (fun a => 234 ≤ a ∧ a ≤ 242) S S := fr_refl _ _
  have hwkr := wk_r (Y a)
  refine w_aload_n rfl rfl rfl ?_
  refine w_getR rfl rfl sh_234 rfl rfl ?_
  refine w_aload_n rfl rfl rfl ?_
  refine w_getI (z := a) rfl rfl sh_234 rfl hw.2.2.1 rfl ?_
  refine w_iald (z := wk (Y a)) rfl sh_240 (by omega) (by omega) (by decide) (hw.1.2.2.2.1 _ (by omega) (by omega)).2 rfl ?_
  refine w_iconst rfl rfl ?_
  refine w_ic_eq (pc2 := 24) (pc3 := 13) rfl (by decide) rfl ⟨by omega, by omega⟩ ⟨by decide, by decide⟩ (fun c10 => ?_) (fun c10 => ?_)
  · skip
    refine w_iconst rfl rfl ?_
    refine w_goto (pc2 := 29) rfl (by decide) ?_
    refine w_zret rfl rfl (by decide) ?_
    refine q_i ?_
    unfold sdc
    first
      | (rw [decide_eq_true c10]; rfl)
      | (rw [decide_eq_false c10, c21]; rfl)
  · skip
    refine w_aload_n rfl rfl rfl ?_
    refine w_aload_n rfl rfl rfl ?_
    refine w_getI (z := a) rfl rfl sh_234 rfl hw.2.2.1 rfl ?_
    refine w_CV (as := [.int (iZ a)]) (r := []) rfl rfl rfl rfl sh_234 (Nat.le_of_ble_eq_true rfl) (Nat.le_of_ble_eq_true rfl) (by omega) rfl (c_ist (i := a) hw (by omega) (by omega) (by omega)) ?_
    rintro _ _ ⟨rfl, hS⟩
    rw [hS]
    show w_T _ _ 45 21 _ [.int (iZ (zB (isT D (Y a))))] _ _
    refine w_b_eq (pc2 := 28) (pc3 := 24) rfl (by decide) rfl (fun c21 => ?_) (fun c21 => ?_)
    · skip
      refine w_iconst rfl rfl ?_
      refine w_zret rfl rfl (by decide) ?_
      refine q_i ?_
      unfold sdc
      first
        | (rw [decide_eq_true c10]; rfl)
        | (rw [decide_eq_false c10, c21]; rfl)
    · skip
      refine w_iconst rfl rfl ?_
      refine w_goto (pc2 := 29) rfl (by decide) ?_
      refine w_zret rfl rfl (by decide) ?_
      refine q_i ?_
      unfold sdc
      first
        | (rw [decide_eq_true c10]; rfl)
        | (rw [decide_eq_false c10, c21]; rfl)
def CK (sc : x_S) (m : Nat) : Prop := ∀ (d : Nat) (S : w_S) (nn : Int) (Y : Int → Int64) (D : List Dcl) (a : Int) (M : List Nd) (dp : Int), PW S nn Y D a M → 0 < nn → 0 ≤ dp → dp ≤ 13 → 10 * (nn + 1 - a) + 4 ≤ m → (M.length : Int) + (nn - a) ≤ 145 → (D.length : Int) ≤ a → 16 * (13 - dp) + 70 ≤ d → w_T sc d 53 0 (x_en 0 [.ref 234, .int (iZ dp)]) [] S (SX S nn Y M (ps Y nn m 0 false false false dp a D))
theorem c_stm {sc : x_S} {d : Nat} {S : w_S} {nn : Int} {Y : Int → Int64} {D : List Dcl} {a : Int} {M : List Nd} {dp : Int} {m : Nat} (H : CK sc m) (hw : PW S nn Y D a M) (hn0 : 0 < nn) (hdp : 0 ≤ dp) (hdp2 : dp ≤ 12) (hfu : 10 * (nn + 1 - a) + 4 ≤ (m : Int)) (hrm : (M.length : Int) + (nn - a) ≤ 145) (hDa : (D.length : Int) ≤ a) (hdd : 16 * (13 - dp) + 68 ≤ (d : Int)) (hd : 0 ≤ d) : w_T sc d 54 0 (x_en 0 [.ref 234, .int (iZ dp)]) [] S (SX S nn Y M (ps Y nn (m + 1) 2 false false false dp a D)) := by
  have hnn := hw.1.1
  have hn1 := hw.1.2.1
  have ha0 := hw.2.2.2.2.1
  have ha1 := hw.2.2.2.2.2
  have f0 : fr (fun a => 234 ≤ a ∧ a ≤ 242) S S := fr_refl _ _
  have hY : ∀ k : Int, nn ≤ k → Y k = 0 := hw.1.2.2.2.2.2
  have hwkr := wk_r (Y a)
  refine w_aload_n rfl rfl rfl ?_
  refine w_getR rfl rfl sh_234 rfl rfl ?_
  refine w_aload_n rfl rfl rfl ?_
  refine w_getI (z := a) rfl rfl sh_234 rfl hw.2.2.1 rfl ?_
  refine w_lald (z := Y a) rfl sh_239 (by omega) (by omega) (by decide) (hw.1.2.2.2.1 _ (by omega) (by omega)).1 rfl ?_
  refine w_ldc2 (v := 123) rfl rfl rfl ?_
  refine w_l_ne (pc2 := 24) (pc3 := 16) rfl rfl (by decide) rfl (fun c13 => ?_) (fun c13 => ?_)
  · skip
    refine w_aload_n rfl rfl rfl ?_
    refine w_getR rfl rfl sh_234 rfl rfl ?_
    refine w_aload_n rfl rfl rfl ?_
    refine w_getI (z := a) rfl rfl sh_234 rfl hw.2.2.1 rfl ?_
    refine w_iald (z := wk (Y a)) rfl sh_240 (by omega) (by omega) (by decide) (hw.1.2.2.2.1 _ (by omega) (by omega)).2 rfl ?_
    refine w_iconst rfl rfl ?_
    refine w_ic_ne (pc2 := 41) (pc3 := 37) rfl (by decide) rfl ⟨by omega, by omega⟩ ⟨by decide, by decide⟩ (fun c34 => ?_) (fun c34 => ?_)
    · skip
      refine w_iconst rfl rfl ?_
      refine w_istore_n rfl (by decide) rfl ?_
      refine w_aload_n rfl rfl rfl ?_
      refine w_getR rfl rfl sh_234 rfl rfl ?_
      refine w_iload_n rfl rfl rfl ?_
      refine w_if_eq (pc2 := 56) (pc3 := 51) rfl (by decide) rfl ⟨by decide, by decide⟩ (fun _ => ?_) (fun hc => absurd hc (by decide))
      refine w_bipush rfl (by decide) rfl ?_
      refine w_aload_n rfl rfl rfl ?_
      refine w_getI (z := a) rfl rfl sh_234 rfl hw.2.2.1 rfl ?_
      refine w_iconst rfl rfl ?_
      refine w_CV (as := [.int (iZ 10), .int (iZ a), .int (iZ 0)]) (r := []) rfl rfl rfl rfl sh_235 (Nat.le_of_ble_eq_true rfl) (Nat.le_of_ble_eq_true rfl) (by omega) rfl (c_tadd (M := M) hw.2.2.2.1 (by (try simp only [List.length_append, List.length_cons, List.length_nil, stF_len, stR_len]); omega) (by omega)) ?_
      rintro _ V1 ⟨rfl, g1, ht1⟩
      show w_T _ _ 54 66 _ [.int (iZ ((M.length : Int)))] _ _
      have hw1 := PW_tree hw g1 ht1
      have f1 := fr_trans f0 (fr_mono g1 (fun a h => by omega))
      refine w_istore_n rfl (by decide) rfl ?_
      refine w_aload_n rfl rfl rfl ?_
      refine w_dup rfl rfl rfl ?_
      refine w_getI (z := a) rfl rfl sh_234 rfl hw1.2.2.1 rfl ?_
      refine w_iload_n rfl rfl rfl ?_
      refine w_if_eq (pc2 := 80) (pc3 := 76) rfl (by decide) rfl ⟨by decide, by decide⟩ (fun _ => ?_) (fun hc => absurd hc (by decide))
      refine w_iconst rfl rfl ?_
      refine w_iadd rfl rfl ?_
      refine w_putf rfl rfl sh_234 rfl rfl (by decide) rfl ?_
      have hw2 : PW ((w_v V1 234 4 (a + 0))) nn Y D a (M ++ [(10, a, 0)]) := by
        have q := (PW_at hw1 (b := a + 0) (by omega) (by omega))
        simpa using q
      have f2 : fr (fun a => 234 ≤ a ∧ a ≤ 242) S ((w_v V1 234 4 (a + 0))) := (fr_v f1 (by omega))
      generalize (w_v V1 234 4 (a + 0)) = V2 at hw2 f2 ⊢
      refine w_aload_n rfl rfl rfl ?_
      refine w_getR rfl rfl sh_234 rfl rfl ?_
      refine w_aload_n rfl rfl rfl ?_
      refine w_getI (z := a) rfl rfl sh_234 rfl hw2.2.2.1 rfl ?_
      refine w_lald (z := Y a) rfl sh_239 (by omega) (by omega) (by decide) (hw2.1.2.2.2.1 _ (by omega) (by omega)).1 rfl ?_
      refine w_ldc2 (v := 59) rfl rfl rfl ?_
      refine w_l_eq (pc2 := 123) (pc3 := 101) rfl rfl (by decide) rfl (fun c98 => ?_) (fun c98 => ?_)
      · skip
        refine w_iload_n rfl rfl rfl ?_
        refine w_if_ne (pc2 := 140) (pc3 := 127) rfl (by decide) rfl ⟨by decide, by decide⟩ (fun hc => absurd hc (by decide)) (fun _ => ?_)
        refine w_aload_n rfl rfl rfl ?_
        refine w_getR rfl rfl sh_234 rfl rfl ?_
        refine w_getR rfl rfl sh_235 rfl rfl ?_
        refine w_iload_n rfl rfl rfl ?_
        refine w_aload_n rfl rfl rfl ?_
        refine w_getI (z := a) rfl rfl sh_234 rfl hw2.2.2.1 rfl ?_
        refine w_iaS (f := sA V2 237) rfl sh_237 (by omega) (by omega) (by decide) rfl rfl ?_
        have hw3 : PW ((w_A V2 237 (w_u (sA V2 237) ((M.length : Int)) a))) nn Y D a (M ++ (10, a, 0) :: []) := PW_tok hw2
        have f3 : fr (fun a => 234 ≤ a ∧ a ≤ 242) S ((w_A V2 237 (w_u (sA V2 237) ((M.length : Int)) a))) := fr_A f2 (by omega)
        generalize (w_A V2 237 (w_u (sA V2 237) ((M.length : Int)) a)) = V3 at hw3 f3 ⊢
        refine w_aload_n rfl rfl rfl ?_
        refine w_bipush rfl (by decide) rfl ?_
        by_cases k143 : Y a = 59
        · skip
          refine w_CV (as := [.int (iZ 59)]) (r := []) rfl rfl rfl rfl sh_234 (Nat.le_of_ble_eq_true rfl) (Nat.le_of_ble_eq_true rfl) (by omega) rfl (c_tk1 (c := 59) (x := 59) hw3 (by decide) (by decide) (by decide) (by decide) k143 (by omega)) ?_
          rintro _ V4 ⟨rfl, g4, hw4⟩
          show w_T _ _ 54 146 _ [.int (iZ 1)] _ _
          have f4 := fr_trans f3 g4
          have kl143 := Y_lt hw3 (by decide) k143
          refine w_zret rfl rfl (by decide) ?_
          refine SX_s (q := (a + 1, [(10, a, 0)], 1, D, false)) ?_ f4 (by have q := hw4; simpa [List.append_assoc] using q)
          rw [ps_2, if_neg c13, if_neg c34, if_pos c98, if_neg c34]
        · skip
          refine w_CV (as := [.int (iZ 59)]) (r := []) rfl rfl rfl rfl sh_234 (Nat.le_of_ble_eq_true rfl) (Nat.le_of_ble_eq_true rfl) (by omega) rfl (c_tk0 (c := 59) (x := 59) hw3 (by decide) (by decide) (by decide) (by decide) k143 (by omega)) ?_
          rintro _ V5 ⟨rfl, g5, hw5⟩
          show w_T _ _ 54 146 _ [.int (iZ 0)] _ _
          have f5 := fr_trans f3 g5
          refine w_zret rfl rfl (by decide) ?_
          exact absurd c98 k143
      · skip
        refine w_aload_n rfl rfl rfl ?_
        refine w_getR rfl rfl sh_234 rfl rfl ?_
        refine w_getR rfl rfl sh_235 rfl rfl ?_
        refine w_iload_n rfl rfl rfl ?_
        refine w_iconst rfl rfl ?_
        refine w_iaS (f := sA V2 238) rfl sh_238 (by omega) (by omega) (by decide) rfl rfl ?_
        have hw6 : PW ((w_A V2 238 (w_u (sA V2 238) ((M.length : Int)) 1))) nn Y D a (M ++ (10, a, 1) :: []) := PW_kid hw2
        have f6 : fr (fun a => 234 ≤ a ∧ a ≤ 242) S ((w_A V2 238 (w_u (sA V2 238) ((M.length : Int)) 1))) := fr_A f2 (by omega)
        generalize (w_A V2 238 (w_u (sA V2 238) ((M.length : Int)) 1)) = V6 at hw6 f6 ⊢
        refine w_aload_n rfl rfl rfl ?_
        refine w_iload_n rfl rfl rfl ?_
        refine w_iconst rfl rfl ?_
        refine w_iadd rfl rfl ?_
        rcases e115 : px Y (D) nn 2100 0 (dp + 1) (a) [] with _ | q115
        · skip
          refine w_CV (as := [.int (iZ (dp + 1))]) (r := []) rfl rfl rfl rfl sh_234 (Nat.le_of_ble_eq_true rfl) (Nat.le_of_ble_eq_true rfl) (by omega) rfl (w_mono ((CE_all sc 2100).1 _ _ nn Y (D) (a) (M ++ (10, a, 1) :: []) (dp + 1) hw6 hn0 (by omega) (by omega) (by omega) (by (try simp only [List.length_append, List.length_cons, List.length_nil, stF_len, stR_len]); omega) (by omega)) (fun v S2 h => h.1 e115)) ?_
          rintro _ V7 ⟨rfl, g7⟩
          show w_T _ _ 54 118 _ [.int (iZ 0)] _ _
          have f7 := fr_trans f6 g7
          refine w_if_ne (pc2 := 123) (pc3 := 121) rfl (by decide) rfl ⟨by decide, by decide⟩ (fun hc => absurd hc (by decide)) (fun _ => ?_)
          refine w_iconst rfl rfl ?_
          refine w_zret rfl rfl (by decide) ?_
          refine SX_n ?_ f7
          rw [ps_2, if_neg c13]
          first
            | (rw [if_pos c34, if_neg c98, e115]; rfl)
            | (rw [if_neg c34, if_neg c98, e115]; rfl)
        · skip
          refine w_CV (as := [.int (iZ (dp + 1))]) (r := []) rfl rfl rfl rfl sh_234 (Nat.le_of_ble_eq_true rfl) (Nat.le_of_ble_eq_true rfl) (by omega) rfl (w_mono ((CE_all sc 2100).1 _ _ nn Y (D) (a) (M ++ (10, a, 1) :: []) (dp + 1) hw6 hn0 (by omega) (by omega) (by omega) (by (try simp only [List.length_append, List.length_cons, List.length_nil, stF_len, stR_len]); omega) (by omega)) (fun v S2 h => h.2 _ e115)) ?_
          rintro _ V8 ⟨rfl, g8, hw8⟩
          show w_T _ _ 54 118 _ [.int (iZ 1)] _ _
          have f8 := fr_trans f6 g8
          have r115 := px_r hY 2100 0 (dp + 1) (a) [] q115 (by omega) (by omega) e115
          rw [if_neg (by decide)] at r115
          have r115b := r115.2.2.2.1.resolve_left (by decide)
          refine w_if_ne (pc2 := 123) (pc3 := 121) rfl (by decide) rfl ⟨by decide, by decide⟩ (fun _ => ?_) (fun hc => absurd hc (by decide))
          have hw9 : PW V8 nn Y D q115.1 (M ++ (10, a, 1) :: q115.2.1) := by
            have q := hw8
            simpa [List.append_assoc] using q
          have f9 : fr (fun a => 234 ≤ a ∧ a ≤ 242) S V8 := f8
          generalize V8 = V9 at hw9 f9 ⊢
          refine w_iload_n rfl rfl rfl ?_
          refine w_if_ne (pc2 := 140) (pc3 := 127) rfl (by decide) rfl ⟨by decide, by decide⟩ (fun hc => absurd hc (by decide)) (fun _ => ?_)
          refine w_aload_n rfl rfl rfl ?_
          refine w_getR rfl rfl sh_234 rfl rfl ?_
          refine w_getR rfl rfl sh_235 rfl rfl ?_
          refine w_iload_n rfl rfl rfl ?_
          refine w_aload_n rfl rfl rfl ?_
          refine w_getI (z := q115.1) rfl rfl sh_234 rfl hw9.2.2.1 rfl ?_
          refine w_iaS (f := sA V9 237) rfl sh_237 (by omega) (by omega) (by decide) rfl rfl ?_
          have hw10 : PW ((w_A V9 237 (w_u (sA V9 237) ((M.length : Int)) q115.1))) nn Y D q115.1 (M ++ (10, q115.1, 1) :: q115.2.1) := PW_tok hw9
          have f10 : fr (fun a => 234 ≤ a ∧ a ≤ 242) S ((w_A V9 237 (w_u (sA V9 237) ((M.length : Int)) q115.1))) := fr_A f9 (by omega)
          generalize (w_A V9 237 (w_u (sA V9 237) ((M.length : Int)) q115.1)) = V10 at hw10 f10 ⊢
          refine w_aload_n rfl rfl rfl ?_
          refine w_bipush rfl (by decide) rfl ?_
          by_cases k143 : Y q115.1 = 59
          · skip
            refine w_CV (as := [.int (iZ 59)]) (r := []) rfl rfl rfl rfl sh_234 (Nat.le_of_ble_eq_true rfl) (Nat.le_of_ble_eq_true rfl) (by omega) rfl (c_tk1 (c := 59) (x := 59) hw10 (by decide) (by decide) (by decide) (by decide) k143 (by omega)) ?_
            rintro _ V11 ⟨rfl, g11, hw11⟩
            show w_T _ _ 54 146 _ [.int (iZ 1)] _ _
            have f11 := fr_trans f10 g11
            have kl143 := Y_lt hw10 (by decide) k143
            refine w_zret rfl rfl (by decide) ?_
            refine SX_s (q := (q115.1 + 1, (10, q115.1, 1) :: q115.2.1, 1, D, false)) ?_ f11 (by have q := hw11; simpa [List.append_assoc] using q)
            rw [ps_2, if_neg c13, if_neg c34, if_neg c98, e115]
            show (if Y q115.1 = 59 then _ else none : SR) = _
            rw [if_pos k143, if_neg c34, if_neg c34]
          · skip
            refine w_CV (as := [.int (iZ 59)]) (r := []) rfl rfl rfl rfl sh_234 (Nat.le_of_ble_eq_true rfl) (Nat.le_of_ble_eq_true rfl) (by omega) rfl (c_tk0 (c := 59) (x := 59) hw10 (by decide) (by decide) (by decide) (by decide) k143 (by omega)) ?_
            rintro _ V12 ⟨rfl, g12, hw12⟩
            show w_T _ _ 54 146 _ [.int (iZ 0)] _ _
            have f12 := fr_trans f10 g12
            refine w_zret rfl rfl (by decide) ?_
            refine SX_n ?_ f12
            rw [ps_2, if_neg c13, if_neg c34, if_neg c98, e115]
            show (if Y q115.1 = 59 then _ else none : SR) = _
            rw [if_neg k143]
    · skip
      have hal := wk_ne hY (by decide) c34
      refine w_iconst rfl rfl ?_
      refine w_goto (pc2 := 42) rfl (by decide) ?_
      refine w_istore_n rfl (by decide) rfl ?_
      refine w_aload_n rfl rfl rfl ?_
      refine w_getR rfl rfl sh_234 rfl rfl ?_
      refine w_iload_n rfl rfl rfl ?_
      refine w_if_eq (pc2 := 56) (pc3 := 51) rfl (by decide) rfl ⟨by decide, by decide⟩ (fun hc => absurd hc (by decide)) (fun _ => ?_)
      refine w_bipush rfl (by decide) rfl ?_
      refine w_goto (pc2 := 58) rfl (by decide) ?_
      refine w_aload_n rfl rfl rfl ?_
      refine w_getI (z := a) rfl rfl sh_234 rfl hw.2.2.1 rfl ?_
      refine w_iconst rfl rfl ?_
      refine w_CV (as := [.int (iZ 11), .int (iZ a), .int (iZ 0)]) (r := []) rfl rfl rfl rfl sh_235 (Nat.le_of_ble_eq_true rfl) (Nat.le_of_ble_eq_true rfl) (by omega) rfl (c_tadd (M := M) hw.2.2.2.1 (by (try simp only [List.length_append, List.length_cons, List.length_nil, stF_len, stR_len]); omega) (by omega)) ?_
      rintro _ V13 ⟨rfl, g13, ht13⟩
      show w_T _ _ 54 66 _ [.int (iZ ((M.length : Int)))] _ _
      have hw13 := PW_tree hw g13 ht13
      have f13 := fr_trans f0 (fr_mono g13 (fun a h => by omega))
      refine w_istore_n rfl (by decide) rfl ?_
      refine w_aload_n rfl rfl rfl ?_
      refine w_dup rfl rfl rfl ?_
      refine w_getI (z := a) rfl rfl sh_234 rfl hw13.2.2.1 rfl ?_
      refine w_iload_n rfl rfl rfl ?_
      refine w_if_eq (pc2 := 80) (pc3 := 76) rfl (by decide) rfl ⟨by decide, by decide⟩ (fun hc => absurd hc (by decide)) (fun _ => ?_)
      refine w_iconst rfl rfl ?_
      refine w_goto (pc2 := 81) rfl (by decide) ?_
      refine w_iadd rfl rfl ?_
      refine w_putf rfl rfl sh_234 rfl rfl (by decide) rfl ?_
      have hw14 : PW ((w_v V13 234 4 (a + 1))) nn Y D (a + 1) (M ++ [(11, a, 0)]) := by
        have q := (PW_at hw13 (b := a + 1) (by omega) (by omega))
        simpa using q
      have f14 : fr (fun a => 234 ≤ a ∧ a ≤ 242) S ((w_v V13 234 4 (a + 1))) := (fr_v f13 (by omega))
      generalize (w_v V13 234 4 (a + 1)) = V14 at hw14 f14 ⊢
      refine w_aload_n rfl rfl rfl ?_
      refine w_getR rfl rfl sh_234 rfl rfl ?_
      refine w_aload_n rfl rfl rfl ?_
      refine w_getI (z := a + 1) rfl rfl sh_234 rfl hw14.2.2.1 rfl ?_
      refine w_lald (z := Y (a + 1)) rfl sh_239 (by omega) (by omega) (by decide) (hw14.1.2.2.2.1 _ (by omega) (by omega)).1 rfl ?_
      refine w_ldc2 (v := 59) rfl rfl rfl ?_
      refine w_l_eq (pc2 := 123) (pc3 := 101) rfl rfl (by decide) rfl (fun c98 => ?_) (fun c98 => ?_)
      · skip
        refine w_iload_n rfl rfl rfl ?_
        refine w_if_ne (pc2 := 140) (pc3 := 127) rfl (by decide) rfl ⟨by decide, by decide⟩ (fun _ => ?_) (fun hc => absurd hc (by decide))
        refine w_aload_n rfl rfl rfl ?_
        refine w_bipush rfl (by decide) rfl ?_
        by_cases k143 : Y (a + 1) = 59
        · skip
          refine w_CV (as := [.int (iZ 59)]) (r := []) rfl rfl rfl rfl sh_234 (Nat.le_of_ble_eq_true rfl) (Nat.le_of_ble_eq_true rfl) (by omega) rfl (c_tk1 (c := 59) (x := 59) hw14 (by decide) (by decide) (by decide) (by decide) k143 (by omega)) ?_
          rintro _ V15 ⟨rfl, g15, hw15⟩
          show w_T _ _ 54 146 _ [.int (iZ 1)] _ _
          have f15 := fr_trans f14 g15
          have kl143 := Y_lt hw14 (by decide) k143
          refine w_zret rfl rfl (by decide) ?_
          refine SX_s (q := (a + 1 + 1, [(11, a, 0)], 1, D, false)) ?_ f15 (by have q := hw15; simpa [List.append_assoc] using q)
          rw [ps_2, if_neg c13, if_pos c34, if_pos c98, if_pos c34]
        · skip
          refine w_CV (as := [.int (iZ 59)]) (r := []) rfl rfl rfl rfl sh_234 (Nat.le_of_ble_eq_true rfl) (Nat.le_of_ble_eq_true rfl) (by omega) rfl (c_tk0 (c := 59) (x := 59) hw14 (by decide) (by decide) (by decide) (by decide) k143 (by omega)) ?_
          rintro _ V16 ⟨rfl, g16, hw16⟩
          show w_T _ _ 54 146 _ [.int (iZ 0)] _ _
          have f16 := fr_trans f14 g16
          refine w_zret rfl rfl (by decide) ?_
          exact absurd c98 k143
      · skip
        refine w_aload_n rfl rfl rfl ?_
        refine w_getR rfl rfl sh_234 rfl rfl ?_
        refine w_getR rfl rfl sh_235 rfl rfl ?_
        refine w_iload_n rfl rfl rfl ?_
        refine w_iconst rfl rfl ?_
        refine w_iaS (f := sA V14 238) rfl sh_238 (by omega) (by omega) (by decide) rfl rfl ?_
        have hw17 : PW ((w_A V14 238 (w_u (sA V14 238) ((M.length : Int)) 1))) nn Y D (a + 1) (M ++ (11, a, 1) :: []) := PW_kid hw14
        have f17 : fr (fun a => 234 ≤ a ∧ a ≤ 242) S ((w_A V14 238 (w_u (sA V14 238) ((M.length : Int)) 1))) := fr_A f14 (by omega)
        generalize (w_A V14 238 (w_u (sA V14 238) ((M.length : Int)) 1)) = V17 at hw17 f17 ⊢
        refine w_aload_n rfl rfl rfl ?_
        refine w_iload_n rfl rfl rfl ?_
        refine w_iconst rfl rfl ?_
        refine w_iadd rfl rfl ?_
        rcases e115 : px Y (D) nn 2100 0 (dp + 1) (a + 1) [] with _ | q115
        · skip
          refine w_CV (as := [.int (iZ (dp + 1))]) (r := []) rfl rfl rfl rfl sh_234 (Nat.le_of_ble_eq_true rfl) (Nat.le_of_ble_eq_true rfl) (by omega) rfl (w_mono ((CE_all sc 2100).1 _ _ nn Y (D) (a + 1) (M ++ (11, a, 1) :: []) (dp + 1) hw17 hn0 (by omega) (by omega) (by omega) (by (try simp only [List.length_append, List.length_cons, List.length_nil, stF_len, stR_len]); omega) (by omega)) (fun v S2 h => h.1 e115)) ?_
          rintro _ V18 ⟨rfl, g18⟩
          show w_T _ _ 54 118 _ [.int (iZ 0)] _ _
          have f18 := fr_trans f17 g18
          refine w_if_ne (pc2 := 123) (pc3 := 121) rfl (by decide) rfl ⟨by decide, by decide⟩ (fun hc => absurd hc (by decide)) (fun _ => ?_)
          refine w_iconst rfl rfl ?_
          refine w_zret rfl rfl (by decide) ?_
          refine SX_n ?_ f18
          rw [ps_2, if_neg c13]
          first
            | (rw [if_pos c34, if_neg c98, e115]; rfl)
            | (rw [if_neg c34, if_neg c98, e115]; rfl)
        · skip
          refine w_CV (as := [.int (iZ (dp + 1))]) (r := []) rfl rfl rfl rfl sh_234 (Nat.le_of_ble_eq_true rfl) (Nat.le_of_ble_eq_true rfl) (by omega) rfl (w_mono ((CE_all sc 2100).1 _ _ nn Y (D) (a + 1) (M ++ (11, a, 1) :: []) (dp + 1) hw17 hn0 (by omega) (by omega) (by omega) (by (try simp only [List.length_append, List.length_cons, List.length_nil, stF_len, stR_len]); omega) (by omega)) (fun v S2 h => h.2 _ e115)) ?_
          rintro _ V19 ⟨rfl, g19, hw19⟩
          show w_T _ _ 54 118 _ [.int (iZ 1)] _ _
          have f19 := fr_trans f17 g19
          have r115 := px_r hY 2100 0 (dp + 1) (a + 1) [] q115 (by omega) (by omega) e115
          rw [if_neg (by decide)] at r115
          have r115b := r115.2.2.2.1.resolve_left (by decide)
          refine w_if_ne (pc2 := 123) (pc3 := 121) rfl (by decide) rfl ⟨by decide, by decide⟩ (fun _ => ?_) (fun hc => absurd hc (by decide))
          have hw20 : PW V19 nn Y D q115.1 (M ++ (11, a, 1) :: q115.2.1) := by
            have q := hw19
            simpa [List.append_assoc] using q
          have f20 : fr (fun a => 234 ≤ a ∧ a ≤ 242) S V19 := f19
          generalize V19 = V20 at hw20 f20 ⊢
          refine w_iload_n rfl rfl rfl ?_
          refine w_if_ne (pc2 := 140) (pc3 := 127) rfl (by decide) rfl ⟨by decide, by decide⟩ (fun _ => ?_) (fun hc => absurd hc (by decide))
          refine w_aload_n rfl rfl rfl ?_
          refine w_bipush rfl (by decide) rfl ?_
          by_cases k143 : Y q115.1 = 59
          · skip
            refine w_CV (as := [.int (iZ 59)]) (r := []) rfl rfl rfl rfl sh_234 (Nat.le_of_ble_eq_true rfl) (Nat.le_of_ble_eq_true rfl) (by omega) rfl (c_tk1 (c := 59) (x := 59) hw20 (by decide) (by decide) (by decide) (by decide) k143 (by omega)) ?_
            rintro _ V21 ⟨rfl, g21, hw21⟩
            show w_T _ _ 54 146 _ [.int (iZ 1)] _ _
            have f21 := fr_trans f20 g21
            have kl143 := Y_lt hw20 (by decide) k143
            refine w_zret rfl rfl (by decide) ?_
            refine SX_s (q := (q115.1 + 1, (11, a, 1) :: q115.2.1, 1, D, false)) ?_ f21 (by have q := hw21; simpa [List.append_assoc] using q)
            rw [ps_2, if_neg c13, if_pos c34, if_neg c98, e115]
            show (if Y q115.1 = 59 then _ else none : SR) = _
            rw [if_pos k143, if_pos c34, if_pos c34]
          · skip
            refine w_CV (as := [.int (iZ 59)]) (r := []) rfl rfl rfl rfl sh_234 (Nat.le_of_ble_eq_true rfl) (Nat.le_of_ble_eq_true rfl) (by omega) rfl (c_tk0 (c := 59) (x := 59) hw20 (by decide) (by decide) (by decide) (by decide) k143 (by omega)) ?_
            rintro _ V22 ⟨rfl, g22, hw22⟩
            show w_T _ _ 54 146 _ [.int (iZ 0)] _ _
            have f22 := fr_trans f20 g22
            refine w_zret rfl rfl (by decide) ?_
            refine SX_n ?_ f22
            rw [ps_2, if_neg c13, if_pos c34, if_neg c98, e115]
            show (if Y q115.1 = 59 then _ else none : SR) = _
            rw [if_neg k143]
  · skip
    refine w_aload_n rfl rfl rfl ?_
    refine w_iload_n rfl rfl rfl ?_
    refine w_iconst rfl rfl ?_
    refine w_iadd rfl rfl ?_
    rcases e20 : ps Y nn m 0 false false false (dp + 1) a D with _ | q20
    · skip
      refine w_CV (as := [.int (iZ (dp + 1))]) (r := []) rfl rfl rfl rfl sh_234 (Nat.le_of_ble_eq_true rfl) (Nat.le_of_ble_eq_true rfl) (by omega) rfl (w_mono (H _ _ nn Y D a M (dp + 1) hw hn0 (by omega) (by omega) (by omega) (by omega) hDa (by omega)) (fun v S2 h => h.1 e20)) ?_
      rintro _ V23 ⟨rfl, g23⟩
      show w_T _ _ 54 23 _ [.int (iZ 0)] _ _
      have f23 := fr_trans f0 g23
      refine w_zret rfl rfl (by decide) ?_
      refine SX_n ?_ f23
      rw [ps_2, if_pos c13, e20]
    · skip
      refine w_CV (as := [.int (iZ (dp + 1))]) (r := []) rfl rfl rfl rfl sh_234 (Nat.le_of_ble_eq_true rfl) (Nat.le_of_ble_eq_true rfl) (by omega) rfl (w_mono (H _ _ nn Y D a M (dp + 1) hw hn0 (by omega) (by omega) (by omega) (by omega) hDa (by omega)) (fun v S2 h => h.2 _ e20)) ?_
      rintro _ V24 ⟨rfl, g24, hw24⟩
      show w_T _ _ 54 23 _ [.int (iZ 1)] _ _
      have f24 := fr_trans f0 g24
      refine w_zret rfl rfl (by decide) ?_
      refine SX_s (q := q20) ?_ f24 hw24
      rw [ps_2, if_pos c13, e20]
