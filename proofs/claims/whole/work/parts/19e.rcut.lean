/-! The reference cuts an expression. -/
def ctv (Y : Int → Int64) (r : Option (List Int)) (b z : Int) : Int := match r with
  | none => -2
  | some L => pickN Y L b z
section CT
variable {Y : Int → Int64} {D : List Dcl} {mt : Int → Int} {f : Nat} {k b : Int}
theorem ct_cast (h : k < b) (h40 : Y k = 40) (hT : isT D (Y (k + 1)) = true) (hc : cok Y mt k = true) : cs Y D mt (f + 1) k b true = cs Y D mt f (mt k + 1) b true := by
  rw [cs_t h, if_pos ⟨h40, hT⟩, if_pos hc]
theorem ct_castn (h : k < b) (h40 : Y k = 40) (hT : isT D (Y (k + 1)) = true) (hc : cok Y mt k = false) : cs Y D mt (f + 1) k b true = none := by
  rw [cs_t h, if_pos ⟨h40, hT⟩, if_neg (by rw [hc]; decide)]
theorem ct_pre (h : k < b) (hp : prf (Y k) = true) : cs Y D mt (f + 1) k b true = cs Y D mt f (k + 1) b true := by
  rw [cs_t h, if_neg (fun z => (prf_nb hp).2.2.2.1 z.1), if_pos hp]
theorem ct_par (h : k < b) (h40 : Y k = 40) (hT : isT D (Y (k + 1)) = false) : cs Y D mt (f + 1) k b true = cs Y D mt f (mt k + 1) b false := by
  rw [cs_t h, if_neg (fun z => by rw [hT] at z; exact Bool.noConfusion z.2), if_neg (by rw [h40]; decide), if_pos h40]
theorem ct_wrd (h : k < b) (hp : prf (Y k) = false) (h40 : ¬ Y k = 40) (hw : wk (Y k) = 5 ∨ (wk (Y k) = 4 ∧ isT D (Y k) = false)) : cs Y D mt (f + 1) k b true = cs Y D mt f (k + 1) b false := by
  rw [cs_t h, if_neg (fun z => h40 z.1), if_neg (by rw [hp]; decide), if_neg h40, if_pos hw]
theorem ct_no (h : k < b) (hp : prf (Y k) = false) (h40 : ¬ Y k = 40) (hw : ¬ (wk (Y k) = 5 ∨ (wk (Y k) = 4 ∧ isT D (Y k) = false))) : cs Y D mt (f + 1) k b true = none := by
  rw [cs_t h, if_neg (fun z => h40 z.1), if_neg (by rw [hp]; decide), if_neg h40, if_neg hw]
theorem ct_br (h : k < b) (hb : Y k = 40 ∨ Y k = 91) : cs Y D mt (f + 1) k b false = cs Y D mt f (mt k + 1) b false := by
  rw [cs_f h, if_pos hb]
theorem ct_opn (h : k < b) (hb : ¬ (Y k = 40 ∨ Y k = 91)) (hs : stq (Y k) < 0) : cs Y D mt (f + 1) k b false = none := by
  rw [cs_f h, if_neg hb, if_pos hs]
theorem ct_op (h : k < b) (hb : ¬ (Y k = 40 ∨ Y k = 91)) (hs : 0 ≤ stq (Y k)) {be we : Int} : ctv Y (cs Y D mt (f + 1) k b false) be we = ctv Y (cs Y D mt f (k + 1) b true) (if stq (Y k) < we ∨ (stq (Y k) = we ∧ 0 < stq (Y k)) then k else be) (if stq (Y k) < we then stq (Y k) else we) := by
  rw [cs_f h, if_neg hb, if_neg (by omega)]
  cases cs Y D mt f (k + 1) b true with
  | none => rfl
  | some L => rfl
end CT
theorem ctv_n {Y : Int → Int64} {r : Option (List Int)} {b z : Int} (h : r = none) : ctv Y r b z = -2 := by rw [h]; rfl
theorem r_cut_c {sc : x_S} {d : Nat} {S : w_S} {nn : Int} {Y : Int → Int64} {mt : Int → Int} {E : List Ed} {N : List Nd} {T : List Tk} {D : List Dcl} {a b : Int} (hq : PQ S nn Y mt E N T) (a0 : 0 ≤ a) (ab : a ≤ b) (bn : b ≤ nn) (hra : Rch Y mt a b) (hT : ∀ p, a ≤ p → p < b → tyE nn Y mt E p = isT D (Y p)) (hd : 8 ≤ d) : ∀ n : Nat, (∀ (be : Int) (we : Int) (wn : Bool) (k : Int) (f : Nat) (lv : x_L) (l0 : lv 0 = some (.ref 249)) (l1 : lv 1 = some (.int (iZ a))) (l2 : lv 2 = some (.int (iZ b))) (l3 : lv 3 = some (.int (iZ be))) (l4 : lv 4 = some (.int (iZ we))) (l5 : lv 5 = some (.int (iZ (zB wn)))) (l6 : lv 6 = some (.int (iZ k))) (k0 : a ≤ k) (k1 : k ≤ b) (hf : b - k < f) (hr : Rch Y mt k b) (be0 : -1 ≤ be) (be1 : be < b ∨ be = -1) (we0 : 0 ≤ we) (we1 : we ≤ 9) (hres : ctv Y (cs Y D mt 200 a b true) (-1) 9 = ctv Y (cs Y D mt f k b wn) be we) (hm : (b - k).toNat < n), w_T sc d 161 12 lv [] S (fun v S2 => v = some (.int (iZ (ctv Y (cs Y D mt 200 a b true) (-1) 9))) ∧ S2 = S)) := by
  intro n
  induction n with
  | zero => exact fun be we wn k f lv l0 l1 l2 l3 l4 l5 l6 k0 k1 hf hr be0 be1 we0 we1 hres hm => absurd hm (Nat.not_lt_zero _)
  | succ n ih =>
    intro be we wn k f lv l0 l1 l2 l3 l4 l5 l6 k0 k1 hf hr be0 be1 we0 we1 hres hm
    have n0 := hq.1.1.2.1
    have n1 := hq.1.1.2.2.1
    have hg := hq.1.1.2.2.2.2.1
    have hM := hq.1.2.1
    have hlE := hq.2.1.2.1
    have hlN := hq.2.2.1.2.1
    have hlT := hq.2.2.2.2.1
    have hY0 := hq.1.1.2.2.2.2.2
    have hcm := hq.1.2.2.2
    obtain ⟨f2, rfl⟩ : ∃ f2, f = f2 + 1 := ⟨f - 1, by omega⟩
    refine w_iload rfl l6 rfl ?_
    refine w_iload_n rfl l2 rfl ?_
    refine w_ic_ge (pc2 := 261) (pc3 := 18) rfl (by decide) rfl ⟨by omega, by omega⟩ ⟨by omega, by omega⟩ (fun c15 => ?_) (fun c15 => ?_)
    · skip
      refine w_iload rfl l5 rfl ?_
      refine w_b_eq (pc2 := 271) (pc3 := 266) rfl (by decide) rfl (fun c263 => ?_) (fun c263 => ?_)
      · skip
        refine w_iload_n rfl l3 rfl ?_
        refine w_iret rfl rfl ?_
        refine q_i ?_
        rw [hres, c263]
        first
          | (rw [cs_e (by omega)]; rfl)
          | (rw [cs, if_pos (by omega), if_pos rfl]; rfl)
      · skip
        refine w_bipush rfl (by decide) rfl ?_
        refine w_goto (pc2 := 272) rfl (by decide) ?_
        refine w_iret rfl rfl ?_
        refine q_i ?_
        rw [hres, c263]
        first
          | (rw [cs_e (by omega)]; rfl)
          | (rw [cs, if_pos (by omega), if_pos rfl]; rfl)
    · skip
      have h40T : Y k = 40 → tyE nn Y mt E (k + 1) = isT D (Y (k + 1)) := fun z => by
        have q := hM k (by omega) (by omega) (opb (Or.inl z))
        have q2 := Rch_le (Rch_nx hr (by omega))
        rw [nx_b (Or.inl z)] at q2
        exact hT (k + 1) (by omega) (by omega)
      refine w_aload_n rfl l0 rfl ?_
      refine w_getR rfl rfl sh_249 rfl rfl ?_
      refine w_iload rfl l6 rfl ?_
      refine w_lald (z := Y k) rfl sh_285 (by omega) (by omega) (by decide) (hq.1.1.2.2.2.1 k (by omega) (by omega)) rfl ?_
      refine w_lstore rfl (by decide) rfl ?_
      refine w_lload rfl rfl rfl ?_
      refine w_ldc2 (v := 40) rfl rfl rfl ?_
      apply w_jn (A := w_T _ _ 161 50 _ [.int (iZ (zB (decide ((Y k) = 40 ∨ (Y k) = 91))))] _ _)
      · intro kT
        refine w_l_eq (pc2 := 45) (pc3 := 36) rfl rfl (by decide) rfl (fun q1 => ?_) (fun q1 => ?_)
        · skip
          refine w_iconst rfl rfl ?_
          refine w_goto (pc2 := 50) rfl (by decide) ?_
          exact w_j1 (p := (Y k) = 40 ∨ (Y k) = 91) (Or.inl q1) kT
        · skip
          refine w_lload rfl rfl rfl ?_
          refine w_ldc2 (v := 91) rfl rfl rfl ?_
          refine w_l_ne (pc2 := 49) (pc3 := 45) rfl rfl (by decide) rfl (fun q2 => ?_) (fun q2 => ?_)
          · skip
            refine w_iconst rfl rfl ?_
            exact w_j0 (p := (Y k) = 40 ∨ (Y k) = 91) (not_or.mpr ⟨q1, q2⟩) kT
          · skip
            refine w_iconst rfl rfl ?_
            refine w_goto (pc2 := 50) rfl (by decide) ?_
            exact w_j1 (p := (Y k) = 40 ∨ (Y k) = 91) (Or.inr q2) kT
      · show w_T _ _ 161 50 _ [.int (iZ (zB (decide ((Y k) = 40 ∨ (Y k) = 91))))] _ _
        refine w_istore rfl (by decide) rfl ?_
        refine w_lload rfl rfl rfl ?_
        refine w_CS (as := [.long (Y k)]) (r := []) rfl rfl rfl rfl (Nat.le_of_ble_eq_true rfl) (Nat.le_of_ble_eq_true rfl) (by omega) rfl (r_str (x := Y k) (by omega)) ?_
        rintro _ _ ⟨rfl, hS⟩
        rw [hS]
        show w_T _ _ 161 57 _ [.int (iZ (stq (Y k)))] _ _
        refine w_istore rfl (by decide) rfl ?_
        have hs4 := (stq_sto (Y k)).2.2.2.1
        have hs0 := (stq_sto (Y k)).2.2.2.2
        refine w_iload rfl l5 rfl ?_
        apply w_br (A := w_T _ _ 161 84 _ [] _ _) (B := w_T _ _ 161 96 _ [] _ _) (wn = true ∧ ((Y k) = 40 ∧ (tyE nn Y mt E (k + 1)) = true))
        · intro kT1 kT2
          refine w_b_eq (pc2 := 96) (pc3 := 64) rfl (by decide) rfl (fun q3 => ?_) (fun q3 => ?_)
          · skip
            exact kT2 (fun q => (Bool.eq_false_iff.mp q3) q.1)
          · skip
            refine w_lload rfl rfl rfl ?_
            refine w_ldc2 (v := 40) rfl rfl rfl ?_
            refine w_l_ne (pc2 := 96) (pc3 := 73) rfl rfl (by decide) rfl (fun q4 => ?_) (fun q4 => ?_)
            · skip
              exact kT2 (fun q => (fun q => q4 q.1) q.2)
            · skip
              refine w_aload_n rfl l0 rfl ?_
              refine w_iload rfl (congrArg x_k2 l6) rfl ?_
              refine w_iconst rfl rfl ?_
              refine w_iadd rfl rfl ?_
              refine w_CV (as := [.int (iZ (k + 1))]) (r := []) rfl rfl rfl rfl sh_249 (Nat.le_of_ble_eq_true rfl) (Nat.le_of_ble_eq_true rfl) (by omega) rfl (r_typ (p := k + 1) hq (by omega) (by omega) (by omega)) ?_
              rintro _ _ ⟨rfl, hS⟩
              rw [hS]
              show w_T _ _ 161 81 _ [.int (iZ (zB (tyE nn Y mt E (k + 1))))] _ _
              refine w_b_eq (pc2 := 96) (pc3 := 84) rfl (by decide) rfl (fun q5 => ?_) (fun q5 => ?_)
              · skip
                exact kT2 (fun q => (fun q => (Bool.eq_false_iff.mp q5) q.2) q.2)
              · skip
                exact kT1 ⟨q3, ⟨q4, q5⟩⟩
        · intro c61
          have hc40 := c61.2.1
          have hcty := c61.2.2
          have hcD : isT D (Y (k + 1)) = true := by rw [← h40T hc40]; exact hcty
          have hc2 : k + 2 ≤ mt k := by
            have q := hM k (by omega) (by omega) (opb (Or.inl hc40))
            by_cases z : mt k = k + 1
            · have q2 := (prb_o q.2.2.1).2.1
              rw [z, (isT_nb hcD).2] at q2
              exact Bool.noConfusion q2
            · have := q.1; omega
          refine w_aload_n rfl l0 rfl ?_
          refine w_iload rfl (congrArg x_k2 l6) rfl ?_
          refine w_CV (as := [.int (iZ k)]) (r := []) rfl rfl rfl rfl sh_249 (Nat.le_of_ble_eq_true rfl) (Nat.le_of_ble_eq_true rfl) (by omega) rfl (r_cst (k := k) hq (by omega) (by omega) hc40 hcty hc2 (by omega)) ?_
          rintro _ _ ⟨rfl, hS⟩
          rw [hS]
          show w_T _ _ 161 90 _ [.int (iZ (zB (cok Y mt k)))] _ _
          refine w_b_ne (pc2 := 235) (pc3 := 93) rfl (by decide) rfl (fun c90 => ?_) (fun c90 => ?_)
          · skip
            refine w_iload rfl rfl rfl ?_
            refine w_p_eq (pc2 := 252) (pc3 := 240) rfl (by decide) rfl (fun c237 => ?_) (fun c237 => ?_)
            · exact absurd (Or.inl hc40) c237
            · skip
              have hmk := hM k (by omega) (by omega) (opb c237)
              have hmk1 := hmk.1
              have hmk2 := hmk.2.1
              have hnx : Rch Y mt (mt k + 1) b := by
                have q := Rch_nx hr (by omega)
                rw [nx_b c237] at q
                exact q
              have hle := Rch_le hnx
              refine w_aload_n rfl l0 rfl ?_
              refine w_getR rfl rfl sh_249 rfl rfl ?_
              refine w_iload rfl (congrArg x_k2 l6) rfl ?_
              refine w_iald (z := mt k) rfl sh_287 (by omega) (by omega) (by decide) (hq.1.2.2.1 k (by omega) (by omega)) rfl ?_
              refine w_iconst rfl rfl ?_
              refine w_iadd rfl rfl ?_
              refine w_goto (pc2 := 256) rfl (by decide) ?_
              refine w_istore rfl (by decide) rfl ?_
              refine w_goto (pc2 := 12) rfl (by decide) ?_
              exact ih be we wn (mt k + 1) f2 _ (by exact l0) (by exact l1) (by exact l2) (by exact l3) (by exact l4) (by exact (congrArg x_k2 l5)) (by exact rfl) (by omega) (by omega) (by omega) (by exact hnx) (by omega) (by omega) (by omega) (by omega) (by rw [hres, c61.1, ct_cast (by omega) hc40 hcD c90]) (by omega)
          · skip
            refine w_bipush rfl (by decide) rfl ?_
            refine w_iret rfl rfl ?_
            refine q_i ?_
            rw [hres]
            exact (ctv_n (by rw [c61.1, ct_castn (by omega) hc40 hcD c90])).symm
        · intro c61
          refine w_iload rfl l5 rfl ?_
          apply w_br (A := w_T _ _ 161 128 _ [] _ _) (B := w_T _ _ 161 172 _ [] _ _) (wn = true ∧ ((¬ (Y k) = 45) ∧ ((¬ (Y k) = 42) ∧ (¬ (Y k) = 38))))
          · intro kT1 kT2
            refine w_b_eq (pc2 := 172) (pc3 := 101) rfl (by decide) rfl (fun q6 => ?_) (fun q6 => ?_)
            · skip
              exact kT2 (fun q => (Bool.eq_false_iff.mp q6) q.1)
            · skip
              refine w_lload rfl rfl rfl ?_
              refine w_ldc2 (v := 45) rfl rfl rfl ?_
              refine w_l_eq (pc2 := 172) (pc3 := 110) rfl rfl (by decide) rfl (fun q7 => ?_) (fun q7 => ?_)
              · skip
                exact kT2 (fun q => (fun q => (not_not_intro q7) q.1) q.2)
              · skip
                refine w_lload rfl rfl rfl ?_
                refine w_ldc2 (v := 42) rfl rfl rfl ?_
                refine w_l_eq (pc2 := 172) (pc3 := 119) rfl rfl (by decide) rfl (fun q8 => ?_) (fun q8 => ?_)
                · skip
                  exact kT2 (fun q => (fun q => (fun q => (not_not_intro q8) q.1) q.2) q.2)
                · skip
                  refine w_lload rfl rfl rfl ?_
                  refine w_ldc2 (v := 38) rfl rfl rfl ?_
                  refine w_l_eq (pc2 := 172) (pc3 := 128) rfl rfl (by decide) rfl (fun q9 => ?_) (fun q9 => ?_)
                  · skip
                    exact kT2 (fun q => (fun q => (fun q => (not_not_intro q9) q.2) q.2) q.2)
                  · skip
                    exact kT1 ⟨q6, ⟨q7, ⟨q8, q9⟩⟩⟩
          · intro c98
            refine w_lload rfl rfl rfl ?_
            refine w_ldc2 (v := 40) rfl rfl rfl ?_
            apply w_br (A := w_T _ _ 161 163 _ [] _ _) (B := w_T _ _ 161 166 _ [] _ _) ((¬ (Y k) = 40) ∧ ((dgt (wc (Y k) 0)) = false ∧ ((decide (wk (Y k) = 4)) = false ∨ (tyE nn Y mt E k) = true)))
            · intro kT1 kT2
              refine w_l_eq (pc2 := 166) (pc3 := 137) rfl rfl (by decide) rfl (fun q10 => ?_) (fun q10 => ?_)
              · skip
                exact kT2 (fun q => (not_not_intro q10) q.1)
              · skip
                refine w_lload rfl rfl rfl ?_
                refine w_CS (as := [.long (Y k)]) (r := []) rfl rfl rfl rfl (Nat.le_of_ble_eq_true rfl) (Nat.le_of_ble_eq_true rfl) (by omega) rfl (r_isn (x := Y k) (Int.le_of_lt (hg _ (by omega) (by omega)).1) (by omega)) ?_
                rintro _ _ ⟨rfl, hS⟩
                rw [hS]
                show w_T _ _ 161 142 _ [.int (iZ (zB (dgt (wc (Y k) 0))))] _ _
                refine w_b_ne (pc2 := 166) (pc3 := 145) rfl (by decide) rfl (fun q11 => ?_) (fun q11 => ?_)
                · skip
                  exact kT2 (fun q => (fun q => (fun q => Bool.noConfusion ((q11).symm.trans q)) q.1) q.2)
                · skip
                  refine w_aload_n rfl l0 rfl ?_
                  refine w_iload rfl (congrArg x_k2 l6) rfl ?_
                  refine w_CV (as := [.int (iZ k)]) (r := []) rfl rfl rfl rfl sh_249 (Nat.le_of_ble_eq_true rfl) (Nat.le_of_ble_eq_true rfl) (by omega) rfl (r_iswd (p := k) (nn := nn) (Y := Y) hq.1.1 (by omega) (by omega) (by omega)) ?_
                  rintro _ _ ⟨rfl, hS⟩
                  rw [hS]
                  show w_T _ _ 161 151 _ [.int (iZ (zB (decide (wk (Y k) = 4))))] _ _
                  refine w_b_eq (pc2 := 163) (pc3 := 154) rfl (by decide) rfl (fun q12 => ?_) (fun q12 => ?_)
                  · skip
                    exact kT1 ⟨q10, ⟨q11, (Or.inl q12)⟩⟩
                  · skip
                    refine w_aload_n rfl l0 rfl ?_
                    refine w_iload rfl (congrArg x_k2 l6) rfl ?_
                    refine w_CV (as := [.int (iZ k)]) (r := []) rfl rfl rfl rfl sh_249 (Nat.le_of_ble_eq_true rfl) (Nat.le_of_ble_eq_true rfl) (by omega) rfl (r_typ (p := k) hq (by omega) (by omega) (by omega)) ?_
                    rintro _ _ ⟨rfl, hS⟩
                    rw [hS]
                    show w_T _ _ 161 160 _ [.int (iZ (zB (tyE nn Y mt E k)))] _ _
                    refine w_b_eq (pc2 := 166) (pc3 := 163) rfl (by decide) rfl (fun q13 => ?_) (fun q13 => ?_)
                    · skip
                      exact kT2 (fun q => (fun q => (not_or.mpr ⟨(fun q => Bool.noConfusion ((q12).symm.trans q)), (Bool.eq_false_iff.mp q13)⟩) q.2) q.2)
                    · skip
                      exact kT1 ⟨q10, ⟨q11, (Or.inr q13)⟩⟩
            · intro c134
              refine w_bipush rfl (by decide) rfl ?_
              refine w_iret rfl rfl ?_
              refine q_i ?_
              rw [hres]
              refine (ctv_n ?_).symm
              rw [c98.1, ct_no (by omega) (by cases z9 : prf (Y k); rfl; (exfalso; rcases of_decide_eq_true z9 with z8 | z8 | z8; exact c98.2.1 z8; exact c98.2.2.1 z8; exact c98.2.2.2 z8)) c134.1 (by rintro (z | z); exact of_decide_eq_false ((gw_5 (hg k (by omega) (by omega))).symm.trans c134.2.1) z; (rcases c134.2.2 with y | y; exact of_decide_eq_false y z.1; (rw [hT k (by omega) (by omega), z.2] at y; exact Bool.noConfusion y)))]
            · intro c134
              have h134 : Y k = 40 ∨ wk (Y k) = 5 ∨ (wk (Y k) = 4 ∧ isT D (Y k) = false) := by
                by_cases z1 : Y k = 40
                · exact Or.inl z1
                · by_cases z2 : wk (Y k) = 5
                  · exact Or.inr (Or.inl z2)
                  · refine Or.inr (Or.inr ?_)
                    by_cases z3 : wk (Y k) = 4
                    · refine ⟨z3, ?_⟩
                      rw [← hT k (by omega) (by omega)]
                      cases z4 : tyE nn Y mt E k
                      · rfl
                      · exact absurd ⟨z1, (gw_5 (hg k (by omega) (by omega))).trans (decide_eq_false z2), Or.inr z4⟩ c134
                    · exact absurd ⟨z1, (gw_5 (hg k (by omega) (by omega))).trans (decide_eq_false z2), Or.inl (decide_eq_false z3)⟩ c134
              refine w_iconst rfl rfl ?_
              refine w_istore rfl (by decide) rfl ?_
              refine w_goto (pc2 := 235) rfl (by decide) ?_
              refine w_iload rfl rfl rfl ?_
              refine w_p_eq (pc2 := 252) (pc3 := 240) rfl (by decide) rfl (fun c237 => ?_) (fun c237 => ?_)
              · skip
                have hnx : Rch Y mt (k + 1) b := by
                  have q := Rch_nx hr (by omega)
                  rw [nx_p c237] at q
                  exact q
                refine w_iload rfl (congrArg x_k2 l6) rfl ?_
                refine w_iconst rfl rfl ?_
                refine w_iadd rfl rfl ?_
                refine w_istore rfl (by decide) rfl ?_
                refine w_goto (pc2 := 12) rfl (by decide) ?_
                exact ih be we false (k + 1) f2 _ (by exact l0) (by exact l1) (by exact l2) (by exact l3) (by exact (congrArg x_k2 l4)) (by exact rfl) (by exact rfl) (by omega) (by omega) (by omega) (by exact hnx) (by omega) (by omega) (by omega) (by omega) (by rw [hres, c98.1, ct_wrd (by omega) (by cases z9 : prf (Y k); rfl; (exfalso; rcases of_decide_eq_true z9 with z8 | z8 | z8; exact c98.2.1 z8; exact c98.2.2.1 z8; exact c98.2.2.2 z8)) (fun z => c237 (Or.inl z)) (by rcases h134 with z1 | z1; exact absurd (Or.inl z1) c237; exact z1)]) (by omega)
              · skip
                have hmk := hM k (by omega) (by omega) (opb c237)
                have hmk1 := hmk.1
                have hmk2 := hmk.2.1
                have hnx : Rch Y mt (mt k + 1) b := by
                  have q := Rch_nx hr (by omega)
                  rw [nx_b c237] at q
                  exact q
                have hle := Rch_le hnx
                refine w_aload_n rfl l0 rfl ?_
                refine w_getR rfl rfl sh_249 rfl rfl ?_
                refine w_iload rfl (congrArg x_k2 l6) rfl ?_
                refine w_iald (z := mt k) rfl sh_287 (by omega) (by omega) (by decide) (hq.1.2.2.1 k (by omega) (by omega)) rfl ?_
                refine w_iconst rfl rfl ?_
                refine w_iadd rfl rfl ?_
                refine w_goto (pc2 := 256) rfl (by decide) ?_
                refine w_istore rfl (by decide) rfl ?_
                refine w_goto (pc2 := 12) rfl (by decide) ?_
                exact ih be we false (mt k + 1) f2 _ (by exact l0) (by exact l1) (by exact l2) (by exact l3) (by exact (congrArg x_k2 l4)) (by exact rfl) (by exact rfl) (by omega) (by omega) (by omega) (by exact hnx) (by omega) (by omega) (by omega) (by omega) (by rcases c237 with z | z; (rw [hres, c98.1, ct_par (by omega) z (by rw [← h40T z]; cases z9 : tyE nn Y mt E (k + 1); rfl; exact absurd ⟨c98.1, z, z9⟩ c61)]); (exfalso; have h91 : wk (Y k) = 0 := (by rw [z]; decide); rcases h134 with z1 | z1 | z1; (rw [z] at z1; exact absurd z1 (by decide)); omega; omega)) (by omega)
          · intro c98
            refine w_iload rfl l5 rfl ?_
            refine w_b_ne (pc2 := 235) (pc3 := 177) rfl (by decide) rfl (fun c174 => ?_) (fun c174 => ?_)
            · skip
              have hpr : prf (Y k) = true := by
                by_cases z1 : Y k = 45
                · exact decide_eq_true (Or.inl z1)
                · by_cases z2 : Y k = 42
                  · exact decide_eq_true (Or.inr (Or.inl z2))
                  · by_cases z3 : Y k = 38
                    · exact decide_eq_true (Or.inr (Or.inr z3))
                    · exact absurd ⟨c174, z1, z2, z3⟩ c98
              refine w_iload rfl rfl rfl ?_
              refine w_p_eq (pc2 := 252) (pc3 := 240) rfl (by decide) rfl (fun c237 => ?_) (fun c237 => ?_)
              · skip
                have hnx : Rch Y mt (k + 1) b := by
                  have q := Rch_nx hr (by omega)
                  rw [nx_p c237] at q
                  exact q
                refine w_iload rfl (congrArg x_k2 l6) rfl ?_
                refine w_iconst rfl rfl ?_
                refine w_iadd rfl rfl ?_
                refine w_istore rfl (by decide) rfl ?_
                refine w_goto (pc2 := 12) rfl (by decide) ?_
                exact ih be we wn (k + 1) f2 _ (by exact l0) (by exact l1) (by exact l2) (by exact l3) (by exact l4) (by exact (congrArg x_k2 l5)) (by exact rfl) (by omega) (by omega) (by omega) (by exact hnx) (by omega) (by omega) (by omega) (by omega) (by rw [hres, c174, ct_pre (by omega) hpr]) (by omega)
              · exfalso; rcases c237 with z | z; exact (prf_nb hpr).2.2.2.1 z; exact (prf_nb hpr).2.2.2.2 z
            · skip
              refine w_iload rfl rfl rfl ?_
              refine w_p_ne (pc2 := 235) (pc3 := 182) rfl (by decide) rfl (fun c179 => ?_) (fun c179 => ?_)
              · skip
                refine w_iload rfl rfl rfl ?_
                refine w_p_eq (pc2 := 252) (pc3 := 240) rfl (by decide) rfl (fun c237 => ?_) (fun c237 => ?_)
                · exact absurd c179 c237
                · skip
                  have hmk := hM k (by omega) (by omega) (opb c237)
                  have hmk1 := hmk.1
                  have hmk2 := hmk.2.1
                  have hnx : Rch Y mt (mt k + 1) b := by
                    have q := Rch_nx hr (by omega)
                    rw [nx_b c237] at q
                    exact q
                  have hle := Rch_le hnx
                  refine w_aload_n rfl l0 rfl ?_
                  refine w_getR rfl rfl sh_249 rfl rfl ?_
                  refine w_iload rfl (congrArg x_k2 l6) rfl ?_
                  refine w_iald (z := mt k) rfl sh_287 (by omega) (by omega) (by decide) (hq.1.2.2.1 k (by omega) (by omega)) rfl ?_
                  refine w_iconst rfl rfl ?_
                  refine w_iadd rfl rfl ?_
                  refine w_goto (pc2 := 256) rfl (by decide) ?_
                  refine w_istore rfl (by decide) rfl ?_
                  refine w_goto (pc2 := 12) rfl (by decide) ?_
                  exact ih be we wn (mt k + 1) f2 _ (by exact l0) (by exact l1) (by exact l2) (by exact l3) (by exact l4) (by exact (congrArg x_k2 l5)) (by exact rfl) (by omega) (by omega) (by omega) (by exact hnx) (by omega) (by omega) (by omega) (by omega) (by rw [hres, c174, ct_br (by omega) c237]) (by omega)
              · skip
                refine w_iload rfl rfl rfl ?_
                refine w_if_ge (pc2 := 190) (pc3 := 187) rfl (by decide) rfl ⟨by omega, by omega⟩ (fun c184 => ?_) (fun c184 => ?_)
                · skip
                  refine w_iload rfl rfl rfl ?_
                  refine w_iload rfl l4 rfl ?_
                  apply w_jn (A := w_T _ _ 161 215 _ [.int (iZ (if (stq (Y k)) < we ∨ ((stq (Y k)) = we ∧ 0 < (stq (Y k))) then k else be))] _ _)
                  · intro kT
                    refine w_ic_lt (pc2 := 209) (pc3 := 197) rfl (by decide) rfl ⟨by omega, by omega⟩ ⟨by omega, by omega⟩ (fun q14 => ?_) (fun q14 => ?_)
                    · skip
                      refine w_iload rfl (congrArg x_k2 l6) rfl ?_
                      refine w_goto (pc2 := 215) rfl (by decide) ?_
                      exact w_ji1 (p := (stq (Y k)) < we ∨ ((stq (Y k)) = we ∧ 0 < (stq (Y k)))) (a := k) (b := be) (Or.inl q14) kT
                    · skip
                      refine w_iload rfl rfl rfl ?_
                      refine w_iload rfl l4 rfl ?_
                      refine w_ic_ne (pc2 := 214) (pc3 := 204) rfl (by decide) rfl ⟨by omega, by omega⟩ ⟨by omega, by omega⟩ (fun q15 => ?_) (fun q15 => ?_)
                      · skip
                        refine w_iload_n rfl l3 rfl ?_
                        exact w_ji0 (p := (stq (Y k)) < we ∨ ((stq (Y k)) = we ∧ 0 < (stq (Y k)))) (a := k) (b := be) (not_or.mpr ⟨(Int.not_lt.mpr q14), (fun q => q15 q.1)⟩) kT
                      · skip
                        refine w_iload rfl rfl rfl ?_
                        refine w_if_le (pc2 := 214) (pc3 := 209) rfl (by decide) rfl ⟨by omega, by omega⟩ (fun q16 => ?_) (fun q16 => ?_)
                        · skip
                          refine w_iload_n rfl l3 rfl ?_
                          exact w_ji0 (p := (stq (Y k)) < we ∨ ((stq (Y k)) = we ∧ 0 < (stq (Y k)))) (a := k) (b := be) (not_or.mpr ⟨(Int.not_lt.mpr q14), (fun q => (Int.not_lt.mpr q16) q.2)⟩) kT
                        · skip
                          refine w_iload rfl (congrArg x_k2 l6) rfl ?_
                          refine w_goto (pc2 := 215) rfl (by decide) ?_
                          exact w_ji1 (p := (stq (Y k)) < we ∨ ((stq (Y k)) = we ∧ 0 < (stq (Y k)))) (a := k) (b := be) (Or.inr ⟨q15, q16⟩) kT
                  · show w_T _ _ 161 215 _ [.int (iZ (if (stq (Y k)) < we ∨ ((stq (Y k)) = we ∧ 0 < (stq (Y k))) then k else be))] _ _
                    generalize hbe2 : (if (stq (Y k)) < we ∨ ((stq (Y k)) = we ∧ 0 < (stq (Y k))) then k else be) = be2
                    have hbe3 : (if stq (Y k) < we ∨ (stq (Y k) = we ∧ 0 < stq (Y k)) then k else be) = be2 := hbe2
                    have hber : -1 ≤ be2 ∧ be2 < b := by
                      rw [← hbe3]
                      split <;> omega
                    refine w_istore_n rfl (by decide) rfl ?_
                    refine w_iload rfl rfl rfl ?_
                    refine w_iload rfl l4 rfl ?_
                    apply w_jn (A := w_T _ _ 161 230 _ [.int (iZ (if we ≤ (stq (Y k)) then we else stq (Y k)))] _ _)
                    · intro kT
                      refine w_ic_ge (pc2 := 228) (pc3 := 223) rfl (by decide) rfl ⟨by omega, by omega⟩ ⟨by omega, by omega⟩ (fun q17 => ?_) (fun q17 => ?_)
                      · skip
                        refine w_iload rfl l4 rfl ?_
                        exact w_ji1 (p := we ≤ (stq (Y k))) (a := we) (b := stq (Y k)) q17 kT
                      · skip
                        refine w_iload rfl rfl rfl ?_
                        refine w_goto (pc2 := 230) rfl (by decide) ?_
                        exact w_ji0 (p := we ≤ (stq (Y k))) (a := we) (b := stq (Y k)) (Int.not_le.mpr q17) kT
                    · show w_T _ _ 161 230 _ [.int (iZ (if we ≤ (stq (Y k)) then we else stq (Y k)))] _ _
                      generalize hwe2 : (if we ≤ (stq (Y k)) then we else stq (Y k)) = we2
                      have hwe3 : (if stq (Y k) < we then stq (Y k) else we) = we2 := by
                        rw [← hwe2]
                        repeat' split
                        all_goals first | rfl | omega
                      have hwer : 0 ≤ we2 ∧ we2 ≤ 9 := by
                        rw [← hwe3]
                        split <;> omega
                      refine w_istore rfl (by decide) rfl ?_
                      refine w_iconst rfl rfl ?_
                      refine w_istore rfl (by decide) rfl ?_
                      refine w_iload rfl rfl rfl ?_
                      refine w_p_eq (pc2 := 252) (pc3 := 240) rfl (by decide) rfl (fun c237 => ?_) (fun c237 => ?_)
                      · skip
                        have hnx : Rch Y mt (k + 1) b := by
                          have q := Rch_nx hr (by omega)
                          rw [nx_p c237] at q
                          exact q
                        refine w_iload rfl (congrArg x_k2 l6) rfl ?_
                        refine w_iconst rfl rfl ?_
                        refine w_iadd rfl rfl ?_
                        refine w_istore rfl (by decide) rfl ?_
                        refine w_goto (pc2 := 12) rfl (by decide) ?_
                        exact ih be2 we2 true (k + 1) f2 _ (by exact l0) (by exact l1) (by exact (congrArg x_k2 l2)) (by exact rfl) (by exact rfl) (by exact rfl) (by exact rfl) (by omega) (by omega) (by omega) (by exact hnx) (by omega) (by omega) (by omega) (by omega) (by rw [hres, c174, ct_op (by omega) c237 (by omega), hbe3, hwe3]) (by omega)
                      · exact absurd c237 c179
                · skip
                  refine w_bipush rfl (by decide) rfl ?_
                  refine w_iret rfl rfl ?_
                  refine q_i ?_
                  rw [hres]
                  exact (ctv_n (by rw [c174, ct_opn (by omega) c179 c184])).symm
theorem r_cut {sc : x_S} {d : Nat} {S : w_S} {nn : Int} {Y : Int → Int64} {mt : Int → Int} {E : List Ed} {N : List Nd} {T : List Tk} {D : List Dcl} {a b : Int} (hq : PQ S nn Y mt E N T) (a0 : 0 ≤ a) (ab : a ≤ b) (bn : b ≤ nn) (hra : Rch Y mt a b) (hT : ∀ p, a ≤ p → p < b → tyE nn Y mt E p = isT D (Y p)) (hd : 8 ≤ d) : w_T sc d 161 0 (x_en 0 [.ref 249, .int (iZ a), .int (iZ b)]) [] S (fun v S2 => v = some (.int (iZ (ctv Y (cs Y D mt 200 a b true) (-1) 9))) ∧ S2 = S) := by
  have n0 := hq.1.1.2.1
  have n1 := hq.1.1.2.2.1
  have hg := hq.1.1.2.2.2.2.1
  have hM := hq.1.2.1
  have hlE := hq.2.1.2.1
  have hlN := hq.2.2.1.2.1
  have hlT := hq.2.2.2.2.1
  have hY0 := hq.1.1.2.2.2.2.2
  have hcm := hq.1.2.2.2
  refine w_iconst rfl rfl ?_
  refine w_istore_n rfl (by decide) rfl ?_
  refine w_bipush rfl (by decide) rfl ?_
  refine w_istore rfl (by decide) rfl ?_
  refine w_iconst rfl rfl ?_
  refine w_istore rfl (by decide) rfl ?_
  refine w_iload_n rfl rfl rfl ?_
  refine w_istore rfl (by decide) rfl ?_
  exact (r_cut_c hq a0 ab bn hra hT hd _) ((-1)) 9 true a 200 _ rfl rfl rfl rfl rfl rfl rfl (by omega) (by omega) (by omega) (by exact hra) (by omega) (by omega) (by omega) (by omega) (by rfl) (Nat.lt_succ_self _)
