/-! The reference reads a file. -/
theorem pun_wdl {c : Int} (h : pun c = true) : wdl c = false := by
  have h := of_decide_eq_true h
  apply decide_eq_false
  omega
theorem wnd_gt {A : Int → Int} {n p : Int} (h : p < n) (hw : wdl (A p) = true) : p < wnd A n p := by
  have e : wnd A n p = wnd A n (p + 1) := fi_next h (by show (!wdl (A p)) = false; rw [hw]; rfl)
  have := wnd_r (A := A) (n := n) (i := p + 1) (by omega)
  omega
theorem wnd_eq {A : Int → Int} {n p : Int} (h : p < n) (hw : wdl (A p) = false) : wnd A n p = p := fi_stop h (by show (!wdl (A p)) = true; rw [hw]; rfl)
theorem r_end_c {sc : x_S} {d : Nat} {S : w_S} {p : Int} (h0 : 0 ≤ sv S 249 5) (h1 : sv S 249 5 ≤ 161) (hg : ∀ j, 0 ≤ j → j < sv S 249 5 → 0 ≤ sA S 252 j ∧ sA S 252 j < 128) (p0 : 0 ≤ p) (p1 : p < sv S 249 5) (hd : 1 ≤ d) : ∀ n : Nat, (∀ (q : Int) (lv : x_L) (l0 : lv 0 = some (.ref 249)) (l1 : lv 1 = some (.int (iZ p))) (l2 : lv 2 = some (.int (iZ (sA S 252 p)))) (l3 : lv 3 = some (.int (iZ q))) (q0 : p ≤ q) (q1 : q ≤ sv S 249 5) (qe : wdl (sA S 252 p) = true → wnd (sA S 252) (sv S 249 5) p = wnd (sA S 252) (sv S 249 5) q) (qf : wdl (sA S 252 p) = false → q = p) (hm : 1 + (200 - q).toNat < n), w_T sc d 125 9 lv [] S (fun v S2 => v = some (.int (iZ (te (sA S 252) (sv S 249 5) p))) ∧ S2 = S)) ∧ (∀ (q : Int) (lv : x_L) (l0 : lv 0 = some (.ref 249)) (l1 : lv 1 = some (.int (iZ p))) (l2 : lv 2 = some (.int (iZ (sA S 252 p)))) (l3 : lv 3 = some (.int (iZ q))) (q0 : p ≤ q) (q1 : q ≤ sv S 249 5) (qq : q = wnd (sA S 252) (sv S 249 5) p) (hm : 0 < n), w_T sc d 125 42 lv [] S (fun v S2 => v = some (.int (iZ (te (sA S 252) (sv S 249 5) p))) ∧ S2 = S)) := by
  intro n
  induction n with
  | zero => exact ⟨fun q lv l0 l1 l2 l3 q0 q1 qe qf hm => absurd hm (Nat.not_lt_zero _), fun q lv l0 l1 l2 l3 q0 q1 qq hm => absurd hm (Nat.not_lt_zero _)⟩
  | succ n ih =>
    refine ⟨?_, ?_⟩
    · skip
      intro q lv l0 l1 l2 l3 q0 q1 qe qf hm
      have gp := hg p p0 p1
      refine w_iload_n rfl l2 rfl ?_
      refine w_CS (as := [.int (iZ (sA S 252 p))]) (r := []) rfl rfl rfl rfl (Nat.le_of_ble_eq_true rfl) (Nat.le_of_ble_eq_true rfl) (by omega) rfl (r_wdl (c := sA S 252 p) ⟨by omega, by omega⟩ (by omega)) ?_
      rintro _ _ ⟨rfl, hS⟩
      rw [hS]
      show w_T _ _ 125 13 _ [.int (iZ (zB (wdl (sA S 252 p))))] _ _
      refine w_b_eq (pc2 := 42) (pc3 := 16) rfl (by decide) rfl (fun c13 => ?_) (fun c13 => ?_)
      · skip
        exact ih.2 q _ l0 l1 l2 l3 (by omega) (by omega) (by first | (rw [qf c13, wnd_eq p1 c13]) | (rw [qe c13]; exact (fi_end c21).symm) | (rw [qe c13]; exact (fi_stop c21 (by show (!wdl (sA S 252 q)) = true; rw [c33]; rfl)).symm)) (by omega)
      · skip
        refine w_iload_n rfl l3 rfl ?_
        refine w_aload_n rfl l0 rfl ?_
        refine w_getI (z := sv S 249 5) rfl rfl sh_249 rfl rfl rfl ?_
        refine w_ic_ge (pc2 := 42) (pc3 := 24) rfl (by decide) rfl ⟨by omega, by omega⟩ ⟨by omega, by omega⟩ (fun c21 => ?_) (fun c21 => ?_)
        · skip
          exact ih.2 q _ l0 l1 l2 l3 (by omega) (by omega) (by first | (rw [qf c13, wnd_eq p1 c13]) | (rw [qe c13]; exact (fi_end c21).symm) | (rw [qe c13]; exact (fi_stop c21 (by show (!wdl (sA S 252 q)) = true; rw [c33]; rfl)).symm)) (by omega)
        · skip
          refine w_aload_n rfl l0 rfl ?_
          refine w_getR rfl rfl sh_249 rfl rfl ?_
          refine w_iload_n rfl l3 rfl ?_
          refine w_iald (z := sA S 252 q) rfl sh_252 (by omega) (by omega) (by decide) rfl rfl ?_
          have g1 := hg (q) (by omega) (by omega)
          refine w_CS (as := [.int (iZ (sA S 252 q))]) (r := []) rfl rfl rfl rfl (Nat.le_of_ble_eq_true rfl) (Nat.le_of_ble_eq_true rfl) (by omega) rfl (r_wdl (c := sA S 252 q) ⟨by omega, by omega⟩ (by omega)) ?_
          rintro _ _ ⟨rfl, hS⟩
          rw [hS]
          show w_T _ _ 125 33 _ [.int (iZ (zB (wdl (sA S 252 q))))] _ _
          refine w_b_eq (pc2 := 42) (pc3 := 36) rfl (by decide) rfl (fun c33 => ?_) (fun c33 => ?_)
          · skip
            exact ih.2 q _ l0 l1 l2 l3 (by omega) (by omega) (by first | (rw [qf c13, wnd_eq p1 c13]) | (rw [qe c13]; exact (fi_end c21).symm) | (rw [qe c13]; exact (fi_stop c21 (by show (!wdl (sA S 252 q)) = true; rw [c33]; rfl)).symm)) (by omega)
          · skip
            refine w_iinc rfl l3 (by decide) rfl ?_
            refine w_goto (pc2 := 9) rfl (by decide) ?_
            exact ih.1 (q + 1) _ (by exact l0) (by exact l1) (by exact (congrArg x_k2 l2)) (by exact rfl) (by omega) (by omega) (by intro z; rw [qe z]; exact fi_next c21 (by show (!wdl (sA S 252 q)) = false; rw [c33]; rfl)) (by intro z; rw [c13] at z; exact absurd z (by decide)) (by omega)
    · skip
      intro q lv l0 l1 l2 l3 q0 q1 qq hm
      have gp := hg p p0 p1
      refine w_iload_n rfl l3 rfl ?_
      refine w_iload_n rfl l1 rfl ?_
      apply w_br (A := w_T _ _ 125 54 _ [] _ _) (B := w_T _ _ 125 56 _ [] _ _) (p < q ∨ (pun (sA S 252 p)) = false)
      · intro kT1 kT2
        refine w_ic_gt (pc2 := 54) (pc3 := 47) rfl (by decide) rfl ⟨by omega, by omega⟩ ⟨by omega, by omega⟩ (fun q1 => ?_) (fun q1 => ?_)
        · skip
          exact kT1 (Or.inl q1)
        · skip
          refine w_iload_n rfl l2 rfl ?_
          refine w_CS (as := [.int (iZ (sA S 252 p))]) (r := []) rfl rfl rfl rfl (Nat.le_of_ble_eq_true rfl) (Nat.le_of_ble_eq_true rfl) (by omega) rfl (r_pun (c := sA S 252 p) (by omega) (by omega) (by omega)) ?_
          rintro _ _ ⟨rfl, hS⟩
          rw [hS]
          show w_T _ _ 125 51 _ [.int (iZ (zB (pun (sA S 252 p))))] _ _
          refine w_b_ne (pc2 := 56) (pc3 := 54) rfl (by decide) rfl (fun q2 => ?_) (fun q2 => ?_)
          · skip
            exact kT2 (not_or.mpr ⟨(Int.not_lt.mpr q1), (fun q => Bool.noConfusion ((q2).symm.trans q))⟩)
          · skip
            exact kT1 (Or.inr q2)
      · intro c44
        refine w_iload_n rfl l3 rfl ?_
        refine w_iret rfl rfl ?_
        exact q_i (by
          unfold te
          rw [if_neg (fun z => ?_), ← qq]
          rcases c44 with c | c
          · have e := wnd_eq p1 (pun_wdl z)
            omega
          · rw [c] at z
            exact absurd z (by decide))
      · intro c44
        refine w_iload_n rfl l2 rfl ?_
        refine w_bipush rfl (by decide) rfl ?_
        apply w_jn (A := w_T _ _ 125 95 _ [.int (iZ (zB (decide ((sA S 252 p = 35 ∧ (p + 1 < sv S 249 5 ∧ (sA S 252 (p + 1)) = sA S 252 p)) ∨ ((¬ sA S 252 p = 35) ∧ (sA S 252 p = 61 ∧ (p + 1 < sv S 249 5 ∧ (sA S 252 (p + 1)) = sA S 252 p)))))))] _ _)
        · intro kT
          refine w_ic_eq (pc2 := 68) (pc3 := 62) rfl (by decide) rfl ⟨by omega, by omega⟩ ⟨by decide, by decide⟩ (fun q3 => ?_) (fun q3 => ?_)
          · skip
            refine w_iload_n rfl l1 rfl ?_
            refine w_iconst rfl rfl ?_
            refine w_iadd rfl rfl ?_
            refine w_aload_n rfl l0 rfl ?_
            refine w_getI (z := sv S 249 5) rfl rfl sh_249 rfl rfl rfl ?_
            refine w_ic_ge (pc2 := 94) (pc3 := 78) rfl (by decide) rfl ⟨by omega, by omega⟩ ⟨by omega, by omega⟩ (fun q4 => ?_) (fun q4 => ?_)
            · skip
              refine w_iconst rfl rfl ?_
              exact w_j0 (p := (sA S 252 p = 35 ∧ (p + 1 < sv S 249 5 ∧ (sA S 252 (p + 1)) = sA S 252 p)) ∨ ((¬ sA S 252 p = 35) ∧ (sA S 252 p = 61 ∧ (p + 1 < sv S 249 5 ∧ (sA S 252 (p + 1)) = sA S 252 p)))) (not_or.mpr ⟨fun q => (fun q => (Int.not_lt.mpr q4) q.1) q.2, fun q => (not_not_intro q3) q.1⟩) kT
            · skip
              refine w_aload_n rfl l0 rfl ?_
              refine w_getR rfl rfl sh_249 rfl rfl ?_
              refine w_iload_n rfl l1 rfl ?_
              refine w_iconst rfl rfl ?_
              refine w_iadd rfl rfl ?_
              refine w_iald (z := sA S 252 (p + 1)) rfl sh_252 (by omega) (by omega) (by decide) rfl rfl ?_
              have g4 := hg (p + 1) (by omega) (by omega)
              refine w_iload_n rfl l2 rfl ?_
              refine w_ic_ne (pc2 := 94) (pc3 := 90) rfl (by decide) rfl ⟨by omega, by omega⟩ ⟨by omega, by omega⟩ (fun q5 => ?_) (fun q5 => ?_)
              · skip
                refine w_iconst rfl rfl ?_
                exact w_j0 (p := (sA S 252 p = 35 ∧ (p + 1 < sv S 249 5 ∧ (sA S 252 (p + 1)) = sA S 252 p)) ∨ ((¬ sA S 252 p = 35) ∧ (sA S 252 p = 61 ∧ (p + 1 < sv S 249 5 ∧ (sA S 252 (p + 1)) = sA S 252 p)))) (not_or.mpr ⟨fun q => (fun q => q5 q.2) q.2, fun q => (not_not_intro q3) q.1⟩) kT
              · skip
                refine w_iconst rfl rfl ?_
                refine w_goto (pc2 := 95) rfl (by decide) ?_
                exact w_j1 (p := (sA S 252 p = 35 ∧ (p + 1 < sv S 249 5 ∧ (sA S 252 (p + 1)) = sA S 252 p)) ∨ ((¬ sA S 252 p = 35) ∧ (sA S 252 p = 61 ∧ (p + 1 < sv S 249 5 ∧ (sA S 252 (p + 1)) = sA S 252 p)))) (Or.inl ⟨q3, ⟨q4, q5⟩⟩) kT
          · skip
            refine w_iload_n rfl l2 rfl ?_
            refine w_bipush rfl (by decide) rfl ?_
            refine w_ic_ne (pc2 := 94) (pc3 := 68) rfl (by decide) rfl ⟨by omega, by omega⟩ ⟨by decide, by decide⟩ (fun q6 => ?_) (fun q6 => ?_)
            · skip
              refine w_iconst rfl rfl ?_
              exact w_j0 (p := (sA S 252 p = 35 ∧ (p + 1 < sv S 249 5 ∧ (sA S 252 (p + 1)) = sA S 252 p)) ∨ ((¬ sA S 252 p = 35) ∧ (sA S 252 p = 61 ∧ (p + 1 < sv S 249 5 ∧ (sA S 252 (p + 1)) = sA S 252 p)))) (not_or.mpr ⟨fun q => q3 q.1, fun q => (fun q => q6 q.1) q.2⟩) kT
            · skip
              refine w_iload_n rfl l1 rfl ?_
              refine w_iconst rfl rfl ?_
              refine w_iadd rfl rfl ?_
              refine w_aload_n rfl l0 rfl ?_
              refine w_getI (z := sv S 249 5) rfl rfl sh_249 rfl rfl rfl ?_
              refine w_ic_ge (pc2 := 94) (pc3 := 78) rfl (by decide) rfl ⟨by omega, by omega⟩ ⟨by omega, by omega⟩ (fun q7 => ?_) (fun q7 => ?_)
              · skip
                refine w_iconst rfl rfl ?_
                exact w_j0 (p := (sA S 252 p = 35 ∧ (p + 1 < sv S 249 5 ∧ (sA S 252 (p + 1)) = sA S 252 p)) ∨ ((¬ sA S 252 p = 35) ∧ (sA S 252 p = 61 ∧ (p + 1 < sv S 249 5 ∧ (sA S 252 (p + 1)) = sA S 252 p)))) (not_or.mpr ⟨fun q => q3 q.1, fun q => (fun q => (fun q => (Int.not_lt.mpr q7) q.1) q.2) q.2⟩) kT
              · skip
                refine w_aload_n rfl l0 rfl ?_
                refine w_getR rfl rfl sh_249 rfl rfl ?_
                refine w_iload_n rfl l1 rfl ?_
                refine w_iconst rfl rfl ?_
                refine w_iadd rfl rfl ?_
                refine w_iald (z := sA S 252 (p + 1)) rfl sh_252 (by omega) (by omega) (by decide) rfl rfl ?_
                have g5 := hg (p + 1) (by omega) (by omega)
                refine w_iload_n rfl l2 rfl ?_
                refine w_ic_ne (pc2 := 94) (pc3 := 90) rfl (by decide) rfl ⟨by omega, by omega⟩ ⟨by omega, by omega⟩ (fun q8 => ?_) (fun q8 => ?_)
                · skip
                  refine w_iconst rfl rfl ?_
                  exact w_j0 (p := (sA S 252 p = 35 ∧ (p + 1 < sv S 249 5 ∧ (sA S 252 (p + 1)) = sA S 252 p)) ∨ ((¬ sA S 252 p = 35) ∧ (sA S 252 p = 61 ∧ (p + 1 < sv S 249 5 ∧ (sA S 252 (p + 1)) = sA S 252 p)))) (not_or.mpr ⟨fun q => q3 q.1, fun q => (fun q => (fun q => q8 q.2) q.2) q.2⟩) kT
                · skip
                  refine w_iconst rfl rfl ?_
                  refine w_goto (pc2 := 95) rfl (by decide) ?_
                  exact w_j1 (p := (sA S 252 p = 35 ∧ (p + 1 < sv S 249 5 ∧ (sA S 252 (p + 1)) = sA S 252 p)) ∨ ((¬ sA S 252 p = 35) ∧ (sA S 252 p = 61 ∧ (p + 1 < sv S 249 5 ∧ (sA S 252 (p + 1)) = sA S 252 p)))) (Or.inr ⟨q3, ⟨q6, ⟨q7, q8⟩⟩⟩) kT
        · show w_T _ _ 125 95 _ [.int (iZ (zB (decide ((sA S 252 p = 35 ∧ (p + 1 < sv S 249 5 ∧ (sA S 252 (p + 1)) = sA S 252 p)) ∨ ((¬ sA S 252 p = 35) ∧ (sA S 252 p = 61 ∧ (p + 1 < sv S 249 5 ∧ (sA S 252 (p + 1)) = sA S 252 p)))))))] _ _
          refine w_istore rfl (by decide) rfl ?_
          refine w_iload rfl rfl rfl ?_
          apply w_jn (A := w_T _ _ 125 111 _ [.int (iZ (if ¬ ((sA S 252 p = 35 ∧ (p + 1 < sv S 249 5 ∧ (sA S 252 (p + 1)) = sA S 252 p)) ∨ ((¬ sA S 252 p = 35) ∧ (sA S 252 p = 61 ∧ (p + 1 < sv S 249 5 ∧ (sA S 252 (p + 1)) = sA S 252 p)))) then p + 1 else p + 2))] _ _)
          · intro kT
            refine w_p_eq (pc2 := 108) (pc3 := 102) rfl (by decide) rfl (fun q9 => ?_) (fun q9 => ?_)
            · skip
              refine w_iload_n rfl l1 rfl ?_
              refine w_iconst rfl rfl ?_
              refine w_iadd rfl rfl ?_
              exact w_ji1 (p := ¬ ((sA S 252 p = 35 ∧ (p + 1 < sv S 249 5 ∧ (sA S 252 (p + 1)) = sA S 252 p)) ∨ ((¬ sA S 252 p = 35) ∧ (sA S 252 p = 61 ∧ (p + 1 < sv S 249 5 ∧ (sA S 252 (p + 1)) = sA S 252 p))))) (a := p + 1) (b := p + 2) q9 kT
            · skip
              refine w_iload_n rfl l1 rfl ?_
              refine w_iconst rfl rfl ?_
              refine w_iadd rfl rfl ?_
              refine w_goto (pc2 := 111) rfl (by decide) ?_
              exact w_ji0 (p := ¬ ((sA S 252 p = 35 ∧ (p + 1 < sv S 249 5 ∧ (sA S 252 (p + 1)) = sA S 252 p)) ∨ ((¬ sA S 252 p = 35) ∧ (sA S 252 p = 61 ∧ (p + 1 < sv S 249 5 ∧ (sA S 252 (p + 1)) = sA S 252 p))))) (a := p + 1) (b := p + 2) (not_not_intro q9) kT
          · show w_T _ _ 125 111 _ [.int (iZ (if ¬ ((sA S 252 p = 35 ∧ (p + 1 < sv S 249 5 ∧ (sA S 252 (p + 1)) = sA S 252 p)) ∨ ((¬ sA S 252 p = 35) ∧ (sA S 252 p = 61 ∧ (p + 1 < sv S 249 5 ∧ (sA S 252 (p + 1)) = sA S 252 p)))) then p + 1 else p + 2))] _ _
            refine w_iret rfl rfl ?_
            have c2 : pun (sA S 252 p) = true := by simpa using fun z => c44 (Or.inr z)
            exact q_i (by
              unfold te
              rw [if_pos c2]
              by_cases k : p + 1 < sv S 249 5 ∧ sA S 252 (p + 1) = sA S 252 p ∧ (sA S 252 p = 35 ∨ sA S 252 p = 61)
              · rw [if_pos k, if_neg (by omega)]
              · rw [if_neg k, if_pos (by omega)])
theorem r_end {sc : x_S} {d : Nat} {S : w_S} {p : Int} (h0 : 0 ≤ sv S 249 5) (h1 : sv S 249 5 ≤ 161) (hg : ∀ j, 0 ≤ j → j < sv S 249 5 → 0 ≤ sA S 252 j ∧ sA S 252 j < 128) (p0 : 0 ≤ p) (p1 : p < sv S 249 5) (hd : 1 ≤ d) : w_T sc d 125 0 (x_en 0 [.ref 249, .int (iZ p)]) [] S (fun v S2 => v = some (.int (iZ (te (sA S 252) (sv S 249 5) p))) ∧ S2 = S) := by
  refine w_aload_n rfl rfl rfl ?_
  refine w_getR rfl rfl sh_249 rfl rfl ?_
  refine w_iload_n rfl rfl rfl ?_
  refine w_iald (z := sA S 252 p) rfl sh_252 (by omega) (by omega) (by decide) rfl rfl ?_
  have g6 := hg (p) (by omega) (by omega)
  refine w_istore_n rfl (by decide) rfl ?_
  refine w_iload_n rfl rfl rfl ?_
  refine w_istore_n rfl (by decide) rfl ?_
  exact (r_end_c h0 h1 hg p0 p1 hd _).1 p _ rfl rfl rfl rfl (by omega) (by omega) (by exact fun _ => rfl) (by exact fun _ => rfl) (Nat.lt_succ_self _)
theorem r_bl_c {sc : x_S} {d : Nat} {S : w_S} {p : Int} (h0 : 0 ≤ sv S 249 5) (h1 : sv S 249 5 ≤ 161) (hg : ∀ j, 0 ≤ j → j < sv S 249 5 → 0 ≤ sA S 252 j ∧ sA S 252 j < 128) (p0 : 0 ≤ p) (p1 : p < sv S 249 5) (hp : ¬ sA S 252 p = 10) (hd : 0 ≤ d) : ∀ n : Nat, (∀ (i : Int) (lv : x_L) (l0 : lv 0 = some (.ref 249)) (l3 : lv 3 = some (.int (iZ i))) (i0 : p + 2 ≤ i) (i1 : i ≤ 200) (ie : bl (sA S 252) (sv S 249 5) p = nlf (sA S 252) (sv S 249 5) i) (hm : (200 - i).toNat < n), w_T sc d 126 73 lv [] S (fun v S2 => v = some (.int (iZ (bl (sA S 252) (sv S 249 5) p))) ∧ S2 = S)) ∧ (∀ (i : Int) (lv : x_L) (l0 : lv 0 = some (.ref 249)) (l3 : lv 3 = some (.int (iZ i))) (i0 : p + 2 ≤ i) (i1 : i ≤ 200) (ie : bl (sA S 252) (sv S 249 5) p = if lcf (sA S 252) (sv S 249 5) i + 1 < sv S 249 5 then lcf (sA S 252) (sv S 249 5) i + 2 else -1) (hm : (200 - i).toNat < n), w_T sc d 126 100 lv [] S (fun v S2 => v = some (.int (iZ (bl (sA S 252) (sv S 249 5) p))) ∧ S2 = S)) := by
  intro n
  induction n with
  | zero => exact ⟨fun i lv l0 l3 i0 i1 ie hm => absurd hm (Nat.not_lt_zero _), fun i lv l0 l3 i0 i1 ie hm => absurd hm (Nat.not_lt_zero _)⟩
  | succ n ih =>
    refine ⟨?_, ?_⟩
    · skip
      intro i lv l0 l3 i0 i1 ie hm
      refine w_iload_n rfl l3 rfl ?_
      refine w_aload_n rfl l0 rfl ?_
      refine w_getI (z := sv S 249 5) rfl rfl sh_249 rfl rfl rfl ?_
      refine w_ic_ge (pc2 := 98) (pc3 := 81) rfl (by decide) rfl ⟨by omega, by omega⟩ ⟨by omega, by omega⟩ (fun c78 => ?_) (fun c78 => ?_)
      · skip
        refine w_iload_n rfl l3 rfl ?_
        refine w_iret rfl rfl ?_
        exact q_i (by
          rw [ie]
          by_cases e : i < sv S 249 5
          · exact (fi_stop e (by simp only [decide_eq_true_eq]; omega)).symm
          · exact (fi_end (by omega)).symm)
      · skip
        refine w_aload_n rfl l0 rfl ?_
        refine w_getR rfl rfl sh_249 rfl rfl ?_
        refine w_iload_n rfl l3 rfl ?_
        refine w_iald (z := sA S 252 i) rfl sh_252 (by omega) (by omega) (by decide) rfl rfl ?_
        have g1 := hg (i) (by omega) (by omega)
        refine w_bipush rfl (by decide) rfl ?_
        refine w_ic_eq (pc2 := 98) (pc3 := 92) rfl (by decide) rfl ⟨by omega, by omega⟩ ⟨by decide, by decide⟩ (fun c89 => ?_) (fun c89 => ?_)
        · skip
          refine w_iload_n rfl l3 rfl ?_
          refine w_iret rfl rfl ?_
          exact q_i (by
            rw [ie]
            by_cases e : i < sv S 249 5
            · exact (fi_stop e (by simp only [decide_eq_true_eq]; omega)).symm
            · exact (fi_end (by omega)).symm)
        · skip
          refine w_iinc rfl l3 (by decide) rfl ?_
          refine w_goto (pc2 := 73) rfl (by decide) ?_
          exact ih.1 (i + 1) _ l0 rfl (by omega) (by omega) (by rw [ie]; exact fi_next (by omega) (by simp only [decide_eq_false_iff_not]; omega)) (by omega)
    · skip
      intro i lv l0 l3 i0 i1 ie hm
      refine w_iload_n rfl l3 rfl ?_
      refine w_iconst rfl rfl ?_
      refine w_iadd rfl rfl ?_
      refine w_aload_n rfl l0 rfl ?_
      refine w_getI (z := sv S 249 5) rfl rfl sh_249 rfl rfl rfl ?_
      refine w_ic_ge (pc2 := 140) (pc3 := 110) rfl (by decide) rfl ⟨by omega, by omega⟩ ⟨by omega, by omega⟩ (fun c107 => ?_) (fun c107 => ?_)
      · skip
        refine w_iload_n rfl l3 rfl ?_
        refine w_iconst rfl rfl ?_
        refine w_iadd rfl rfl ?_
        refine w_aload_n rfl l0 rfl ?_
        refine w_getI (z := sv S 249 5) rfl rfl sh_249 rfl rfl rfl ?_
        refine w_ic_ge (pc2 := 156) (pc3 := 150) rfl (by decide) rfl ⟨by omega, by omega⟩ ⟨by omega, by omega⟩ (fun c147 => ?_) (fun c147 => ?_)
        · skip
          refine w_iconst rfl rfl ?_
          refine w_iret rfl rfl ?_
          refine q_i ?_
          have e : lcf (sA S 252) (sv S 249 5) i = i := by
            by_cases e : i < sv S 249 5 - 1
            · exact fi_stop e (by simp only [decide_eq_true_eq]; omega)
            · exact fi_end (by omega)
          rw [ie, e]
          first | (exfalso; omega) | rw [if_pos (by omega)] | rw [if_neg (by omega)]
        · skip
          refine w_iload_n rfl l3 rfl ?_
          refine w_iconst rfl rfl ?_
          refine w_iadd rfl rfl ?_
          refine w_goto (pc2 := 157) rfl (by decide) ?_
          refine w_iret rfl rfl ?_
          refine q_i ?_
          have e : lcf (sA S 252) (sv S 249 5) i = i := by
            by_cases e : i < sv S 249 5 - 1
            · exact fi_stop e (by simp only [decide_eq_true_eq]; omega)
            · exact fi_end (by omega)
          rw [ie, e]
          first | (exfalso; omega) | rw [if_pos (by omega)] | rw [if_neg (by omega)]
      · skip
        refine w_aload_n rfl l0 rfl ?_
        refine w_getR rfl rfl sh_249 rfl rfl ?_
        refine w_iload_n rfl l3 rfl ?_
        refine w_iald (z := sA S 252 i) rfl sh_252 (by omega) (by omega) (by decide) rfl rfl ?_
        have g2 := hg (i) (by omega) (by omega)
        refine w_bipush rfl (by decide) rfl ?_
        refine w_ic_ne (pc2 := 134) (pc3 := 121) rfl (by decide) rfl ⟨by omega, by omega⟩ ⟨by decide, by decide⟩ (fun c118 => ?_) (fun c118 => ?_)
        · skip
          refine w_iinc rfl l3 (by decide) rfl ?_
          refine w_goto (pc2 := 100) rfl (by decide) ?_
          exact ih.2 (i + 1) _ l0 rfl (by omega) (by omega) (by rw [ie, show lcf (sA S 252) (sv S 249 5) i = lcf (sA S 252) (sv S 249 5) (i + 1) from fi_next (by omega) (by simp only [decide_eq_false_iff_not]; omega)]) (by omega)
        · skip
          refine w_aload_n rfl l0 rfl ?_
          refine w_getR rfl rfl sh_249 rfl rfl ?_
          refine w_iload_n rfl l3 rfl ?_
          refine w_iconst rfl rfl ?_
          refine w_iadd rfl rfl ?_
          refine w_iald (z := sA S 252 (i + 1)) rfl sh_252 (by omega) (by omega) (by decide) rfl rfl ?_
          have g3 := hg (i + 1) (by omega) (by omega)
          refine w_bipush rfl (by decide) rfl ?_
          refine w_ic_eq (pc2 := 140) (pc3 := 134) rfl (by decide) rfl ⟨by omega, by omega⟩ ⟨by decide, by decide⟩ (fun c131 => ?_) (fun c131 => ?_)
          · skip
            refine w_iload_n rfl l3 rfl ?_
            refine w_iconst rfl rfl ?_
            refine w_iadd rfl rfl ?_
            refine w_aload_n rfl l0 rfl ?_
            refine w_getI (z := sv S 249 5) rfl rfl sh_249 rfl rfl rfl ?_
            refine w_ic_ge (pc2 := 156) (pc3 := 150) rfl (by decide) rfl ⟨by omega, by omega⟩ ⟨by omega, by omega⟩ (fun c147 => ?_) (fun c147 => ?_)
            · skip
              refine w_iconst rfl rfl ?_
              refine w_iret rfl rfl ?_
              refine q_i ?_
              have e : lcf (sA S 252) (sv S 249 5) i = i := by
                by_cases e : i < sv S 249 5 - 1
                · exact fi_stop e (by simp only [decide_eq_true_eq]; omega)
                · exact fi_end (by omega)
              rw [ie, e]
              first | (exfalso; omega) | rw [if_pos (by omega)] | rw [if_neg (by omega)]
            · skip
              refine w_iload_n rfl l3 rfl ?_
              refine w_iconst rfl rfl ?_
              refine w_iadd rfl rfl ?_
              refine w_goto (pc2 := 157) rfl (by decide) ?_
              refine w_iret rfl rfl ?_
              refine q_i ?_
              have e : lcf (sA S 252) (sv S 249 5) i = i := by
                by_cases e : i < sv S 249 5 - 1
                · exact fi_stop e (by simp only [decide_eq_true_eq]; omega)
                · exact fi_end (by omega)
              rw [ie, e]
              first | (exfalso; omega) | rw [if_pos (by omega)] | rw [if_neg (by omega)]
          · skip
            refine w_iinc rfl l3 (by decide) rfl ?_
            refine w_goto (pc2 := 100) rfl (by decide) ?_
            exact ih.2 (i + 1) _ l0 rfl (by omega) (by omega) (by rw [ie, show lcf (sA S 252) (sv S 249 5) i = lcf (sA S 252) (sv S 249 5) (i + 1) from fi_next (by omega) (by simp only [decide_eq_false_iff_not]; omega)]) (by omega)
theorem r_bl {sc : x_S} {d : Nat} {S : w_S} {p : Int} (h0 : 0 ≤ sv S 249 5) (h1 : sv S 249 5 ≤ 161) (hg : ∀ j, 0 ≤ j → j < sv S 249 5 → 0 ≤ sA S 252 j ∧ sA S 252 j < 128) (p0 : 0 ≤ p) (p1 : p < sv S 249 5) (hp : ¬ sA S 252 p = 10) (hd : 0 ≤ d) : w_T sc d 126 0 (x_en 0 [.ref 249, .int (iZ p)]) [] S (fun v S2 => v = some (.int (iZ (bl (sA S 252) (sv S 249 5) p))) ∧ S2 = S) := by
  refine w_aload_n rfl rfl rfl ?_
  refine w_getR rfl rfl sh_249 rfl rfl ?_
  refine w_iload_n rfl rfl rfl ?_
  refine w_iald (z := sA S 252 p) rfl sh_252 (by omega) (by omega) (by decide) rfl rfl ?_
  have g4 := hg (p) (by omega) (by omega)
  refine w_bipush rfl (by decide) rfl ?_
  refine w_ic_ne (pc2 := 15) (pc3 := 11) rfl (by decide) rfl ⟨by omega, by omega⟩ ⟨by decide, by decide⟩ (fun c8 => ?_) (fun c8 => ?_)
  · skip
    refine w_iload_n rfl rfl rfl ?_
    refine w_iconst rfl rfl ?_
    refine w_iadd rfl rfl ?_
    refine w_aload_n rfl rfl rfl ?_
    refine w_getI (z := sv S 249 5) rfl rfl sh_249 rfl rfl rfl ?_
    refine w_ic_ge (pc2 := 36) (pc3 := 25) rfl (by decide) rfl ⟨by omega, by omega⟩ ⟨by omega, by omega⟩ (fun c22 => ?_) (fun c22 => ?_)
    · skip
      refine w_iconst rfl rfl ?_
      refine w_istore_n rfl (by decide) rfl ?_
      refine w_aload_n rfl rfl rfl ?_
      refine w_getR rfl rfl sh_249 rfl rfl ?_
      refine w_iload_n rfl rfl rfl ?_
      refine w_iald (z := sA S 252 p) rfl sh_252 (by omega) (by omega) (by decide) rfl rfl ?_
      have g5 := hg (p) (by omega) (by omega)
      refine w_bipush rfl (by decide) rfl ?_
      refine w_ic_ne (pc2 := 61) (pc3 := 49) rfl (by decide) rfl ⟨by omega, by omega⟩ ⟨by decide, by decide⟩ (fun c46 => ?_) (fun c46 => ?_)
      · skip
        refine w_iload_n rfl rfl rfl ?_
        refine w_iret rfl rfl ?_
        exact q_i (by unfold bl; rw [if_neg (by omega), if_neg (by omega), if_neg (by omega)])
      · skip
        refine w_iload_n rfl rfl rfl ?_
        refine w_bipush rfl (by decide) rfl ?_
        refine w_ic_eq (pc2 := 63) (pc3 := 55) rfl (by decide) rfl ⟨by decide, by decide⟩ ⟨by decide, by decide⟩ (fun hc => absurd hc (by decide)) (fun _ => ?_)
        refine w_iload_n rfl rfl rfl ?_
        refine w_bipush rfl (by decide) rfl ?_
        refine w_ic_eq (pc2 := 63) (pc3 := 61) rfl (by decide) rfl ⟨by decide, by decide⟩ ⟨by decide, by decide⟩ (fun hc => absurd hc (by decide)) (fun _ => ?_)
        refine w_iload_n rfl rfl rfl ?_
        refine w_iret rfl rfl ?_
        exact q_i (by unfold bl; rw [if_neg (by omega), if_neg (by omega), if_neg (by omega)])
    · skip
      refine w_aload_n rfl rfl rfl ?_
      refine w_getR rfl rfl sh_249 rfl rfl ?_
      refine w_iload_n rfl rfl rfl ?_
      refine w_iconst rfl rfl ?_
      refine w_iadd rfl rfl ?_
      refine w_iald (z := sA S 252 (p + 1)) rfl sh_252 (by omega) (by omega) (by decide) rfl rfl ?_
      have g6 := hg (p + 1) (by omega) (by omega)
      refine w_goto (pc2 := 37) rfl (by decide) ?_
      refine w_istore_n rfl (by decide) rfl ?_
      refine w_aload_n rfl rfl rfl ?_
      refine w_getR rfl rfl sh_249 rfl rfl ?_
      refine w_iload_n rfl rfl rfl ?_
      refine w_iald (z := sA S 252 p) rfl sh_252 (by omega) (by omega) (by decide) rfl rfl ?_
      have g7 := hg (p) (by omega) (by omega)
      refine w_bipush rfl (by decide) rfl ?_
      refine w_ic_ne (pc2 := 61) (pc3 := 49) rfl (by decide) rfl ⟨by omega, by omega⟩ ⟨by decide, by decide⟩ (fun c46 => ?_) (fun c46 => ?_)
      · skip
        refine w_iload_n rfl rfl rfl ?_
        refine w_iret rfl rfl ?_
        exact q_i (by unfold bl; rw [if_neg (by omega), if_neg (by omega), if_neg (by omega)])
      · skip
        refine w_iload_n rfl rfl rfl ?_
        refine w_bipush rfl (by decide) rfl ?_
        refine w_ic_eq (pc2 := 63) (pc3 := 55) rfl (by decide) rfl ⟨by omega, by omega⟩ ⟨by decide, by decide⟩ (fun c52 => ?_) (fun c52 => ?_)
        · skip
          refine w_iload_n rfl rfl rfl ?_
          refine w_iconst rfl rfl ?_
          refine w_iadd rfl rfl ?_
          refine w_istore_n rfl (by decide) rfl ?_
          refine w_iload_n rfl rfl rfl ?_
          refine w_bipush rfl (by decide) rfl ?_
          refine w_ic_ne (pc2 := 100) (pc3 := 73) rfl (by decide) rfl ⟨by omega, by omega⟩ ⟨by decide, by decide⟩ (fun c70 => ?_) (fun c70 => ?_)
          · skip
            exact (r_bl_c h0 h1 hg p0 p1 hp hd _).2 (p + 2) _ rfl rfl (by omega) (by omega) (by unfold bl lce; rw [if_neg (by omega), if_pos (by omega)]) (Nat.lt_succ_self _)
          · skip
            exact (r_bl_c h0 h1 hg p0 p1 hp hd _).1 (p + 2) _ rfl rfl (by omega) (by omega) (by unfold bl; rw [if_neg (by omega), if_neg (by omega), if_pos (by omega)]; unfold nlf; rw [fi_next (by omega) (by simp only [decide_eq_false_iff_not]; omega), fi_next (by omega) (by simp only [decide_eq_false_iff_not]; omega)]; congr 1; omega) (Nat.lt_succ_self _)
        · skip
          refine w_iload_n rfl rfl rfl ?_
          refine w_bipush rfl (by decide) rfl ?_
          refine w_ic_eq (pc2 := 63) (pc3 := 61) rfl (by decide) rfl ⟨by omega, by omega⟩ ⟨by decide, by decide⟩ (fun c58 => ?_) (fun c58 => ?_)
          · skip
            refine w_iload_n rfl rfl rfl ?_
            refine w_iconst rfl rfl ?_
            refine w_iadd rfl rfl ?_
            refine w_istore_n rfl (by decide) rfl ?_
            refine w_iload_n rfl rfl rfl ?_
            refine w_bipush rfl (by decide) rfl ?_
            refine w_ic_ne (pc2 := 100) (pc3 := 73) rfl (by decide) rfl ⟨by omega, by omega⟩ ⟨by decide, by decide⟩ (fun c70 => ?_) (fun c70 => ?_)
            · skip
              exact (r_bl_c h0 h1 hg p0 p1 hp hd _).2 (p + 2) _ rfl rfl (by omega) (by omega) (by unfold bl lce; rw [if_neg (by omega), if_pos (by omega)]) (Nat.lt_succ_self _)
            · skip
              exact (r_bl_c h0 h1 hg p0 p1 hp hd _).1 (p + 2) _ rfl rfl (by omega) (by omega) (by unfold bl; rw [if_neg (by omega), if_neg (by omega), if_pos (by omega)]; unfold nlf; rw [fi_next (by omega) (by simp only [decide_eq_false_iff_not]; omega), fi_next (by omega) (by simp only [decide_eq_false_iff_not]; omega)]; congr 1; omega) (Nat.lt_succ_self _)
          · skip
            refine w_iload_n rfl rfl rfl ?_
            refine w_iret rfl rfl ?_
            exact q_i (by unfold bl; rw [if_neg (by omega), if_neg (by omega), if_neg (by omega)])
  · skip
    refine w_iload_n rfl rfl rfl ?_
    refine w_iconst rfl rfl ?_
    refine w_iadd rfl rfl ?_
    refine w_iret rfl rfl ?_
    exact q_i (by unfold bl; rw [if_pos (by omega)])
theorem wstep {x : Int64} {c : Int} {j : Nat} (h0 : 0 ≤ x.toInt) (h1 : x.toInt < 128 ^ j) (hj : j ≤ 8) (c0 : 0 ≤ c) (c1 : c < 128) : (lshl x 7 ||| li2l c) = lshl x 7 + li2l c ∧ (lshl x 7 + li2l c).toInt = x.toInt * 128 + c ∧ x.toInt * 128 + c < 128 ^ (j + 1) := by
  have hp : (128 : Int) ^ j ≤ 128 ^ 8 := by
    have : j = 0 ∨ j = 1 ∨ j = 2 ∨ j = 3 ∨ j = 4 ∨ j = 5 ∨ j = 6 ∨ j = 7 ∨ j = 8 := by omega
    rcases this with e | e | e | e | e | e | e | e | e <;> (rw [e]; decide)
  have h8 : (128 : Int) ^ 8 = 72057594037927936 := by decide
  have e1 : (lshl x 7).toInt = x.toInt * 2 ^ (7 : Int).toNat := lshl_toInt (by decide) (by decide) h0 (by show x.toInt * 128 < _; omega)
  have e1' : (lshl x 7).toInt = x.toInt * 128 := e1
  have e2 : (li2l c).toInt = c := li2l_toInt ⟨by omega, by omega⟩
  have e3 : (lshl x 7 + li2l c).toInt = x.toInt * 128 + c := by rw [ladd_toInt (by omega) (by omega) (by omega), e1', e2]
  refine ⟨i64_ext ?_, e3, ?_⟩
  · rw [e3, lor_toInt (k := 7) (a := x.toInt) e1 h0 (by omega) (by rw [e2]; exact c1) (by omega), e1', e2]
  · rw [Int.pow_succ]
    omega
def rrep (S : w_S) (lv : Int) (t : List Tok) : Prop := ∀ j : Int, 0 ≤ j → j < t.length → sL S 254 (161 * lv + j) = (tkg t j).1 ∧ sA S 255 (161 * lv + j) = (tkg t j).2.1 ∧ sA S 256 (161 * lv + j) = 2 * (tkg t j).2.2.1 + zB (tkg t j).2.2.2
theorem rrep_app {S T : w_S} {lv : Int} {t : List Tok} {x : Tok} (h : rrep S lv t) (hL : sL T 254 = w_u (sL S 254) (161 * lv + t.length) x.1) (hA : sA T 255 = w_u (sA S 255) (161 * lv + t.length) x.2.1) (hB : sA T 256 = w_u (sA S 256) (161 * lv + t.length) (2 * x.2.2.1 + zB x.2.2.2)) : rrep T lv (t ++ [x]) := fun j a b => by
  rw [List.length_append] at b
  rw [hL, hA, hB]
  by_cases e : j = t.length
  · rw [e, w_u_self, w_u_self, w_u_self, tkg_new]
    exact ⟨rfl, rfl, rfl⟩
  · rw [w_u_ne _ _ (by omega), w_u_ne _ _ (by omega), w_u_ne _ _ (by omega), tkg_old a (by simp at b; omega)]
    exact h j a (by simp at b; omega)
theorem r_read_c {sc : x_S} {d : Nat} {S : w_S} {f : Int} (f0 : 0 ≤ f) (f2 : f ≤ 2) (h0 : 0 ≤ sA S 251 f) (h1 : sA S 251 f ≤ 160) (hg : ∀ i, 0 ≤ i → i < sA S 251 f → 0 ≤ sA S 250 (160 * f + i) ∧ sA S 250 (160 * f + i) < 128) (l0 : 0 ≤ sv S 249 12) (l3 : sv S 249 12 ≤ 3) (hd : 2 ≤ d) : ∀ n : Nat, (∀ (z : Int) (ro : Int) (la : Int) (p : Int) (m : Nat) (A : Int → Int) (N : Int → Int) (nn : Int) (t : List Tok) (T : w_S) (lv : x_L) (l0 : lv 0 = some (.ref 249)) (l1 : lv 1 = some (.int (iZ f))) (l2 : lv 2 = some (.int (iZ z))) (l3 : lv 3 = some (.int (iZ ro))) (l4 : lv 4 = some (.int (iZ la))) (l5 : lv 5 = some (.int (iZ p))) (hfr : fr (fun a => a = 249 ∨ (252 ≤ a ∧ a ≤ 259)) S T) (h5 : ∀ k, ¬ k = 5 → sv T 249 k = sv S 249 k) (hA : sA T 252 = A) (hN : sA T 253 = N) (hn : sv T 249 5 = nn) (n0 : 0 ≤ nn) (n1 : nn ≤ 161) (n2 : nn = 161 → A 160 = 10) (hc : ∀ j, 0 ≤ j → j < nn → 0 ≤ A j ∧ A j < 128) (e7 : sA T 257 = w_u (sA S 257) (sv S 249 12) (161 * (sv S 249 12))) (e8 : sA T 258 = sA S 258) (e9 : sA T 259 = w_u (sA S 259) (sv S 249 12) (sv S 249 16)) (hlow : ∀ x, x < 161 * (sv S 249 12) → sL T 254 x = sL S 254 x ∧ sA T 255 x = sA S 255 x ∧ sA T 256 x = sA S 256 x) (hr : rrep T (sv S 249 12) t) (hz : z = 161 * (sv S 249 12) + t.length) (tl : t.length ≤ p) (t1 : t.length ≤ 160) (p0 : 0 ≤ p) (lap : la ≤ p) (lab : -1 ≤ la) (p1 : p ≤ nn) (hmm : nn - p ≤ m) (he : spl A N nn f m p ro (decide (la = p)) t = scan (fun k => sA S 250 (160 * f + k)) (sA S 251 f) f) (hm : 400 * (nn - p).toNat < n), w_T sc d 127 45 lv [] T (fun v S2 => v = some (.int (iZ (scan (fun k => sA S 250 (160 * f + k)) (sA S 251 f) f).1)) ∧ fr (fun a => a = 249 ∨ (252 ≤ a ∧ a ≤ 259)) S S2 ∧ (∀ k, ¬ k = 5 → sv S2 249 k = sv S 249 k) ∧ ((scan (fun k => sA S 250 (160 * f + k)) (sA S 251 f) f).1 = 0 → rrep S2 (sv S 249 12) (scan (fun k => sA S 250 (160 * f + k)) (sA S 251 f) f).2 ∧ (scan (fun k => sA S 250 (160 * f + k)) (sA S 251 f) f).2.length ≤ 160 ∧ sA S2 257 = w_u (sA S 257) (sv S 249 12) (161 * (sv S 249 12)) ∧ sA S2 258 = w_u (sA S 258) (sv S 249 12) (161 * (sv S 249 12) + (scan (fun k => sA S 250 (160 * f + k)) (sA S 251 f) f).2.length) ∧ sA S2 259 = w_u (sA S 259) (sv S 249 12) (sv S 249 16) ∧ ∀ x, x < 161 * (sv S 249 12) → sL S2 254 x = sL S 254 x ∧ sA S2 255 x = sA S 255 x ∧ sA S2 256 x = sA S 256 x))) ∧ (∀ (z : Int) (ro : Int) (la : Int) (p : Int) (q : Int) (x : Int64) (k : Int) (m : Nat) (A : Int → Int) (N : Int → Int) (nn : Int) (t : List Tok) (T : w_S) (lv : x_L) (l0 : lv 0 = some (.ref 249)) (l1 : lv 1 = some (.int (iZ f))) (l2 : lv 2 = some (.int (iZ z))) (l3 : lv 3 = some (.int (iZ ro))) (l4 : lv 4 = some (.int (iZ la))) (l5 : lv 5 = some (.int (iZ p))) (l6 : lv 6 = some (.int (iZ q))) (l7 : lv 7 = some (.long x)) (l9 : lv 9 = some (.int (iZ k))) (hfr : fr (fun a => a = 249 ∨ (252 ≤ a ∧ a ≤ 259)) S T) (h5 : ∀ k, ¬ k = 5 → sv T 249 k = sv S 249 k) (hA : sA T 252 = A) (hN : sA T 253 = N) (hn : sv T 249 5 = nn) (n0 : 0 ≤ nn) (n1 : nn ≤ 161) (n2 : nn = 161 → A 160 = 10) (hc : ∀ j, 0 ≤ j → j < nn → 0 ≤ A j ∧ A j < 128) (e7 : sA T 257 = w_u (sA S 257) (sv S 249 12) (161 * (sv S 249 12))) (e8 : sA T 258 = sA S 258) (e9 : sA T 259 = w_u (sA S 259) (sv S 249 12) (sv S 249 16)) (hlow : ∀ x, x < 161 * (sv S 249 12) → sL T 254 x = sL S 254 x ∧ sA T 255 x = sA S 255 x ∧ sA T 256 x = sA S 256 x) (hr : rrep T (sv S 249 12) t) (hz : z = 161 * (sv S 249 12) + t.length) (tl : t.length ≤ p) (t1 : t.length ≤ 160) (p0 : 0 ≤ p) (lap : la ≤ p) (lab : -1 ≤ la) (hmm : nn - q ≤ m) (he : spl A N nn f m q ro true (t ++ [(pk A p q, 1000 * f + 1 + N p, ro, decide (la = p))]) = scan (fun k => sA S 250 (160 * f + k)) (sA S 251 f) f) (pq : p ≤ k ∧ k ≤ q ∧ p < q ∧ q ≤ nn ∧ q - p ≤ 9 ∧ p < 160) (kw : 0 ≤ x.toInt ∧ x.toInt < 128 ^ (k - p).toNat) (ke : pkN A (q - k).toNat k x = pk A p q) (hm : 400 * (nn - p).toNat - 1 - (k - p).toNat < n), w_T sc d 127 155 lv [] T (fun v S2 => v = some (.int (iZ (scan (fun k => sA S 250 (160 * f + k)) (sA S 251 f) f).1)) ∧ fr (fun a => a = 249 ∨ (252 ≤ a ∧ a ≤ 259)) S S2 ∧ (∀ k, ¬ k = 5 → sv S2 249 k = sv S 249 k) ∧ ((scan (fun k => sA S 250 (160 * f + k)) (sA S 251 f) f).1 = 0 → rrep S2 (sv S 249 12) (scan (fun k => sA S 250 (160 * f + k)) (sA S 251 f) f).2 ∧ (scan (fun k => sA S 250 (160 * f + k)) (sA S 251 f) f).2.length ≤ 160 ∧ sA S2 257 = w_u (sA S 257) (sv S 249 12) (161 * (sv S 249 12)) ∧ sA S2 258 = w_u (sA S 258) (sv S 249 12) (161 * (sv S 249 12) + (scan (fun k => sA S 250 (160 * f + k)) (sA S 251 f) f).2.length) ∧ sA S2 259 = w_u (sA S 259) (sv S 249 12) (sv S 249 16) ∧ ∀ x, x < 161 * (sv S 249 12) → sL S2 254 x = sL S 254 x ∧ sA S2 255 x = sA S 255 x ∧ sA S2 256 x = sA S 256 x))) := by
  intro n
  induction n with
  | zero => exact ⟨fun z ro la p m A N nn t T lv l0 l1 l2 l3 l4 l5 hfr h5 hA hN hn n0 n1 n2 hc e7 e8 e9 hlow hr hz tl t1 p0 lap lab p1 hmm he hm => absurd hm (Nat.not_lt_zero _), fun z ro la p q x k m A N nn t T lv l0 l1 l2 l3 l4 l5 l6 l7 l9 hfr h5 hA hN hn n0 n1 n2 hc e7 e8 e9 hlow hr hz tl t1 p0 lap lab hmm he pq kw ke hm => absurd hm (Nat.not_lt_zero _)⟩
  | succ n ih =>
    refine ⟨?_, ?_⟩
    · skip
      intro z ro la p m A N nn t T lv l0 l1 l2 l3 l4 l5 hfr h5 hA hN hn n0 n1 n2 hc e7 e8 e9 hlow hr hz tl t1 p0 lap lab p1 hmm he hm
      have e12 : sv T 249 12 = sv S 249 12 := h5 12 (by decide)
      have k0 : 0 ≤ sv T 249 5 := by omega
      have k1 : sv T 249 5 ≤ 161 := by omega
      have kg : ∀ j, 0 ≤ j → j < sv T 249 5 → 0 ≤ sA T 252 j ∧ sA T 252 j < 128 := by
        rw [hA, hn]
        exact hc
      refine w_iload rfl l5 rfl ?_
      refine w_aload_n rfl l0 rfl ?_
      refine w_getI (z := sv T 249 5) rfl rfl sh_249 rfl rfl rfl ?_
      refine w_ic_ge (pc2 := 249) (pc3 := 54) rfl (by decide) rfl ⟨by omega, by omega⟩ ⟨by omega, by omega⟩ (fun c51 => ?_) (fun c51 => ?_)
      · skip
        refine w_aload_n rfl l0 rfl ?_
        refine w_getR rfl rfl sh_249 rfl rfl ?_
        refine w_aload_n rfl l0 rfl ?_
        refine w_getI (z := sv T 249 12) rfl rfl sh_249 rfl rfl rfl ?_
        refine w_iload_n rfl l2 rfl ?_
        refine w_iaS (f := sA T 258) rfl sh_258 (by omega) (by omega) (by decide) rfl rfl ?_
        refine w_iconst rfl rfl ?_
        refine w_iret rfl rfl ?_
        rw [spl_0 (by omega)] at he
        rw [← he]
        refine ⟨rfl, (fr_A hfr (by omega)), h5, fun _ => ⟨hr, t1, e7, ?_, e9, hlow⟩⟩
        show (w_u (sA T 258) (sv T 249 12) z) = _
        rw [e8, e12, hz]
      · skip
        obtain ⟨mm, rfl⟩ : ∃ mm, m = mm + 1 := ⟨m - 1, by omega⟩
        have hb := bl_r (A := sA T 252) c51
        have htr := te_r (A := sA T 252) c51
        refine w_aload_n rfl l0 rfl ?_
        refine w_getR rfl rfl sh_249 rfl rfl ?_
        refine w_iload rfl l5 rfl ?_
        refine w_iald (z := sA T 252 p) rfl sh_252 (by omega) (by omega) (by decide) rfl rfl ?_
        have g1 := kg (p) (by omega) (by omega)
        refine w_bipush rfl (by decide) rfl ?_
        refine w_ic_ne (pc2 := 71) (pc3 := 66) rfl (by decide) rfl ⟨by omega, by omega⟩ ⟨by decide, by decide⟩ (fun c63 => ?_) (fun c63 => ?_)
        · skip
          refine w_aload_n rfl l0 rfl ?_
          refine w_iload rfl l5 rfl ?_
          refine w_CV (as := [.int (iZ p)]) (r := []) rfl rfl rfl rfl sh_249 (Nat.le_of_ble_eq_true rfl) (Nat.le_of_ble_eq_true rfl) (by omega) rfl (r_bl (S := T) k0 k1 kg (by omega) (by omega) (by omega) (by omega)) ?_
          rintro _ _ ⟨rfl, hS⟩
          rw [hS]
          show w_T _ _ 127 77 _ [.int (iZ (bl (sA T 252) (sv T 249 5) p))] _ _
          refine w_istore rfl (by decide) rfl ?_
          refine w_iload rfl rfl rfl ?_
          refine w_if_ge (pc2 := 86) (pc3 := 84) rfl (by decide) rfl ⟨by omega, by omega⟩ (fun c81 => ?_) (fun c81 => ?_)
          · skip
            refine w_aload_n rfl l0 rfl ?_
            refine w_getR rfl rfl sh_249 rfl rfl ?_
            refine w_iload rfl (congrArg x_k2 l5) rfl ?_
            refine w_iald (z := sA T 252 p) rfl sh_252 (by omega) (by omega) (by decide) rfl rfl ?_
            have g2 := kg (p) (by omega) (by omega)
            refine w_bipush rfl (by decide) rfl ?_
            refine w_ic_ne (pc2 := 107) (pc3 := 98) rfl (by decide) rfl ⟨by omega, by omega⟩ ⟨by decide, by decide⟩ (fun c95 => ?_) (fun c95 => ?_)
            · skip
              refine w_iload rfl rfl rfl ?_
              refine w_iload rfl (congrArg x_k2 l5) rfl ?_
              refine w_ic_le (pc2 := 121) (pc3 := 114) rfl (by decide) rfl ⟨by omega, by omega⟩ ⟨by omega, by omega⟩ (fun c111 => ?_) (fun c111 => ?_)
              · skip
                refine w_aload_n rfl l0 rfl ?_
                refine w_iload rfl (congrArg x_k2 l5) rfl ?_
                refine w_CV (as := [.int (iZ p)]) (r := []) rfl rfl rfl rfl sh_249 (Nat.le_of_ble_eq_true rfl) (Nat.le_of_ble_eq_true rfl) (by omega) rfl (r_end (S := T) k0 k1 kg (by omega) (by omega) (by omega)) ?_
                rintro _ _ ⟨rfl, hS⟩
                rw [hS]
                show w_T _ _ 127 127 _ [.int (iZ (te (sA T 252) (sv T 249 5) p))] _ _
                refine w_istore rfl (by decide) rfl ?_
                refine w_iload rfl rfl rfl ?_
                refine w_iload rfl (congrArg x_k2 (congrArg x_k2 l5)) rfl ?_
                refine w_ic_eq (pc2 := 146) (pc3 := 136) rfl (by decide) rfl ⟨by omega, by omega⟩ ⟨by omega, by omega⟩ (fun c133 => ?_) (fun c133 => ?_)
                · skip
                  refine w_iconst rfl rfl ?_
                  refine w_iret rfl rfl ?_
                  first
                    | (exfalso; omega)
                    | (rw [spl_2 (by omega) (by rw [← hA, ← hn]; omega) (by rw [← hA, ← hn]; omega) (by rw [← hA, ← hn]; omega)] at he
                       rw [← he]
                       exact ⟨rfl, hfr, h5, fun z => absurd z (by show ¬ (2 : Int) = 0; decide)⟩)
                · skip
                  refine w_iload rfl rfl rfl ?_
                  refine w_iload rfl (congrArg x_k2 (congrArg x_k2 l5)) rfl ?_
                  refine w_isub rfl rfl ?_
                  refine w_bipush rfl (by decide) rfl ?_
                  refine w_ic_le (pc2 := 148) (pc3 := 146) rfl (by decide) rfl ⟨by omega, by omega⟩ ⟨by decide, by decide⟩ (fun c143 => ?_) (fun c143 => ?_)
                  · skip
                    have h15 : p < 160 := by
                      by_cases q : p = 160
                      · have q1 := n2 (by omega)
                        have q2 := bl_10 (A := sA T 252) (n := sv T 249 5) (p := p) (by rw [hA, q]; exact q1)
                        omega
                      · omega
                    refine w_lconst (v := 0) rfl (by decide) rfl ?_
                    refine w_lstore rfl (by decide) rfl ?_
                    refine w_iload rfl (congrArg x_k2 (congrArg x_k2 l5)) rfl ?_
                    refine w_istore rfl (by decide) rfl ?_
                    exact ih.2 z ro la p (te (sA T 252) (sv T 249 5) p) 0 p mm A N nn t _ _ (by exact l0) (by exact l1) (by exact l2) (by exact l3) (by exact l4) (by exact (congrArg x_k2 (congrArg x_k2 l5))) (by exact rfl) (by exact rfl) (by exact rfl) (by exact hfr) (by exact h5) (by exact hA) (by exact hN) (by exact hn) (by exact n0) (by exact n1) (by exact n2) (by exact hc) (by exact e7) (by exact e8) (by exact e9) (by exact hlow) (by exact hr) (by exact hz) (by omega) (by exact t1) (by omega) (by omega) (by omega) (by omega) (by rw [spl_t (by omega) (by rw [← hA, ← hn]; omega) (by rw [← hA, ← hn]; omega) (by rw [← hA, ← hn]; omega)] at he; rw [hA, hn]; exact he) (by omega) (by exact ⟨by decide, by rw [show (p - p).toNat = 0 by omega]; decide⟩) (by rfl) (by omega)
                  · skip
                    refine w_iconst rfl rfl ?_
                    refine w_iret rfl rfl ?_
                    first
                      | (exfalso; omega)
                      | (rw [spl_2 (by omega) (by rw [← hA, ← hn]; omega) (by rw [← hA, ← hn]; omega) (by rw [← hA, ← hn]; omega)] at he
                         rw [← he]
                         exact ⟨rfl, hfr, h5, fun z => absurd z (by show ¬ (2 : Int) = 0; decide)⟩)
              · skip
                refine w_iload rfl rfl rfl ?_
                refine w_istore rfl (by decide) rfl ?_
                refine w_goto (pc2 := 246) rfl (by decide) ?_
                refine w_goto (pc2 := 45) rfl (by decide) ?_
                exact ih.1 z ro la (bl (sA T 252) (sv T 249 5) p) mm A N nn t _ _ (by exact l0) (by exact l1) (by exact l2) (by exact l3) (by exact (congrArg x_k2 l4)) (by exact rfl) (by exact hfr) (by exact h5) (by exact hA) (by exact hN) (by exact hn) (by exact n0) (by exact n1) (by exact n2) (by exact hc) (by exact e7) (by exact e8) (by exact e9) (by exact hlow) (by exact hr) (by exact hz) (by omega) (by exact t1) (by omega) (by omega) (by omega) (by omega) (by omega) (by first | (exfalso; omega) | (rw [spl_b (by omega) (by rw [← hA, ← hn]; omega) (by rw [← hA, ← hn]; omega), zB_f (decide_eq_false (by rw [← hA]; omega)), Int.add_zero] at he; rw [decide_eq_false (by omega), hA, hn]; exact he)) (by omega)
            · skip
              refine w_iinc rfl l3 (by decide) rfl ?_
              refine w_iinc rfl (congrArg x_k2 l5) (by decide) rfl ?_
              refine w_goto (pc2 := 246) rfl (by decide) ?_
              refine w_goto (pc2 := 45) rfl (by decide) ?_
              exact ih.1 z (ro + 1) la (p + 1) mm A N nn t _ _ (by exact l0) (by exact l1) (by exact (congrArg x_k2 l2)) (by exact rfl) (by exact (congrArg x_k2 l4)) (by exact rfl) (by exact hfr) (by exact h5) (by exact hA) (by exact hN) (by exact hn) (by exact n0) (by exact n1) (by exact n2) (by exact hc) (by exact e7) (by exact e8) (by exact e9) (by exact hlow) (by exact hr) (by exact hz) (by omega) (by exact t1) (by omega) (by omega) (by omega) (by omega) (by omega) (by first | (exfalso; omega) | (have hb10 := bl_10 (A := A) (n := nn) (p := p) (by rw [← hA]; exact c95); rw [spl_b (by omega) (by omega) (by omega), hb10, zB_t (decide_eq_true (by rw [← hA]; exact c95))] at he; rw [decide_eq_false (by omega)]; exact he)) (by omega)
          · skip
            refine w_iconst rfl rfl ?_
            refine w_iret rfl rfl ?_
            first
              | (exfalso; omega)
              | (rw [spl_1 (by omega) (by rw [← hA, ← hn]; omega)] at he
                 rw [← he]
                 exact ⟨rfl, hfr, h5, fun z => absurd z (by show ¬ (1 : Int) = 0; decide)⟩)
        · skip
          refine w_iload rfl l5 rfl ?_
          refine w_goto (pc2 := 77) rfl (by decide) ?_
          refine w_istore rfl (by decide) rfl ?_
          refine w_iload rfl rfl rfl ?_
          refine w_if_ge (pc2 := 86) (pc3 := 84) rfl (by decide) rfl ⟨by omega, by omega⟩ (fun c81 => ?_) (fun c81 => ?_)
          · skip
            refine w_aload_n rfl l0 rfl ?_
            refine w_getR rfl rfl sh_249 rfl rfl ?_
            refine w_iload rfl (congrArg x_k2 l5) rfl ?_
            refine w_iald (z := sA T 252 p) rfl sh_252 (by omega) (by omega) (by decide) rfl rfl ?_
            have g3 := kg (p) (by omega) (by omega)
            refine w_bipush rfl (by decide) rfl ?_
            refine w_ic_ne (pc2 := 107) (pc3 := 98) rfl (by decide) rfl ⟨by omega, by omega⟩ ⟨by decide, by decide⟩ (fun c95 => ?_) (fun c95 => ?_)
            · skip
              refine w_iload rfl rfl rfl ?_
              refine w_iload rfl (congrArg x_k2 l5) rfl ?_
              refine w_ic_le (pc2 := 121) (pc3 := 114) rfl (by decide) rfl ⟨by omega, by omega⟩ ⟨by omega, by omega⟩ (fun c111 => ?_) (fun c111 => ?_)
              · skip
                refine w_aload_n rfl l0 rfl ?_
                refine w_iload rfl (congrArg x_k2 l5) rfl ?_
                refine w_CV (as := [.int (iZ p)]) (r := []) rfl rfl rfl rfl sh_249 (Nat.le_of_ble_eq_true rfl) (Nat.le_of_ble_eq_true rfl) (by omega) rfl (r_end (S := T) k0 k1 kg (by omega) (by omega) (by omega)) ?_
                rintro _ _ ⟨rfl, hS⟩
                rw [hS]
                show w_T _ _ 127 127 _ [.int (iZ (te (sA T 252) (sv T 249 5) p))] _ _
                refine w_istore rfl (by decide) rfl ?_
                refine w_iload rfl rfl rfl ?_
                refine w_iload rfl (congrArg x_k2 (congrArg x_k2 l5)) rfl ?_
                refine w_ic_eq (pc2 := 146) (pc3 := 136) rfl (by decide) rfl ⟨by omega, by omega⟩ ⟨by omega, by omega⟩ (fun c133 => ?_) (fun c133 => ?_)
                · skip
                  refine w_iconst rfl rfl ?_
                  refine w_iret rfl rfl ?_
                  first
                    | (exfalso; omega)
                    | (rw [spl_2 (by omega) (by rw [← hA, ← hn]; omega) (by rw [← hA, ← hn]; omega) (by rw [← hA, ← hn]; omega)] at he
                       rw [← he]
                       exact ⟨rfl, hfr, h5, fun z => absurd z (by show ¬ (2 : Int) = 0; decide)⟩)
                · skip
                  refine w_iload rfl rfl rfl ?_
                  refine w_iload rfl (congrArg x_k2 (congrArg x_k2 l5)) rfl ?_
                  refine w_isub rfl rfl ?_
                  refine w_bipush rfl (by decide) rfl ?_
                  refine w_ic_le (pc2 := 148) (pc3 := 146) rfl (by decide) rfl ⟨by omega, by omega⟩ ⟨by decide, by decide⟩ (fun c143 => ?_) (fun c143 => ?_)
                  · skip
                    have h15 : p < 160 := by
                      by_cases q : p = 160
                      · have q1 := n2 (by omega)
                        have q2 := bl_10 (A := sA T 252) (n := sv T 249 5) (p := p) (by rw [hA, q]; exact q1)
                        omega
                      · omega
                    refine w_lconst (v := 0) rfl (by decide) rfl ?_
                    refine w_lstore rfl (by decide) rfl ?_
                    refine w_iload rfl (congrArg x_k2 (congrArg x_k2 l5)) rfl ?_
                    refine w_istore rfl (by decide) rfl ?_
                    exact ih.2 z ro la p (te (sA T 252) (sv T 249 5) p) 0 p mm A N nn t _ _ (by exact l0) (by exact l1) (by exact l2) (by exact l3) (by exact l4) (by exact (congrArg x_k2 (congrArg x_k2 l5))) (by exact rfl) (by exact rfl) (by exact rfl) (by exact hfr) (by exact h5) (by exact hA) (by exact hN) (by exact hn) (by exact n0) (by exact n1) (by exact n2) (by exact hc) (by exact e7) (by exact e8) (by exact e9) (by exact hlow) (by exact hr) (by exact hz) (by omega) (by exact t1) (by omega) (by omega) (by omega) (by omega) (by rw [spl_t (by omega) (by rw [← hA, ← hn]; omega) (by rw [← hA, ← hn]; omega) (by rw [← hA, ← hn]; omega)] at he; rw [hA, hn]; exact he) (by omega) (by exact ⟨by decide, by rw [show (p - p).toNat = 0 by omega]; decide⟩) (by rfl) (by omega)
                  · skip
                    refine w_iconst rfl rfl ?_
                    refine w_iret rfl rfl ?_
                    first
                      | (exfalso; omega)
                      | (rw [spl_2 (by omega) (by rw [← hA, ← hn]; omega) (by rw [← hA, ← hn]; omega) (by rw [← hA, ← hn]; omega)] at he
                         rw [← he]
                         exact ⟨rfl, hfr, h5, fun z => absurd z (by show ¬ (2 : Int) = 0; decide)⟩)
              · skip
                refine w_iload rfl rfl rfl ?_
                refine w_istore rfl (by decide) rfl ?_
                refine w_goto (pc2 := 246) rfl (by decide) ?_
                refine w_goto (pc2 := 45) rfl (by decide) ?_
                exact ih.1 z ro la p mm A N nn t _ _ (by exact l0) (by exact l1) (by exact l2) (by exact l3) (by exact (congrArg x_k2 l4)) (by exact rfl) (by exact hfr) (by exact h5) (by exact hA) (by exact hN) (by exact hn) (by exact n0) (by exact n1) (by exact n2) (by exact hc) (by exact e7) (by exact e8) (by exact e9) (by exact hlow) (by exact hr) (by exact hz) (by omega) (by exact t1) (by omega) (by omega) (by omega) (by omega) (by omega) (by first | (exfalso; omega) | (rw [spl_b (by omega) (by rw [← hA, ← hn]; omega) (by rw [← hA, ← hn]; omega), zB_f (decide_eq_false (by rw [← hA]; omega)), Int.add_zero] at he; rw [decide_eq_false (by omega), hA, hn]; exact he)) (by omega)
            · skip
              refine w_iinc rfl l3 (by decide) rfl ?_
              refine w_iinc rfl (congrArg x_k2 l5) (by decide) rfl ?_
              refine w_goto (pc2 := 246) rfl (by decide) ?_
              refine w_goto (pc2 := 45) rfl (by decide) ?_
              exact ih.1 z (ro + 1) la (p + 1) mm A N nn t _ _ (by exact l0) (by exact l1) (by exact (congrArg x_k2 l2)) (by exact rfl) (by exact (congrArg x_k2 l4)) (by exact rfl) (by exact hfr) (by exact h5) (by exact hA) (by exact hN) (by exact hn) (by exact n0) (by exact n1) (by exact n2) (by exact hc) (by exact e7) (by exact e8) (by exact e9) (by exact hlow) (by exact hr) (by exact hz) (by omega) (by exact t1) (by omega) (by omega) (by omega) (by omega) (by omega) (by first | (exfalso; omega) | (have hb10 := bl_10 (A := A) (n := nn) (p := p) (by rw [← hA]; exact c95); rw [spl_b (by omega) (by omega) (by omega), hb10, zB_t (decide_eq_true (by rw [← hA]; exact c95))] at he; rw [decide_eq_false (by omega)]; exact he)) (by omega)
          · skip
            refine w_iconst rfl rfl ?_
            refine w_iret rfl rfl ?_
            first
              | (exfalso; omega)
              | (rw [spl_1 (by omega) (by rw [← hA, ← hn]; omega)] at he
                 rw [← he]
                 exact ⟨rfl, hfr, h5, fun z => absurd z (by show ¬ (1 : Int) = 0; decide)⟩)
    · skip
      intro z ro la p q x k m A N nn t T lv l0 l1 l2 l3 l4 l5 l6 l7 l9 hfr h5 hA hN hn n0 n1 n2 hc e7 e8 e9 hlow hr hz tl t1 p0 lap lab hmm he pq kw ke hm
      have e12 : sv T 249 12 = sv S 249 12 := h5 12 (by decide)
      have k0 : 0 ≤ sv T 249 5 := by omega
      have k1 : sv T 249 5 ≤ 161 := by omega
      have kg : ∀ j, 0 ≤ j → j < sv T 249 5 → 0 ≤ sA T 252 j ∧ sA T 252 j < 128 := by
        rw [hA, hn]
        exact hc
      refine w_iload rfl l9 rfl ?_
      refine w_iload rfl l6 rfl ?_
      refine w_ic_ge (pc2 := 184) (pc3 := 162) rfl (by decide) rfl ⟨by omega, by omega⟩ ⟨by omega, by omega⟩ (fun c159 => ?_) (fun c159 => ?_)
      · skip
        have hx : x = pk A p q := by
          rw [← ke, show (q - k).toNat = 0 by omega]
          rfl
        refine w_aload_n rfl l0 rfl ?_
        refine w_getR rfl rfl sh_249 rfl rfl ?_
        refine w_iload_n rfl l2 rfl ?_
        refine w_lload rfl l7 rfl ?_
        refine w_laS (f := sL T 254) rfl sh_254 (by omega) (by omega) (by decide) rfl rfl ?_
        refine w_aload_n rfl l0 rfl ?_
        refine w_getR rfl rfl sh_249 rfl rfl ?_
        refine w_iload_n rfl l2 rfl ?_
        refine w_sipush rfl (by decide) rfl ?_
        refine w_iload_n rfl l1 rfl ?_
        refine w_imul rfl rfl ?_
        refine w_iconst rfl rfl ?_
        refine w_iadd rfl rfl ?_
        refine w_aload_n rfl l0 rfl ?_
        refine w_getR rfl rfl sh_249 rfl rfl ?_
        refine w_iload rfl l5 rfl ?_
        refine w_iald (z := sA T 253 p) rfl sh_253 (by omega) (by omega) (by decide) rfl rfl ?_
        refine w_iadd rfl rfl ?_
        refine w_iaS (f := sA T 255) rfl sh_255 (by omega) (by omega) (by decide) rfl rfl ?_
        refine w_aload_n rfl l0 rfl ?_
        refine w_getR rfl rfl sh_249 rfl rfl ?_
        refine w_iload_n rfl l2 rfl ?_
        refine w_iconst rfl rfl ?_
        refine w_iload_n rfl l3 rfl ?_
        refine w_imul rfl rfl ?_
        refine w_iload rfl l4 rfl ?_
        refine w_iload rfl l5 rfl ?_
        refine w_ic_ne (pc2 := 232) (pc3 := 228) rfl (by decide) rfl ⟨by omega, by omega⟩ ⟨by omega, by omega⟩ (fun c225 => ?_) (fun c225 => ?_)
        · skip
          refine w_iconst rfl rfl ?_
          refine w_iadd rfl rfl ?_
          refine w_iaS (f := sA T 256) rfl sh_256 (by omega) (by omega) (by decide) (rA_ne (by decide)) rfl ?_
          refine w_iinc rfl l2 (by decide) rfl ?_
          refine w_iload rfl l6 rfl ?_
          refine w_istore rfl (by decide) rfl ?_
          refine w_iload rfl l6 rfl ?_
          refine w_istore rfl (by decide) rfl ?_
          refine w_goto (pc2 := 45) rfl (by decide) ?_
          exact ih.1 (z + 1) ro q q m A N nn ((t ++ [(pk A p q, 1000 * f + 1 + N p, ro, decide (la = p))])) _ _ (by exact l0) (by exact (congrArg x_k2 l1)) (by exact rfl) (by exact (congrArg x_k2 l3)) (by exact rfl) (by exact rfl) (by exact (fr_A (fr_A (fr_L hfr (by omega)) (by omega)) (by omega))) (by exact h5) (by exact hA) (by exact hN) (by exact hn) (by exact n0) (by exact n1) (by exact n2) (by exact hc) (by exact e7) (by exact e8) (by exact e9) (by intro y hy; show (w_u (sL T 254) z x) y = _ ∧ (w_u (sA T 255) z (((1000 * f) + 1) + (sA T 253 p))) y = _ ∧ (w_u (sA T 256) z ((2 * ro) + 0)) y = _; rw [w_u_ne _ _ (by omega), w_u_ne _ _ (by omega), w_u_ne _ _ (by omega)]; exact hlow y hy) (by refine rrep_app hr (x := (pk A p q, 1000 * f + 1 + N p, ro, decide (la = p))) ?_ ?_ ?_; (show (w_u (sL T 254) z x) = _; rw [hz, hx]); (show (w_u (sA T 255) z (((1000 * f) + 1) + (sA T 253 p))) = _; rw [hz, hN]); (show (w_u (sA T 256) z ((2 * ro) + 0)) = w_u (sA T 256) (161 * sv S 249 12 + t.length) (2 * ro + zB (decide (la = p))); rw [hz]; first | rw [zB_t (decide_eq_true c225)] | rw [zB_f (decide_eq_false c225)])) (by rw [hz, List.length_append]; simp; omega) (by rw [List.length_append]; simp; omega) (by rw [List.length_append]; simp; omega) (by omega) (by omega) (by omega) (by omega) (by omega) (by rw [decide_eq_true rfl]; exact he) (by omega)
        · skip
          refine w_iconst rfl rfl ?_
          refine w_goto (pc2 := 233) rfl (by decide) ?_
          refine w_iadd rfl rfl ?_
          refine w_iaS (f := sA T 256) rfl sh_256 (by omega) (by omega) (by decide) (rA_ne (by decide)) rfl ?_
          refine w_iinc rfl l2 (by decide) rfl ?_
          refine w_iload rfl l6 rfl ?_
          refine w_istore rfl (by decide) rfl ?_
          refine w_iload rfl l6 rfl ?_
          refine w_istore rfl (by decide) rfl ?_
          refine w_goto (pc2 := 45) rfl (by decide) ?_
          exact ih.1 (z + 1) ro q q m A N nn ((t ++ [(pk A p q, 1000 * f + 1 + N p, ro, decide (la = p))])) _ _ (by exact l0) (by exact (congrArg x_k2 l1)) (by exact rfl) (by exact (congrArg x_k2 l3)) (by exact rfl) (by exact rfl) (by exact (fr_A (fr_A (fr_L hfr (by omega)) (by omega)) (by omega))) (by exact h5) (by exact hA) (by exact hN) (by exact hn) (by exact n0) (by exact n1) (by exact n2) (by exact hc) (by exact e7) (by exact e8) (by exact e9) (by intro y hy; show (w_u (sL T 254) z x) y = _ ∧ (w_u (sA T 255) z (((1000 * f) + 1) + (sA T 253 p))) y = _ ∧ (w_u (sA T 256) z ((2 * ro) + 1)) y = _; rw [w_u_ne _ _ (by omega), w_u_ne _ _ (by omega), w_u_ne _ _ (by omega)]; exact hlow y hy) (by refine rrep_app hr (x := (pk A p q, 1000 * f + 1 + N p, ro, decide (la = p))) ?_ ?_ ?_; (show (w_u (sL T 254) z x) = _; rw [hz, hx]); (show (w_u (sA T 255) z (((1000 * f) + 1) + (sA T 253 p))) = _; rw [hz, hN]); (show (w_u (sA T 256) z ((2 * ro) + 1)) = w_u (sA T 256) (161 * sv S 249 12 + t.length) (2 * ro + zB (decide (la = p))); rw [hz]; first | rw [zB_t (decide_eq_true c225)] | rw [zB_f (decide_eq_false c225)])) (by rw [hz, List.length_append]; simp; omega) (by rw [List.length_append]; simp; omega) (by rw [List.length_append]; simp; omega) (by omega) (by omega) (by omega) (by omega) (by omega) (by rw [decide_eq_true rfl]; exact he) (by omega)
      · skip
        have hck := hc k (by omega) (by omega)
        have wsp := wstep (c := A k) kw.1 kw.2 (by omega) hck.1 hck.2
        refine w_lload rfl l7 rfl ?_
        refine w_bipush rfl (by decide) rfl ?_
        refine w_zlshl rfl rfl ?_
        refine w_aload_n rfl l0 rfl ?_
        refine w_getR rfl rfl sh_249 rfl rfl ?_
        refine w_iload rfl l9 rfl ?_
        refine w_iald (z := sA T 252 k) rfl sh_252 (by omega) (by omega) (by decide) rfl rfl ?_
        have g4 := kg (k) (by omega) (by omega)
        refine w_zi2l rfl rfl ?_
        refine w_lor rfl rfl ?_
        refine w_lstore rfl (by decide) rfl ?_
        refine w_iinc rfl l9 (by decide) rfl ?_
        refine w_goto (pc2 := 155) rfl (by decide) ?_
        exact ih.2 z ro la p q ((lshl x 7) ||| (li2l (sA T 252 k))) (k + 1) m A N nn t _ _ (by exact l0) (by exact l1) (by exact l2) (by exact l3) (by exact l4) (by exact l5) (by exact (congrArg x_k2 l6)) (by exact rfl) (by exact rfl) (by exact hfr) (by exact h5) (by exact hA) (by exact hN) (by exact hn) (by exact n0) (by exact n1) (by exact n2) (by exact hc) (by exact e7) (by exact e8) (by exact e9) (by exact hlow) (by exact hr) (by exact hz) (by omega) (by exact t1) (by omega) (by omega) (by omega) (by omega) (by exact he) (by omega) (by rw [hA, wsp.1, wsp.2.1, show (k + 1 - p).toNat = (k - p).toNat + 1 by omega]; exact ⟨by omega, wsp.2.2⟩) (by rw [← ke, show (q - k).toNat = (q - (k + 1)).toNat + 1 by omega, hA, wsp.1]; rfl) (by omega)
theorem r_read {sc : x_S} {d : Nat} {S : w_S} {f : Int} (f0 : 0 ≤ f) (f2 : f ≤ 2) (h0 : 0 ≤ sA S 251 f) (h1 : sA S 251 f ≤ 160) (hg : ∀ i, 0 ≤ i → i < sA S 251 f → 0 ≤ sA S 250 (160 * f + i) ∧ sA S 250 (160 * f + i) < 128) (l0 : 0 ≤ sv S 249 12) (l3 : sv S 249 12 ≤ 3) (hd : 2 ≤ d) : w_T sc d 127 0 (x_en 0 [.ref 249, .int (iZ f)]) [] S (fun v S2 => v = some (.int (iZ (scan (fun k => sA S 250 (160 * f + k)) (sA S 251 f) f).1)) ∧ fr (fun a => a = 249 ∨ (252 ≤ a ∧ a ≤ 259)) S S2 ∧ (∀ k, ¬ k = 5 → sv S2 249 k = sv S 249 k) ∧ ((scan (fun k => sA S 250 (160 * f + k)) (sA S 251 f) f).1 = 0 → rrep S2 (sv S 249 12) (scan (fun k => sA S 250 (160 * f + k)) (sA S 251 f) f).2 ∧ (scan (fun k => sA S 250 (160 * f + k)) (sA S 251 f) f).2.length ≤ 160 ∧ sA S2 257 = w_u (sA S 257) (sv S 249 12) (161 * (sv S 249 12)) ∧ sA S2 258 = w_u (sA S 258) (sv S 249 12) (161 * (sv S 249 12) + (scan (fun k => sA S 250 (160 * f + k)) (sA S 251 f) f).2.length) ∧ sA S2 259 = w_u (sA S 259) (sv S 249 12) (sv S 249 16) ∧ ∀ x, x < 161 * (sv S 249 12) → sL S2 254 x = sL S 254 x ∧ sA S2 255 x = sA S 255 x ∧ sA S2 256 x = sA S 256 x)) := by
  refine w_aload_n rfl rfl rfl ?_
  refine w_iload_n rfl rfl rfl ?_
  refine w_CV (as := [.int (iZ f)]) (r := []) rfl rfl rfl rfl sh_249 (Nat.le_of_ble_eq_true rfl) (Nat.le_of_ble_eq_true rfl) (by omega) rfl (r_join (S := S) (f := f) f0 f2 h0 h1 hg (by omega)) ?_
  rintro _ S1 ⟨rfl, f1, g5, e1, e2, y0, y1, y2⟩
  show w_T _ _ 127 5 _ [] _ _
  have e12 : sv S1 249 12 = sv S 249 12 := g5 12 (by decide)
  have e16 : sv S1 249 16 = sv S 249 16 := g5 16 (by decide)
  have e1 := pair_eq e1
  refine w_sipush rfl (by decide) rfl ?_
  refine w_aload_n rfl rfl rfl ?_
  refine w_getI (z := sv S1 249 12) rfl rfl sh_249 rfl rfl rfl ?_
  refine w_imul rfl rfl ?_
  refine w_istore_n rfl (by decide) rfl ?_
  refine w_aload_n rfl rfl rfl ?_
  refine w_getR rfl rfl sh_249 rfl rfl ?_
  refine w_aload_n rfl rfl rfl ?_
  refine w_getI (z := sv S1 249 12) rfl rfl sh_249 rfl rfl rfl ?_
  refine w_iload_n rfl rfl rfl ?_
  refine w_iaS (f := sA S1 257) rfl sh_257 (by omega) (by omega) (by decide) rfl rfl ?_
  refine w_aload_n rfl rfl rfl ?_
  refine w_getR rfl rfl sh_249 rfl rfl ?_
  refine w_aload_n rfl rfl rfl ?_
  refine w_getI (z := sv S1 249 12) rfl rfl sh_249 rfl rfl rfl ?_
  refine w_aload_n rfl rfl rfl ?_
  refine w_getI (z := sv S1 249 16) rfl rfl sh_249 rfl rfl rfl ?_
  refine w_iaS (f := sA S1 259) rfl sh_259 (by omega) (by omega) (by decide) (rA_ne (by decide)) rfl ?_
  refine w_iconst rfl rfl ?_
  refine w_istore_n rfl (by decide) rfl ?_
  refine w_iconst rfl rfl ?_
  refine w_istore rfl (by decide) rfl ?_
  refine w_iconst rfl rfl ?_
  refine w_istore rfl (by decide) rfl ?_
  exact (r_read_c f0 f2 h0 h1 hg l0 l3 hd _).1 (161 * (sv S1 249 12)) 0 ((-1)) 0 161 (sA S1 252) (sA S1 253) (sv S1 249 5) ([]) _ _ rfl rfl rfl rfl rfl rfl (by exact (fr_A (fr_A (fr_mono f1 (by omega)) (by omega)) (by omega))) (by exact g5) (by rfl) (by rfl) (by rfl) (by exact y0) (by exact y1) (by have tz := tri_z (g := fun k => sA S 250 (160 * f + k)) hg 161 0 0 0 (sA S 252) (sA S 253) (Int.le_refl 0) h0 (Int.le_refl 0) (Int.le_refl 0) (Int.le_refl 0) (Int.le_refl 0) (fun j a b => absurd b (by omega)) (fun j a b => absurd b (by omega)); have jz := jnl_z (n := (tri (fun k => sA S 250 (160 * f + k)) (sA S 251 f) 161 0 0 (sA S 252) (sA S 253) 0).2.2) 161 0 0 _ _ (Int.le_refl 0) (Int.le_refl 0) (Int.le_refl 0) tz.1 (fun j a b => ⟨(tz.2.2.1 j a b).1, Int.le_trans (tz.2.2.1 j a b).2 h1⟩) tz.2.2.2; rw [e1.1, e1.2]; exact jfn_z jz.1 (by omega)) (by exact y2) (by show w_u (sA S1 257) (sv S1 249 12) (161 * sv S1 249 12) = _; rw [fr_gA f1 (by decide), e12]) (by show sA S1 258 = _; rw [fr_gA f1 (by decide)]) (by show w_u (sA S1 259) (sv S1 249 12) (sv S1 249 16) = _; rw [fr_gA f1 (by decide), e12, e16]) (by intro x hx; show sL S1 254 x = _ ∧ sA S1 255 x = _ ∧ sA S1 256 x = _; rw [fr_gL f1 (by decide), fr_gA f1 (by decide), fr_gA f1 (by decide)]; exact ⟨rfl, rfl, rfl⟩) (by intro j a b; exact absurd b (by simp; omega)) (by rw [List.length_nil]; simp; omega) (by rw [List.length_nil]; simp) (by simp) (by omega) (by omega) (by omega) (by omega) (by omega) (by have tz := tri_z (g := fun k => sA S 250 (160 * f + k)) hg 161 0 0 0 (sA S 252) (sA S 253) (Int.le_refl 0) h0 (Int.le_refl 0) (Int.le_refl 0) (Int.le_refl 0) (Int.le_refl 0) (fun j a b => absurd b (by omega)) (fun j a b => absurd b (by omega)); have jz := jnl_z (n := (tri (fun k => sA S 250 (160 * f + k)) (sA S 251 f) 161 0 0 (sA S 252) (sA S 253) 0).2.2) 161 0 0 _ _ (Int.le_refl 0) (Int.le_refl 0) (Int.le_refl 0) tz.1 (fun j a b => ⟨(tz.2.2.1 j a b).1, Int.le_trans (tz.2.2.1 j a b).2 h1⟩) tz.2.2.2; rw [decide_eq_false (by decide : ¬ (-1 : Int) = 0)]; refine Eq.trans ?_ (scan_of (g := fun k => sA S 250 (160 * f + k)) (fl := f) h0 h1 hg rfl e1.1 e1.2); exact spl_cong (fun _ _ _ => rfl) (fun j a b c => e2 j a (by have fz := jfn_cong (p := jnl (tri (fun k => sA S 250 (160 * f + k)) (sA S 251 f) 161 0 0 (sA S 252) (sA S 253) 0).2.2 161 0 0 (tri (fun k => sA S 250 (160 * f + k)) (sA S 251 f) 161 0 0 (sA S 252) (sA S 253) 0).1 (tri (fun k => sA S 250 (160 * f + k)) (sA S 251 f) 161 0 0 (sA S 252) (sA S 253) 0).2.1) (q := jnl (tri (fun k => sA S 250 (160 * f + k)) (sA S 251 f) 161 0 0 (sA S 252) (sA S 253) 0).2.2 161 0 0 (tri (fun k => sA S 250 (160 * f + k)) (sA S 251 f) 161 0 0 (sA S 252) (sA S 253) 0).1 (tri (fun k => sA S 250 (160 * f + k)) (sA S 251 f) 161 0 0 (sA S 252) (sA S 253) 0).2.1) rfl jz.1 (fun _ _ _ => rfl); rw [e1.1] at c; rw [e1.2] at b; exact fz.2.2.1 j a b c)) 161 0 0 false [] (Int.le_refl 0)) (Nat.lt_succ_self _)
