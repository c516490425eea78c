/-! The class takes operands, operators between them, expressions. -/
theorem bind_id {o : PR} (h : ∀ r, o = some r → r.2.2 = 0) : o = o.bind (fun r => some (r.1, [] ++ r.2.1, 0)) := by
  cases o with
  | none => rfl
  | some r =>
    show some r = some (r.1, [] ++ r.2.1, 0)
    rw [List.nil_append, ← h r rfl]
theorem px_z {Y : Int → Int64} {D : List Dcl} {n : Int} : ∀ (m md : Nat) (dp a : Int) (acc : List Nd) (r : Int × List Nd × Int), ¬ md = 7 → px Y D n m md dp a acc = some r → r.2.2 = 0
  | 0, md, dp, a, acc, r, h, hp => nns hp
  | m + 1, md, dp, a, acc, r, h, hp => by
    by_cases c0 : md = 0
    · subst c0
      rw [px_0] at hp
      split at hp
      · exact nns hp
      · obtain ⟨q, hq, h2⟩ := bind_some hp
        split at h2
        · obtain ⟨s, hs, h3⟩ := bind_some h2
          cases h3
          rfl
        · cases h2
          rfl
    · by_cases c4 : md ≤ 4
      · rw [px_b c0 c4] at hp
        obtain ⟨q, hq, h2⟩ := bind_some hp
        exact px_z m _ _ _ _ r (by omega) h2
      · by_cases c5 : md = 5
        · subst c5
          rw [px_5] at hp
          split at hp
          · obtain ⟨s, hs, h3⟩ := bind_some hp
            cases h3
            rfl
          · split at hp
            · split at hp
              · obtain ⟨s, hs, h3⟩ := bind_some hp
                cases h3
                rfl
              · exact nns hp
            · split at hp
              · obtain ⟨q, hq, h2⟩ := bind_some hp
                split at h2
                · exact px_z m _ _ _ _ r (by decide) h2
                · exact nns h2
              · split at hp
                · exact px_z m _ _ _ _ r (by decide) hp
                · split at hp
                  · exact px_z m _ _ _ _ r (by decide) hp
                  · exact nns hp
        · by_cases c6 : md = 6
          · subst c6
            rw [px_6] at hp
            split at hp
            · obtain ⟨q, hq, h2⟩ := bind_some hp
              split at h2
              · exact px_z m _ _ _ _ r (by decide) h2
              · exact nns h2
            · split at hp
              · split at hp
                · exact px_z m _ _ _ _ r (by decide) hp
                · obtain ⟨q, hq, h2⟩ := bind_some hp
                  exact px_z m _ _ _ _ r (by decide) h2
              · cases hp
                rfl
          · rw [px, if_neg c0, if_neg c4, if_neg c5, if_neg c6, if_neg h] at hp
            split at hp
            · obtain ⟨q, hq, h2⟩ := bind_some hp
              exact px_z m _ _ _ _ r h h2
            · cases hp
              rfl
theorem prm_r {Y : Int → Int64} {D : List Dcl} {n : Int} (hY : ∀ k, n ≤ k → Y k = 0) {m : Nat} {dp a : Int} {q : Int × List Nd × Int} (a0 : 0 ≤ a) (h : a ≤ n) (hp : prm Y D n m dp a = some q) : a + 1 ≤ q.1 ∧ q.1 ≤ n ∧ (q.2.1.length : Int) ≤ q.1 - a := by
  have lt : ∀ {k : Int} {x : Int64}, ¬ x = 0 → Y k = x → k < n := fun {k x} hx hk => by
    by_cases c : k < n
    · exact c
    · exact absurd ((hY k (by omega)).symm.trans hk) (fun z => hx z.symm)
  unfold prm at hp
  split at hp
  · rename_i c
    have al := lt (by decide) c
    obtain ⟨s, hs, h2⟩ := bind_some hp
    have i1 := px_r hY m 0 (dp + 1) (a + 1) [] s (by decide) (by omega) hs
    rw [if_neg (by decide)] at i1
    split at h2
    · rename_i c2
      have ql := lt (by decide) c2
      cases h2
      exact ⟨by show a + 1 ≤ s.1 + 1; omega, by show s.1 + 1 ≤ n; omega, by show (s.2.1.length : Int) ≤ s.1 + 1 - a; omega⟩
    · exact nns h2
  · split at hp
    · rename_i c
      have al : a < n := by
        by_cases z : a < n
        · exact z
        · rw [hY a (by omega), wk_0] at c
          exact absurd c (by decide)
      cases hp
      exact ⟨Int.le_refl _, by show a + 1 ≤ n; omega, by show (1 : Int) ≤ a + 1 - a; omega⟩
    · split at hp
      · rename_i c
        have al : a < n := by
          by_cases z : a < n
          · exact z
          · have c := c.1
            rw [hY a (by omega), wk_0] at c
            exact absurd c (by decide)
        cases hp
        exact ⟨Int.le_refl _, by show a + 1 ≤ n; omega, by show (1 : Int) ≤ a + 1 - a; omega⟩
      · exact nns hp
theorem cst_r {Y : Int → Int64} {D : List Dcl} {n : Int} (hY : ∀ k, n ≤ k → Y k = 0) {a : Int} {q : Int × List Nd × Int} (h40 : Y a = 40) (ht : isT D (Y (a + 1)) = true) (a0 : 0 ≤ a) (hp : cst Y n a = some q) : a + 3 ≤ q.1 ∧ q.1 ≤ n ∧ (q.2.1.length : Int) ≤ q.1 - a := by
  have al2 : a + 1 < n := by
    by_cases z : a + 1 < n
    · exact z
    · rw [hY (a + 1) (by omega), isT_0] at ht
      exact Bool.noConfusion ht
  have sr := stN_r (Y := Y) (n := n) (a := a + 2) (by omega)
  unfold cst at hp
  split at hp
  · rename_i c
    have sl : stN Y n (a + 2) < n := by
      by_cases z : stN Y n (a + 2) < n
      · exact z
      · rw [hY _ (by omega)] at c
        exact absurd c (by decide)
    cases hp
    refine ⟨by show a + 3 ≤ stN Y n (a + 2) + 1; omega, by show stN Y n (a + 2) + 1 ≤ n; omega, ?_⟩
    show ((((14, a, 2 + (stN Y n (a + 2) - (a + 2))) :: (3, a + 1, 0) :: stF (stN Y n (a + 2) - (a + 2)).toNat (a + 2)).length : Nat) : Int) ≤ stN Y n (a + 2) + 1 - a
    rw [List.length_cons, List.length_cons, stF_len]
    omega
  · exact nns hp
theorem c_opd_c {sc : x_S} {d : Nat} {S : w_S} {nn : Int} {Y : Int → Int64} {D : List Dcl} {a : Int} {M : List Nd} {dp : Int} {m : Nat} (H : ∀ m2, m2 < m → CE sc m2) (hw : PW S nn Y D a M) (hn0 : 0 < nn) (hdp : 0 ≤ dp) (hdp2 : dp ≤ 12) (hfu : 20 * (nn + 1 - a) + 7 ≤ (m : Int)) (hrm : (M.length : Int) + (nn - a) ≤ 156) (hdd : 16 * (13 - dp) + 34 ≤ (d : Int)) (hd : 0 ≤ d) : ∀ n : Nat, (∀ (t : Int) (a2 : Int) (N : List Nd) (mm : Nat) (U : w_S) (lv : x_L) (l0 : lv 0 = some (.ref 234)) (l1 : lv 1 = some (.int (iZ dp))) (l2 : lv 2 = some (.int (iZ t))) (hfr : fr (fun a => 234 ≤ a ∧ a ≤ 242) S U) (hwU : PW U nn Y D a2 (M ++ N)) (hres : (px Y D nn m 5 dp a []) = (px Y D nn mm 5 dp a2 []).bind (fun r => some (r.1, N ++ r.2.1, 0))) (t0 : 0 ≤ t) (t2 : t ≤ a2 - a) (hmm : mm ≤ m) (hfu2 : 20 * (nn + 1 - a2) + 7 ≤ (mm : Int)) (hN : (N.length : Int) ≤ a2 - a) (hm : (nn - a2).toNat + 1 < n), w_T sc d 58 2 lv [] U (XR S nn Y D M (px Y D nn m 5 dp a []))) ∧ (∀ (a2 : Int) (N : List Nd) (mm : Nat) (U : w_S) (lv : x_L) (l0 : lv 0 = some (.ref 234)) (l1 : lv 1 = some (.int (iZ dp))) (hfr : fr (fun a => 234 ≤ a ∧ a ≤ 242) S U) (hwU : PW U nn Y D a2 (M ++ N)) (hres : (px Y D nn m 5 dp a []) = (px Y D nn mm 5 dp a2 []).bind (fun r => some (r.1, N ++ r.2.1, 0))) (hmm : mm ≤ m) (hfu2 : 20 * (nn + 1 - a2) + 7 ≤ (mm : Int)) (hN : (N.length : Int) ≤ a2 - a) (hp : prf (Y a2) = false) (hc : ¬ (Y a2 = 40 ∧ isT D (Y (a2 + 1)) = true)) (hm : 0 < n), w_T sc d 58 111 lv [] U (XR S nn Y D M (px Y D nn m 5 dp a []))) := by
  intro n
  induction n with
  | zero => exact ⟨fun t a2 N mm U lv l0 l1 l2 hfr hwU hres t0 t2 hmm hfu2 hN hm => absurd hm (Nat.not_lt_zero _), fun a2 N mm U lv l0 l1 hfr hwU hres hmm hfu2 hN hp hc hm => absurd hm (Nat.not_lt_zero _)⟩
  | succ n ih =>
    refine ⟨?_, ?_⟩
    · skip
      intro t a2 N mm U lv l0 l1 l2 hfr hwU hres t0 t2 hmm hfu2 hN hm
      have hnn := hw.1.1
      have hn1 := hw.1.2.1
      have ha0 := hw.2.2.2.2.1
      have ha1 := hw.2.2.2.2.2
      have hY : ∀ k : Int, nn ≤ k → Y k = 0 := hw.1.2.2.2.2.2
      have ha0U := hwU.2.2.2.2.1
      have ha1U := hwU.2.2.2.2.2
      refine w_iload_n rfl l2 rfl ?_
      refine w_aload_n rfl l0 rfl ?_
      refine w_getI (z := nn) rfl rfl sh_234 rfl hwU.1.2.2.1 rfl ?_
      refine w_ic_ge (pc2 := 111) (pc3 := 10) rfl (by decide) rfl ⟨by omega, by omega⟩ ⟨by omega, by omega⟩ (fun c7 => ?_) (fun c7 => ?_)
      · skip
        exact ih.2 a2 N mm _ _ l0 l1 (by exact hfr) (by exact hwU) (by exact hres) (by omega) (by omega) (by exact hN) (by first | exact hpf | (rw [hY a2 (by omega)]; decide)) (by first | exact fun z => c77 z.1 | exact fun z => by rw [c90] at z; exact Bool.noConfusion z.2 | exact fun z => by rw [hY a2 (by omega)] at z; exact absurd z.1 (by decide)) (by omega)
      · skip
        refine w_aload_n rfl l0 rfl ?_
        refine w_getR rfl rfl sh_234 rfl rfl ?_
        refine w_aload_n rfl l0 rfl ?_
        refine w_getI (z := a2) rfl rfl sh_234 rfl hwU.2.2.1 rfl ?_
        refine w_lald (z := Y a2) rfl sh_239 (by omega) (by omega) (by decide) (hwU.1.2.2.2.1 _ (by omega) (by omega)).1 rfl ?_
        refine w_lstore_n rfl (by decide) rfl ?_
        obtain ⟨mm2, rfl⟩ := fuel1 hfu2 (by omega)
        refine w_lload_n rfl rfl rfl ?_
        refine w_ldc2 (v := 45) rfl rfl rfl ?_
        refine w_l_eq (pc2 := 44) (pc3 := 28) rfl rfl (by decide) rfl (fun c25 => ?_) (fun c25 => ?_)
        · skip
          have hal : a2 < nn := by first | exact Y_lt hwU (by decide) c25 | exact Y_lt hwU (by decide) c33 | exact Y_lt hwU (by decide) c41
          have hpt : prf (Y a2) = true := by unfold prf; first | exact decide_eq_true (Or.inl c25) | exact decide_eq_true (Or.inr (Or.inl c33)) | exact decide_eq_true (Or.inr (Or.inr c41))
          refine w_aload_n rfl l0 rfl ?_
          refine w_getR rfl rfl sh_234 rfl rfl ?_
          refine w_bipush rfl (by decide) rfl ?_
          refine w_aload_n rfl l0 rfl ?_
          refine w_getI (z := a2) rfl rfl sh_234 rfl hwU.2.2.1 rfl ?_
          refine w_iconst rfl rfl ?_
          refine w_CV (as := [.int (iZ 13), .int (iZ a2), .int (iZ 1)]) (r := []) rfl rfl rfl rfl sh_235 (Nat.le_of_ble_eq_true rfl) (Nat.le_of_ble_eq_true rfl) (by omega) rfl (c_tadd (M := M ++ N) hwU.2.2.2.1 (by (try simp only [List.length_append, List.length_cons, List.length_nil, stF_len]); omega) (by omega)) ?_
          rintro _ V1 ⟨rfl, g1, ht1⟩
          show w_T _ _ 58 58 _ [.int (iZ (((M ++ N).length : Int)))] _ _
          have hw1 := PW_tree hwU g1 ht1
          have f1 := fr_trans hfr (fr_mono g1 (fun a h => by omega))
          refine w_pop rfl rfl rfl ?_
          have hw2 : PW V1 nn Y D a2 (M ++ (N ++ [(13, a2, 1)])) := by
            have q := hw1
            simpa [List.append_assoc] using q
          have f2 : fr (fun a => 234 ≤ a ∧ a ≤ 242) S V1 := f1
          generalize V1 = V2 at hw2 f2 ⊢
          refine w_aload_n rfl l0 rfl ?_
          refine w_dup rfl rfl rfl ?_
          refine w_getI (z := a2) rfl rfl sh_234 rfl hw2.2.2.1 rfl ?_
          refine w_iconst rfl rfl ?_
          refine w_iadd rfl rfl ?_
          refine w_putf rfl rfl sh_234 rfl rfl (by decide) rfl ?_
          refine w_goto (pc2 := 105) rfl (by decide) ?_
          refine w_iinc rfl (congrArg x_k2 l2) (by decide) rfl ?_
          refine w_goto (pc2 := 2) rfl (by decide) ?_
          exact ih.1 (t + 1) ((a2 + 1)) (((N ++ [(13, a2, 1)]))) mm2 _ _ (by exact l0) (by exact (congrArg x_k2 l1)) (by exact rfl) (by exact (fr_v f2 (by omega))) (by have q := (PW_at hw2 (b := a2 + 1) (by omega) (by omega)); simpa [List.append_assoc] using q) (by rw [hres, px_5a hpt]; cases px Y D nn mm2 5 dp (a2 + 1) [] with | none => rfl | some r => (show some (r.1, N ++ ((13, a2, 1) :: r.2.1), (0 : Int)) = some (r.1, N ++ [(13, a2, 1)] ++ r.2.1, 0); rw [List.append_assoc]; rfl)) (by omega) (by omega) (by omega) (by omega) (by (try simp only [List.length_append, List.length_cons, List.length_nil, stF_len]); omega) (by omega)
        · skip
          refine w_lload_n rfl rfl rfl ?_
          refine w_ldc2 (v := 42) rfl rfl rfl ?_
          refine w_l_eq (pc2 := 44) (pc3 := 36) rfl rfl (by decide) rfl (fun c33 => ?_) (fun c33 => ?_)
          · skip
            have hal : a2 < nn := by first | exact Y_lt hwU (by decide) c25 | exact Y_lt hwU (by decide) c33 | exact Y_lt hwU (by decide) c41
            have hpt : prf (Y a2) = true := by unfold prf; first | exact decide_eq_true (Or.inl c25) | exact decide_eq_true (Or.inr (Or.inl c33)) | exact decide_eq_true (Or.inr (Or.inr c41))
            refine w_aload_n rfl l0 rfl ?_
            refine w_getR rfl rfl sh_234 rfl rfl ?_
            refine w_bipush rfl (by decide) rfl ?_
            refine w_aload_n rfl l0 rfl ?_
            refine w_getI (z := a2) rfl rfl sh_234 rfl hwU.2.2.1 rfl ?_
            refine w_iconst rfl rfl ?_
            refine w_CV (as := [.int (iZ 13), .int (iZ a2), .int (iZ 1)]) (r := []) rfl rfl rfl rfl sh_235 (Nat.le_of_ble_eq_true rfl) (Nat.le_of_ble_eq_true rfl) (by omega) rfl (c_tadd (M := M ++ N) hwU.2.2.2.1 (by (try simp only [List.length_append, List.length_cons, List.length_nil, stF_len]); omega) (by omega)) ?_
            rintro _ V3 ⟨rfl, g3, ht3⟩
            show w_T _ _ 58 58 _ [.int (iZ (((M ++ N).length : Int)))] _ _
            have hw3 := PW_tree hwU g3 ht3
            have f3 := fr_trans hfr (fr_mono g3 (fun a h => by omega))
            refine w_pop rfl rfl rfl ?_
            have hw4 : PW V3 nn Y D a2 (M ++ (N ++ [(13, a2, 1)])) := by
              have q := hw3
              simpa [List.append_assoc] using q
            have f4 : fr (fun a => 234 ≤ a ∧ a ≤ 242) S V3 := f3
            generalize V3 = V4 at hw4 f4 ⊢
            refine w_aload_n rfl l0 rfl ?_
            refine w_dup rfl rfl rfl ?_
            refine w_getI (z := a2) rfl rfl sh_234 rfl hw4.2.2.1 rfl ?_
            refine w_iconst rfl rfl ?_
            refine w_iadd rfl rfl ?_
            refine w_putf rfl rfl sh_234 rfl rfl (by decide) rfl ?_
            refine w_goto (pc2 := 105) rfl (by decide) ?_
            refine w_iinc rfl (congrArg x_k2 l2) (by decide) rfl ?_
            refine w_goto (pc2 := 2) rfl (by decide) ?_
            exact ih.1 (t + 1) ((a2 + 1)) (((N ++ [(13, a2, 1)]))) mm2 _ _ (by exact l0) (by exact (congrArg x_k2 l1)) (by exact rfl) (by exact (fr_v f4 (by omega))) (by have q := (PW_at hw4 (b := a2 + 1) (by omega) (by omega)); simpa [List.append_assoc] using q) (by rw [hres, px_5a hpt]; cases px Y D nn mm2 5 dp (a2 + 1) [] with | none => rfl | some r => (show some (r.1, N ++ ((13, a2, 1) :: r.2.1), (0 : Int)) = some (r.1, N ++ [(13, a2, 1)] ++ r.2.1, 0); rw [List.append_assoc]; rfl)) (by omega) (by omega) (by omega) (by omega) (by (try simp only [List.length_append, List.length_cons, List.length_nil, stF_len]); omega) (by omega)
          · skip
            refine w_lload_n rfl rfl rfl ?_
            refine w_ldc2 (v := 38) rfl rfl rfl ?_
            refine w_l_ne (pc2 := 72) (pc3 := 44) rfl rfl (by decide) rfl (fun c41 => ?_) (fun c41 => ?_)
            · skip
              have hpf : prf (Y a2) = false := by unfold prf; exact decide_eq_false (by rintro (z | z | z); exact c25 z; exact c33 z; exact c41 z)
              refine w_lload_n rfl rfl rfl ?_
              refine w_ldc2 (v := 40) rfl rfl rfl ?_
              refine w_l_ne (pc2 := 111) (pc3 := 80) rfl rfl (by decide) rfl (fun c77 => ?_) (fun c77 => ?_)
              · skip
                exact ih.2 a2 N ((mm2 + 1)) _ _ l0 l1 (by exact hfr) (by exact hwU) (by exact hres) (by omega) (by omega) (by exact hN) (by first | exact hpf | (rw [hY a2 (by omega)]; decide)) (by first | exact fun z => c77 z.1 | exact fun z => by rw [c90] at z; exact Bool.noConfusion z.2 | exact fun z => by rw [hY a2 (by omega)] at z; exact absurd z.1 (by decide)) (by omega)
              · skip
                refine w_aload_n rfl l0 rfl ?_
                refine w_aload_n rfl l0 rfl ?_
                refine w_getI (z := a2) rfl rfl sh_234 rfl hwU.2.2.1 rfl ?_
                refine w_iconst rfl rfl ?_
                refine w_iadd rfl rfl ?_
                refine w_CV (as := [.int (iZ (a2 + 1))]) (r := []) rfl rfl rfl rfl sh_234 (Nat.le_of_ble_eq_true rfl) (Nat.le_of_ble_eq_true rfl) (by omega) rfl (c_ist (i := a2 + 1) hwU (by omega) (by omega) (by omega)) ?_
                rintro _ _ ⟨rfl, hS⟩
                rw [hS]
                show w_T _ _ 58 90 _ [.int (iZ (zB (isT D (Y (a2 + 1)))))] _ _
                refine w_b_ne (pc2 := 96) (pc3 := 93) rfl (by decide) rfl (fun c90 => ?_) (fun c90 => ?_)
                · skip
                  refine w_aload_n rfl l0 rfl ?_
                  rcases e97 : cst Y nn a2 with _ | q97
                  · skip
                    refine w_CV (as := []) (r := []) rfl rfl rfl rfl sh_234 (Nat.le_of_ble_eq_true rfl) (Nat.le_of_ble_eq_true rfl) (by omega) rfl (w_mono (c_cst hwU (by (try simp only [List.length_append, List.length_cons, List.length_nil, stF_len]); omega) (by rw [← c77]) c90 (by omega)) (fun v S2 h => h.1 e97)) ?_
                    rintro _ V5 ⟨rfl, g5⟩
                    show w_T _ _ 58 100 _ [.int (iZ 0)] _ _
                    have f5 := fr_trans hfr g5
                    refine w_if_ne (pc2 := 105) (pc3 := 103) rfl (by decide) rfl ⟨by decide, by decide⟩ (fun hc => absurd hc (by decide)) (fun _ => ?_)
                    refine w_iconst rfl rfl ?_
                    refine w_zret rfl rfl (by decide) ?_
                    refine XR_n ?_ f5
                    rw [hres, px_5c hpf ⟨c77, c90⟩, e97]
                    rfl
                  · skip
                    refine w_CV (as := []) (r := []) rfl rfl rfl rfl sh_234 (Nat.le_of_ble_eq_true rfl) (Nat.le_of_ble_eq_true rfl) (by omega) rfl (w_mono (c_cst hwU (by (try simp only [List.length_append, List.length_cons, List.length_nil, stF_len]); omega) (by rw [← c77]) c90 (by omega)) (fun v S2 h => h.2 _ e97)) ?_
                    rintro _ V6 ⟨rfl, g6, hw6⟩
                    show w_T _ _ 58 100 _ [.int (iZ 1)] _ _
                    have f6 := fr_trans hfr g6
                    have r97 := cst_r hY c77 c90 ha0U e97
                    refine w_if_ne (pc2 := 105) (pc3 := 103) rfl (by decide) rfl ⟨by decide, by decide⟩ (fun _ => ?_) (fun hc => absurd hc (by decide))
                    refine w_iinc rfl (congrArg x_k2 l2) (by decide) rfl ?_
                    refine w_goto (pc2 := 2) rfl (by decide) ?_
                    exact ih.1 (t + 1) ((q97.1)) ((N ++ q97.2.1)) mm2 _ _ (by exact l0) (by exact (congrArg x_k2 l1)) (by exact rfl) (by exact f6) (by have q := hw6; simpa [List.append_assoc] using q) (by rw [hres, px_5c hpf ⟨c77, c90⟩, e97]; show ((px Y D nn mm2 5 dp q97.1 []).bind _).bind _ = _; cases px Y D nn mm2 5 dp q97.1 [] with | none => rfl | some r => (show some (r.1, N ++ (q97.2.1 ++ r.2.1), (0 : Int)) = some (r.1, N ++ q97.2.1 ++ r.2.1, 0); rw [List.append_assoc])) (by omega) (by omega) (by omega) (by omega) (by (try simp only [List.length_append, List.length_cons, List.length_nil, stF_len]); omega) (by omega)
                · skip
                  refine w_goto (pc2 := 111) rfl (by decide) ?_
                  exact ih.2 a2 N ((mm2 + 1)) _ _ l0 l1 (by exact hfr) (by exact hwU) (by exact hres) (by omega) (by omega) (by exact hN) (by first | exact hpf | (rw [hY a2 (by omega)]; decide)) (by first | exact fun z => c77 z.1 | exact fun z => by rw [c90] at z; exact Bool.noConfusion z.2 | exact fun z => by rw [hY a2 (by omega)] at z; exact absurd z.1 (by decide)) (by omega)
            · skip
              have hal : a2 < nn := by first | exact Y_lt hwU (by decide) c25 | exact Y_lt hwU (by decide) c33 | exact Y_lt hwU (by decide) c41
              have hpt : prf (Y a2) = true := by unfold prf; first | exact decide_eq_true (Or.inl c25) | exact decide_eq_true (Or.inr (Or.inl c33)) | exact decide_eq_true (Or.inr (Or.inr c41))
              refine w_aload_n rfl l0 rfl ?_
              refine w_getR rfl rfl sh_234 rfl rfl ?_
              refine w_bipush rfl (by decide) rfl ?_
              refine w_aload_n rfl l0 rfl ?_
              refine w_getI (z := a2) rfl rfl sh_234 rfl hwU.2.2.1 rfl ?_
              refine w_iconst rfl rfl ?_
              refine w_CV (as := [.int (iZ 13), .int (iZ a2), .int (iZ 1)]) (r := []) rfl rfl rfl rfl sh_235 (Nat.le_of_ble_eq_true rfl) (Nat.le_of_ble_eq_true rfl) (by omega) rfl (c_tadd (M := M ++ N) hwU.2.2.2.1 (by (try simp only [List.length_append, List.length_cons, List.length_nil, stF_len]); omega) (by omega)) ?_
              rintro _ V7 ⟨rfl, g7, ht7⟩
              show w_T _ _ 58 58 _ [.int (iZ (((M ++ N).length : Int)))] _ _
              have hw7 := PW_tree hwU g7 ht7
              have f7 := fr_trans hfr (fr_mono g7 (fun a h => by omega))
              refine w_pop rfl rfl rfl ?_
              have hw8 : PW V7 nn Y D a2 (M ++ (N ++ [(13, a2, 1)])) := by
                have q := hw7
                simpa [List.append_assoc] using q
              have f8 : fr (fun a => 234 ≤ a ∧ a ≤ 242) S V7 := f7
              generalize V7 = V8 at hw8 f8 ⊢
              refine w_aload_n rfl l0 rfl ?_
              refine w_dup rfl rfl rfl ?_
              refine w_getI (z := a2) rfl rfl sh_234 rfl hw8.2.2.1 rfl ?_
              refine w_iconst rfl rfl ?_
              refine w_iadd rfl rfl ?_
              refine w_putf rfl rfl sh_234 rfl rfl (by decide) rfl ?_
              refine w_goto (pc2 := 105) rfl (by decide) ?_
              refine w_iinc rfl (congrArg x_k2 l2) (by decide) rfl ?_
              refine w_goto (pc2 := 2) rfl (by decide) ?_
              exact ih.1 (t + 1) ((a2 + 1)) (((N ++ [(13, a2, 1)]))) mm2 _ _ (by exact l0) (by exact (congrArg x_k2 l1)) (by exact rfl) (by exact (fr_v f8 (by omega))) (by have q := (PW_at hw8 (b := a2 + 1) (by omega) (by omega)); simpa [List.append_assoc] using q) (by rw [hres, px_5a hpt]; cases px Y D nn mm2 5 dp (a2 + 1) [] with | none => rfl | some r => (show some (r.1, N ++ ((13, a2, 1) :: r.2.1), (0 : Int)) = some (r.1, N ++ [(13, a2, 1)] ++ r.2.1, 0); rw [List.append_assoc]; rfl)) (by omega) (by omega) (by omega) (by omega) (by (try simp only [List.length_append, List.length_cons, List.length_nil, stF_len]); omega) (by omega)
    · skip
      intro a2 N mm U lv l0 l1 hfr hwU hres hmm hfu2 hN hp hc hm
      have hnn := hw.1.1
      have hn1 := hw.1.2.1
      have ha0 := hw.2.2.2.2.1
      have ha1 := hw.2.2.2.2.2
      have hY : ∀ k : Int, nn ≤ k → Y k = 0 := hw.1.2.2.2.2.2
      have ha0U := hwU.2.2.2.2.1
      have ha1U := hwU.2.2.2.2.2
      refine w_aload_n rfl l0 rfl ?_
      refine w_getR rfl rfl sh_234 rfl rfl ?_
      refine w_getI (z := ((M ++ N).length : Int)) rfl rfl sh_235 rfl hwU.2.2.2.1.1 rfl ?_
      refine w_istore_n rfl (by decide) rfl ?_
      obtain ⟨mm2, rfl⟩ := fuel1 hfu2 (by omega)
      refine w_aload_n rfl l0 rfl ?_
      refine w_iload_n rfl (congrArg x_k2 l1) rfl ?_
      rcases e121 : prm Y D nn mm2 dp (a2) with _ | q121
      · skip
        refine w_CV (as := [.int (iZ dp)]) (r := []) rfl rfl rfl rfl sh_234 (Nat.le_of_ble_eq_true rfl) (Nat.le_of_ble_eq_true rfl) (by omega) rfl (w_mono (c_prm (m := mm2) (H mm2 (by omega)) hwU hn0 hdp hdp2 (by omega) (by (try simp only [List.length_append, List.length_cons, List.length_nil, stF_len]); omega) (by omega) (by omega)) (fun v S2 h => h.1 e121)) ?_
        rintro _ V9 ⟨rfl, g9⟩
        show w_T _ _ 58 124 _ [.int (iZ 0)] _ _
        have f9 := fr_trans hfr g9
        refine w_if_eq (pc2 := 140) (pc3 := 127) rfl (by decide) rfl ⟨by decide, by decide⟩ (fun _ => ?_) (fun hc => absurd hc (by decide))
        refine w_iconst rfl rfl ?_
        refine w_zret rfl rfl (by decide) ?_
        refine XR_n ?_ f9
        rw [hres, px_5p hp hc, e121]
        first
          | rfl
          | (show (px Y D nn mm2 6 dp q121.1 q121.2.1).bind _ = _; rw [e130]; rfl)
      · skip
        refine w_CV (as := [.int (iZ dp)]) (r := []) rfl rfl rfl rfl sh_234 (Nat.le_of_ble_eq_true rfl) (Nat.le_of_ble_eq_true rfl) (by omega) rfl (w_mono (c_prm (m := mm2) (H mm2 (by omega)) hwU hn0 hdp hdp2 (by omega) (by (try simp only [List.length_append, List.length_cons, List.length_nil, stF_len]); omega) (by omega) (by omega)) (fun v S2 h => h.2 _ e121)) ?_
        rintro _ V10 ⟨rfl, g10, hw10⟩
        show w_T _ _ 58 124 _ [.int (iZ 1)] _ _
        have f10 := fr_trans hfr g10
        have r121 := prm_r hY (by omega) (by omega) e121
        refine w_if_eq (pc2 := 140) (pc3 := 127) rfl (by decide) rfl ⟨by decide, by decide⟩ (fun hc => absurd hc (by decide)) (fun _ => ?_)
        refine w_aload_n rfl l0 rfl ?_
        refine w_iload_n rfl rfl rfl ?_
        refine w_iload_n rfl (congrArg x_k2 l1) rfl ?_
        rcases e130 : px Y D nn mm2 6 dp q121.1 q121.2.1 with _ | q130
        · skip
          refine w_CV (as := [.int (iZ (((M ++ N).length : Int))), .int (iZ dp)]) (r := []) rfl rfl rfl rfl sh_234 (Nat.le_of_ble_eq_true rfl) (Nat.le_of_ble_eq_true rfl) (by omega) rfl (w_mono (c_pfx (M := M ++ N) (acc := q121.2.1) (m := mm2) (fun m2 h2 => H m2 (by omega)) hw10 hn0 hdp hdp2 (by omega) (by (try simp only [List.length_append, List.length_cons, List.length_nil, stF_len]); omega) (by omega) (by omega)) (fun v S2 h => h.1 e130)) ?_
          rintro _ V11 ⟨rfl, g11⟩
          show w_T _ _ 58 133 _ [.int (iZ 0)] _ _
          have f11 := fr_trans f10 g11
          refine w_if_eq (pc2 := 140) (pc3 := 136) rfl (by decide) rfl ⟨by decide, by decide⟩ (fun _ => ?_) (fun hc => absurd hc (by decide))
          refine w_iconst rfl rfl ?_
          refine w_zret rfl rfl (by decide) ?_
          refine XR_n ?_ f11
          rw [hres, px_5p hp hc, e121]
          first
            | rfl
            | (show (px Y D nn mm2 6 dp q121.1 q121.2.1).bind _ = _; rw [e130]; rfl)
        · skip
          refine w_CV (as := [.int (iZ (((M ++ N).length : Int))), .int (iZ dp)]) (r := []) rfl rfl rfl rfl sh_234 (Nat.le_of_ble_eq_true rfl) (Nat.le_of_ble_eq_true rfl) (by omega) rfl (w_mono (c_pfx (M := M ++ N) (acc := q121.2.1) (m := mm2) (fun m2 h2 => H m2 (by omega)) hw10 hn0 hdp hdp2 (by omega) (by (try simp only [List.length_append, List.length_cons, List.length_nil, stF_len]); omega) (by omega) (by omega)) (fun v S2 h => h.2 _ e130)) ?_
          rintro _ V12 ⟨rfl, g12, hw12⟩
          show w_T _ _ 58 133 _ [.int (iZ 1)] _ _
          have f12 := fr_trans f10 g12
          refine w_if_eq (pc2 := 140) (pc3 := 136) rfl (by decide) rfl ⟨by decide, by decide⟩ (fun hc => absurd hc (by decide)) (fun _ => ?_)
          refine w_iconst rfl rfl ?_
          refine w_goto (pc2 := 141) rfl (by decide) ?_
          refine w_zret rfl rfl (by decide) ?_
          refine XR_s (q := (q130.1, N ++ q130.2.1, 0)) ?_ f12 (by have q := hw12; simpa [List.append_assoc] using q)
          rw [hres, px_5p hp hc, e121]
          show (px Y D nn mm2 6 dp q121.1 q121.2.1).bind _ = _
          rw [e130]
          rfl
theorem c_opd {sc : x_S} {d : Nat} {S : w_S} {nn : Int} {Y : Int → Int64} {D : List Dcl} {a : Int} {M : List Nd} {dp : Int} {m : Nat} (H : ∀ m2, m2 < m → CE sc m2) (hw : PW S nn Y D a M) (hn0 : 0 < nn) (hdp : 0 ≤ dp) (hdp2 : dp ≤ 12) (hfu : 20 * (nn + 1 - a) + 7 ≤ (m : Int)) (hrm : (M.length : Int) + (nn - a) ≤ 156) (hdd : 16 * (13 - dp) + 34 ≤ (d : Int)) (hd : 0 ≤ d) : w_T sc d 58 0 (x_en 0 [.ref 234, .int (iZ dp)]) [] S (XR S nn Y D M (px Y D nn m 5 dp a [])) := by
  have hnn := hw.1.1
  have hn1 := hw.1.2.1
  have ha0 := hw.2.2.2.2.1
  have ha1 := hw.2.2.2.2.2
  have f0 : fr (fun a => 234 ≤ a ∧ a ≤ 242) S S := fr_refl _ _
  have hY : ∀ k : Int, nn ≤ k → Y k = 0 := hw.1.2.2.2.2.2
  refine w_iconst rfl rfl ?_
  refine w_istore_n rfl (by decide) rfl ?_
  exact (c_opd_c H hw hn0 hdp hdp2 hfu hrm hdd hd _).1 0 a ([]) m _ _ rfl rfl rfl (by exact f0) (by rw [List.append_nil]; exact hw) (by exact bind_id (fun r hr => px_z m 5 dp a [] r (by decide) hr)) (by omega) (by omega) (by omega) (by omega) (by (try simp only [List.length_append, List.length_cons, List.length_nil, stF_len]); omega) (Nat.lt_succ_self _)
def CB (sc : x_S) (s m : Nat) : Prop := ∀ (d : Nat) (S : w_S) (nn : Int) (Y : Int → Int64) (D : List Dcl) (a : Int) (M : List Nd) (dp : Int), PW S nn Y D a M → 0 < nn → 0 ≤ dp → dp ≤ 12 → 20 * (nn + 1 - a) + 12 - s ≤ m → (M.length : Int) + (nn - a) ≤ 156 → 16 * (13 - dp) + 40 - s ≤ d → w_T sc d 56 0 (x_en 0 [.ref 234, .int (iZ s), .int (iZ dp)]) [] S (XR S nn Y D M (px Y D nn m s dp a []))
theorem c_b5 {sc : x_S} {d : Nat} {S : w_S} {nn : Int} {Y : Int → Int64} {D : List Dcl} {a : Int} {M : List Nd} {dp : Int} {m : Nat} (H : ∀ m2, m2 < m → CE sc m2) (hw : PW S nn Y D a M) (hn0 : 0 < nn) (hdp : 0 ≤ dp) (hdp2 : dp ≤ 12) (hfu : 20 * (nn + 1 - a) + 12 - 5 ≤ (m : Int)) (hrm : (M.length : Int) + (nn - a) ≤ 156) (hdd : 16 * (13 - dp) + 40 - 5 ≤ (d : Int)) (hd : 0 ≤ d) : w_T sc d 56 0 (x_en 0 [.ref 234, .int (iZ 5), .int (iZ dp)]) [] S (XR S nn Y D M (px Y D nn m 5 dp a [])) := by
  have hnn := hw.1.1
  have hn1 := hw.1.2.1
  have ha0 := hw.2.2.2.2.1
  have ha1 := hw.2.2.2.2.2
  have f0 : fr (fun a => 234 ≤ a ∧ a ≤ 242) S S := fr_refl _ _
  have hY : ∀ k : Int, nn ≤ k → Y k = 0 := hw.1.2.2.2.2.2
  refine w_iload_n rfl rfl rfl ?_
  refine w_iconst rfl rfl ?_
  refine w_ic_le (pc2 := 11) (pc3 := 5) rfl (by decide) rfl ⟨by decide, by decide⟩ ⟨by decide, by decide⟩ (fun hc => absurd hc (by decide)) (fun _ => ?_)
  refine w_aload_n rfl rfl rfl ?_
  refine w_iload_n rfl rfl rfl ?_
  rcases e7 : (px Y D nn m 5 dp a []) with _ | q7
  · skip
    refine w_CV (as := [.int (iZ dp)]) (r := []) rfl rfl rfl rfl sh_234 (Nat.le_of_ble_eq_true rfl) (Nat.le_of_ble_eq_true rfl) (by omega) rfl (w_mono (c_opd H hw hn0 hdp hdp2 (by omega) hrm (by omega) (by omega)) (fun v S2 h => h.1 e7)) ?_
    rintro _ V1 ⟨rfl, g1⟩
    show w_T _ _ 56 10 _ [.int (iZ 0)] _ _
    have f1 := fr_trans f0 g1
    refine w_zret rfl rfl (by decide) ?_
    exact XR_n (by first | exact e7 | rfl) f1
  · skip
    refine w_CV (as := [.int (iZ dp)]) (r := []) rfl rfl rfl rfl sh_234 (Nat.le_of_ble_eq_true rfl) (Nat.le_of_ble_eq_true rfl) (by omega) rfl (w_mono (c_opd H hw hn0 hdp hdp2 (by omega) hrm (by omega) (by omega)) (fun v S2 h => h.2 _ e7)) ?_
    rintro _ V2 ⟨rfl, g2, hw2⟩
    show w_T _ _ 56 10 _ [.int (iZ 1)] _ _
    have f2 := fr_trans f0 g2
    refine w_zret rfl rfl (by decide) ?_
    exact XR_s (by first | exact e7 | rfl) f2 hw2
theorem c_bs_c {sc : x_S} {d : Nat} {S : w_S} {nn : Int} {Y : Int → Int64} {D : List Dcl} {a : Int} {M : List Nd} {dp : Int} {s m : Nat} (HB : ∀ m2, m2 < m → CB sc (s + 1) m2) (s0 : 1 ≤ s) (s4 : s ≤ 4) (hw : PW S nn Y D a M) (hn0 : 0 < nn) (hdp : 0 ≤ dp) (hdp2 : dp ≤ 12) (hfu : 20 * (nn + 1 - a) + 12 - s ≤ (m : Int)) (hrm : (M.length : Int) + (nn - a) ≤ 156) (hdd : 16 * (13 - dp) + 40 - s ≤ (d : Int)) (hd : 0 ≤ d) : ∀ n : Nat, (∀ (t : Int) (a2 : Int) (N : List Nd) (mm : Nat) (U : w_S) (lv : x_L) (l0 : lv 0 = some (.ref 234)) (l1 : lv 1 = some (.int (iZ ((s : Int))))) (l2 : lv 2 = some (.int (iZ dp))) (l3 : lv 3 = some (.int (iZ ((M.length : Int))))) (l4 : lv 4 = some (.int (iZ t))) (hfr : fr (fun a => 234 ≤ a ∧ a ≤ 242) S U) (hwU : PW U nn Y D a2 (M ++ N)) (hres : (px Y D nn m s dp a []) = (px Y D nn mm (s + 1) dp a2 []).bind (fun q => px Y D nn mm (s + 10) dp q.1 (N ++ q.2.1))) (t0 : 0 ≤ t) (t2 : 2 * t ≤ a2 - a) (hmm : mm < m) (hfu2 : 20 * (nn + 1 - a2) + 11 - s ≤ (mm : Int)) (hN : (N.length : Int) ≤ a2 - a) (hm : (nn - a2).toNat < n), w_T sc d 56 22 lv [] U (XR S nn Y D M (px Y D nn m s dp a []))) := by
  intro n
  induction n with
  | zero => exact fun t a2 N mm U lv l0 l1 l2 l3 l4 hfr hwU hres t0 t2 hmm hfu2 hN hm => absurd hm (Nat.not_lt_zero _)
  | succ n ih =>
    intro t a2 N mm U lv l0 l1 l2 l3 l4 hfr hwU hres t0 t2 hmm hfu2 hN hm
    have hnn := hw.1.1
    have hn1 := hw.1.2.1
    have ha0 := hw.2.2.2.2.1
    have ha1 := hw.2.2.2.2.2
    have hY : ∀ k : Int, nn ≤ k → Y k = 0 := hw.1.2.2.2.2.2
    have ha0U := hwU.2.2.2.2.1
    have ha1U := hwU.2.2.2.2.2
    refine w_iload rfl l4 rfl ?_
    refine w_aload_n rfl l0 rfl ?_
    refine w_getI (z := nn) rfl rfl sh_234 rfl hwU.1.2.2.1 rfl ?_
    refine w_ic_ge (pc2 := 93) (pc3 := 31) rfl (by decide) rfl ⟨by omega, by omega⟩ ⟨by omega, by omega⟩ (fun c28 => ?_) (fun c28 => ?_)
    · omega
    · skip
      refine w_aload_n rfl l0 rfl ?_
      refine w_iload_n rfl l1 rfl ?_
      refine w_iconst rfl rfl ?_
      refine w_iadd rfl rfl ?_
      rw [show (s : Int) + 1 = ((s + 1 : Nat) : Int) by omega]
      refine w_iload_n rfl l2 rfl ?_
      rcases e36 : px Y D nn mm (s + 1) dp a2 [] with _ | q36
      · skip
        refine w_CV (as := [.int (iZ (((s + 1 : Nat) : Int))), .int (iZ dp)]) (r := []) rfl rfl rfl rfl sh_234 (Nat.le_of_ble_eq_true rfl) (Nat.le_of_ble_eq_true rfl) (by omega) rfl (w_mono (HB mm (by omega) _ _ nn Y D a2 (M ++ N) dp hwU hn0 hdp hdp2 (by omega) (by (try simp only [List.length_append, List.length_cons, List.length_nil, stF_len]); omega) (by omega)) (fun v S2 h => h.1 e36)) ?_
        rintro _ V1 ⟨rfl, g1⟩
        show w_T _ _ 56 39 _ [.int (iZ 0)] _ _
        have f1 := fr_trans hfr g1
        refine w_if_ne (pc2 := 44) (pc3 := 42) rfl (by decide) rfl ⟨by decide, by decide⟩ (fun hc => absurd hc (by decide)) (fun _ => ?_)
        refine w_iconst rfl rfl ?_
        refine w_zret rfl rfl (by decide) ?_
        refine XR_n ?_ f1
        rw [hres, e36]
        rfl
      · skip
        refine w_CV (as := [.int (iZ (((s + 1 : Nat) : Int))), .int (iZ dp)]) (r := []) rfl rfl rfl rfl sh_234 (Nat.le_of_ble_eq_true rfl) (Nat.le_of_ble_eq_true rfl) (by omega) rfl (w_mono (HB mm (by omega) _ _ nn Y D a2 (M ++ N) dp hwU hn0 hdp hdp2 (by omega) (by (try simp only [List.length_append, List.length_cons, List.length_nil, stF_len]); omega) (by omega)) (fun v S2 h => h.2 _ e36)) ?_
        rintro _ V2 ⟨rfl, g2, hw2⟩
        show w_T _ _ 56 39 _ [.int (iZ 1)] _ _
        have f2 := fr_trans hfr g2
        have r36 := px_r hY mm (s + 1) dp a2 [] q36 (by omega) (by omega) e36
        rw [if_neg (by omega)] at r36
        have r36b := r36.2.2.2.1.resolve_left (by omega)
        refine w_if_ne (pc2 := 44) (pc3 := 42) rfl (by decide) rfl ⟨by decide, by decide⟩ (fun _ => ?_) (fun hc => absurd hc (by decide))
        have hsr := sto_r (Y q36.1)
        obtain ⟨mm2, rfl⟩ : ∃ k : Nat, mm = k + 1 := ⟨mm - 1, by omega⟩
        refine w_aload_n rfl l0 rfl ?_
        refine w_getR rfl rfl sh_234 rfl rfl ?_
        refine w_aload_n rfl l0 rfl ?_
        refine w_getI (z := q36.1) rfl rfl sh_234 rfl hw2.2.2.1 rfl ?_
        refine w_lald (z := Y q36.1) rfl sh_239 (by omega) (by omega) (by decide) (hw2.1.2.2.2.1 _ (by omega) (by omega)).1 rfl ?_
        refine w_CS (as := [.long (Y q36.1)]) (r := []) rfl rfl rfl rfl (Nat.le_of_ble_eq_true rfl) (Nat.le_of_ble_eq_true rfl) (by omega) rfl (c_sto (x := Y q36.1) (by omega)) ?_
        rintro _ _ ⟨rfl, hS⟩
        rw [hS]
        show w_T _ _ 56 56 _ [.int (iZ (sto (Y q36.1)))] _ _
        refine w_iload_n rfl l1 rfl ?_
        refine w_ic_eq (pc2 := 62) (pc3 := 60) rfl (by decide) rfl ⟨by omega, by omega⟩ ⟨by omega, by omega⟩ (fun c57 => ?_) (fun c57 => ?_)
        · skip
          have hal : q36.1 < nn := by
            by_cases z : q36.1 < nn
            · exact z
            · have z2 : sto (0 : Int64) = 0 := by decide
              rw [hY _ (by omega), z2] at c57
              omega
          refine w_aload_n rfl l0 rfl ?_
          refine w_getR rfl rfl sh_234 rfl rfl ?_
          refine w_iload_n rfl l3 rfl ?_
          refine w_bipush rfl (by decide) rfl ?_
          refine w_aload_n rfl l0 rfl ?_
          refine w_getI (z := q36.1) rfl rfl sh_234 rfl hw2.2.2.1 rfl ?_
          refine w_iconst rfl rfl ?_
          refine w_CV (as := [.int (iZ ((M.length : Int))), .int (iZ 12), .int (iZ q36.1), .int (iZ 2)]) (r := []) rfl rfl rfl rfl sh_235 (Nat.le_of_ble_eq_true rfl) (Nat.le_of_ble_eq_true rfl) (by omega) rfl (c_tins (M := M) (N := (N ++ q36.2.1)) (by rw [← List.append_assoc]; exact hw2.2.2.2.1) (by (try simp only [List.length_append, List.length_cons, List.length_nil, stF_len]); omega) (by omega)) ?_
          rintro _ V3 ⟨rfl, g3, ht3⟩
          show w_T _ _ 56 77 _ [] _ _
          have hw3 := PW_tree hw2 g3 ht3
          have f3 := fr_trans f2 (fr_mono g3 (fun a h => by omega))
          refine w_aload_n rfl l0 rfl ?_
          refine w_dup rfl rfl rfl ?_
          refine w_getI (z := q36.1) rfl rfl sh_234 rfl hw3.2.2.1 rfl ?_
          refine w_iconst rfl rfl ?_
          refine w_iadd rfl rfl ?_
          refine w_putf rfl rfl sh_234 rfl rfl (by decide) rfl ?_
          refine w_iinc rfl l4 (by decide) rfl ?_
          refine w_goto (pc2 := 22) rfl (by decide) ?_
          exact ih (t + 1) ((q36.1 + 1)) (((12, q36.1, 2) :: ((N ++ q36.2.1)))) mm2 _ _ (by exact l0) (by exact l1) (by exact l2) (by exact (congrArg x_k2 l3)) (by exact rfl) (by exact (fr_v f3 (by omega))) (by exact (PW_at hw3 (b := q36.1 + 1) (by omega) (by omega))) (by rw [hres, e36]; show px Y D nn (mm2 + 1) (s + 10) dp q36.1 (N ++ q36.2.1) = _; rw [px_l (by omega), if_pos (by rw [c57]; omega), show s + 10 - 9 = s + 1 by omega]) (by omega) (by omega) (by omega) (by omega) (by (try simp only [List.length_append, List.length_cons, List.length_nil, stF_len]); omega) (by omega)
        · skip
          refine w_iconst rfl rfl ?_
          refine w_zret rfl rfl (by decide) ?_
          refine XR_s (q := (q36.1, N ++ q36.2.1, 0)) ?_ f2 (by have q := hw2; simpa [List.append_assoc] using q)
          rw [hres, e36]
          show px Y D nn (mm2 + 1) (s + 10) dp q36.1 (N ++ q36.2.1) = _
          rw [px_l (by omega), if_neg (by omega)]
theorem c_bs {sc : x_S} {d : Nat} {S : w_S} {nn : Int} {Y : Int → Int64} {D : List Dcl} {a : Int} {M : List Nd} {dp : Int} {s m : Nat} (HB : ∀ m2, m2 < m → CB sc (s + 1) m2) (s0 : 1 ≤ s) (s4 : s ≤ 4) (hw : PW S nn Y D a M) (hn0 : 0 < nn) (hdp : 0 ≤ dp) (hdp2 : dp ≤ 12) (hfu : 20 * (nn + 1 - a) + 12 - s ≤ (m : Int)) (hrm : (M.length : Int) + (nn - a) ≤ 156) (hdd : 16 * (13 - dp) + 40 - s ≤ (d : Int)) (hd : 0 ≤ d) : w_T sc d 56 0 (x_en 0 [.ref 234, .int (iZ ((s : Int))), .int (iZ dp)]) [] S (XR S nn Y D M (px Y D nn m s dp a [])) := by
  have hnn := hw.1.1
  have hn1 := hw.1.2.1
  have ha0 := hw.2.2.2.2.1
  have ha1 := hw.2.2.2.2.2
  have f0 : fr (fun a => 234 ≤ a ∧ a ≤ 242) S S := fr_refl _ _
  have hY : ∀ k : Int, nn ≤ k → Y k = 0 := hw.1.2.2.2.2.2
  obtain ⟨mm0, rfl⟩ := fuel1 hfu (by omega)
  refine w_iload_n rfl rfl rfl ?_
  refine w_iconst rfl rfl ?_
  refine w_ic_le (pc2 := 11) (pc3 := 5) rfl (by decide) rfl ⟨by omega, by omega⟩ ⟨by decide, by decide⟩ (fun c2 => ?_) (fun c2 => ?_)
  · skip
    refine w_aload_n rfl rfl rfl ?_
    refine w_getR rfl rfl sh_234 rfl rfl ?_
    refine w_getI (z := (M.length : Int)) rfl rfl sh_235 rfl hw.2.2.2.1.1 rfl ?_
    refine w_istore_n rfl (by decide) rfl ?_
    refine w_iconst rfl rfl ?_
    refine w_istore rfl (by decide) rfl ?_
    exact (c_bs_c HB s0 s4 hw hn0 hdp hdp2 hfu hrm hdd hd _) 0 a ([]) mm0 _ _ rfl rfl rfl rfl rfl (by exact f0) (by rw [List.append_nil]; exact hw) (by rw [px_b (by omega) s4]; rfl) (by omega) (by omega) (by omega) (by omega) (by (try simp only [List.length_append, List.length_cons, List.length_nil, stF_len]); omega) (Nat.lt_succ_self _)
  · omega
theorem c_exp_c {sc : x_S} {d : Nat} {S : w_S} {nn : Int} {Y : Int → Int64} {D : List Dcl} {a : Int} {M : List Nd} {dp : Int} {m : Nat} (HB : ∀ m2, m2 < m → CB sc 1 m2) (hw : PW S nn Y D a M) (hn0 : 0 < nn) (hdp : 0 ≤ dp) (hdp2 : dp ≤ 13) (hfu : 20 * (nn + 1 - a) + 12 ≤ (m : Int)) (hrm : (M.length : Int) + (nn - a) ≤ 156) (hdd : 16 * (13 - dp) + 40 ≤ (d : Int)) (hd : 0 ≤ d) : ∀ n : Nat, (∀ (t : Int) (a2 : Int) (N : List Nd) (mm : Nat) (U : w_S) (lv : x_L) (l0 : lv 0 = some (.ref 234)) (l1 : lv 1 = some (.int (iZ dp))) (l2 : lv 2 = some (.int (iZ t))) (h12 : dp ≤ 12) (hfr : fr (fun a => 234 ≤ a ∧ a ≤ 242) S U) (hwU : PW U nn Y D a2 (M ++ N)) (hres : (px Y D nn m 0 dp a []) = (px Y D nn mm 0 dp a2 []).bind (fun r => some (r.1, N ++ r.2.1, 0))) (t0 : 0 ≤ t) (t2 : 2 * t ≤ a2 - a) (hmm : mm ≤ m) (hfu2 : 20 * (nn + 1 - a2) + 12 ≤ (mm : Int)) (hN : (N.length : Int) ≤ a2 - a) (hm : (nn - a2).toNat < n), w_T sc d 55 10 lv [] U (XR S nn Y D M (px Y D nn m 0 dp a []))) := by
  intro n
  induction n with
  | zero => exact fun t a2 N mm U lv l0 l1 l2 h12 hfr hwU hres t0 t2 hmm hfu2 hN hm => absurd hm (Nat.not_lt_zero _)
  | succ n ih =>
    intro t a2 N mm U lv l0 l1 l2 h12 hfr hwU hres t0 t2 hmm hfu2 hN hm
    have hnn := hw.1.1
    have hn1 := hw.1.2.1
    have ha0 := hw.2.2.2.2.1
    have ha1 := hw.2.2.2.2.2
    have hY : ∀ k : Int, nn ≤ k → Y k = 0 := hw.1.2.2.2.2.2
    have ha0U := hwU.2.2.2.2.1
    have ha1U := hwU.2.2.2.2.2
    refine w_iload_n rfl l2 rfl ?_
    refine w_aload_n rfl l0 rfl ?_
    refine w_getI (z := nn) rfl rfl sh_234 rfl hwU.1.2.2.1 rfl ?_
    refine w_ic_ge (pc2 := 86) (pc3 := 18) rfl (by decide) rfl ⟨by omega, by omega⟩ ⟨by omega, by omega⟩ (fun c15 => ?_) (fun c15 => ?_)
    · omega
    · skip
      obtain ⟨mm2, rfl⟩ := fuel1 hfu2 (by omega)
      refine w_aload_n rfl l0 rfl ?_
      refine w_getR rfl rfl sh_234 rfl rfl ?_
      refine w_getI (z := ((M ++ N).length : Int)) rfl rfl sh_235 rfl hwU.2.2.2.1.1 rfl ?_
      refine w_istore_n rfl (by decide) rfl ?_
      refine w_aload_n rfl l0 rfl ?_
      refine w_iconst rfl rfl ?_
      refine w_iload_n rfl l1 rfl ?_
      rcases e29 : px Y D nn mm2 1 dp a2 [] with _ | q29
      · skip
        refine w_CV (as := [.int (iZ 1), .int (iZ dp)]) (r := []) rfl rfl rfl rfl sh_234 (Nat.le_of_ble_eq_true rfl) (Nat.le_of_ble_eq_true rfl) (by omega) rfl (w_mono (HB mm2 (by omega) _ _ nn Y D a2 (M ++ N) dp hwU hn0 hdp (by omega) (by omega) (by (try simp only [List.length_append, List.length_cons, List.length_nil, stF_len]); omega) (by omega)) (fun v S2 h => h.1 e29)) ?_
        rintro _ V1 ⟨rfl, g1⟩
        show w_T _ _ 55 32 _ [.int (iZ 0)] _ _
        have f1 := fr_trans hfr g1
        refine w_if_ne (pc2 := 37) (pc3 := 35) rfl (by decide) rfl ⟨by decide, by decide⟩ (fun hc => absurd hc (by decide)) (fun _ => ?_)
        refine w_iconst rfl rfl ?_
        refine w_zret rfl rfl (by decide) ?_
        refine XR_n ?_ f1
        rw [hres, px_0, if_neg (by omega), e29]
        rfl
      · skip
        refine w_CV (as := [.int (iZ 1), .int (iZ dp)]) (r := []) rfl rfl rfl rfl sh_234 (Nat.le_of_ble_eq_true rfl) (Nat.le_of_ble_eq_true rfl) (by omega) rfl (w_mono (HB mm2 (by omega) _ _ nn Y D a2 (M ++ N) dp hwU hn0 hdp (by omega) (by omega) (by (try simp only [List.length_append, List.length_cons, List.length_nil, stF_len]); omega) (by omega)) (fun v S2 h => h.2 _ e29)) ?_
        rintro _ V2 ⟨rfl, g2, hw2⟩
        show w_T _ _ 55 32 _ [.int (iZ 1)] _ _
        have f2 := fr_trans hfr g2
        have r29 := px_r hY mm2 1 dp a2 [] q29 (by omega) (by omega) e29
        rw [if_neg (by omega)] at r29
        have r29b := r29.2.2.2.1.resolve_left (by omega)
        refine w_if_ne (pc2 := 37) (pc3 := 35) rfl (by decide) rfl ⟨by decide, by decide⟩ (fun _ => ?_) (fun hc => absurd hc (by decide))
        refine w_aload_n rfl l0 rfl ?_
        refine w_getR rfl rfl sh_234 rfl rfl ?_
        refine w_aload_n rfl l0 rfl ?_
        refine w_getI (z := q29.1) rfl rfl sh_234 rfl hw2.2.2.1 rfl ?_
        refine w_lald (z := Y q29.1) rfl sh_239 (by omega) (by omega) (by decide) (hw2.1.2.2.2.1 _ (by omega) (by omega)).1 rfl ?_
        refine w_ldc2 (v := 61) rfl rfl rfl ?_
        refine w_l_eq (pc2 := 55) (pc3 := 53) rfl rfl (by decide) rfl (fun c50 => ?_) (fun c50 => ?_)
        · skip
          have hal := Y_lt hw2 (by decide) c50
          refine w_aload_n rfl l0 rfl ?_
          refine w_getR rfl rfl sh_234 rfl rfl ?_
          refine w_iload_n rfl rfl rfl ?_
          refine w_bipush rfl (by decide) rfl ?_
          refine w_aload_n rfl l0 rfl ?_
          refine w_getI (z := q29.1) rfl rfl sh_234 rfl hw2.2.2.1 rfl ?_
          refine w_iconst rfl rfl ?_
          refine w_CV (as := [.int (iZ (((M ++ N).length : Int))), .int (iZ 12), .int (iZ q29.1), .int (iZ 2)]) (r := []) rfl rfl rfl rfl sh_235 (Nat.le_of_ble_eq_true rfl) (Nat.le_of_ble_eq_true rfl) (by omega) rfl (c_tins (M := M ++ N) (N := q29.2.1) (by exact hw2.2.2.2.1) (by (try simp only [List.length_append, List.length_cons, List.length_nil, stF_len]); omega) (by omega)) ?_
          rintro _ V3 ⟨rfl, g3, ht3⟩
          show w_T _ _ 55 70 _ [] _ _
          have hw3 := PW_tree hw2 g3 ht3
          have f3 := fr_trans f2 (fr_mono g3 (fun a h => by omega))
          have hw4 : PW V3 nn Y D q29.1 (M ++ (N ++ (12, q29.1, 2) :: q29.2.1)) := by
            have q := hw3
            simpa [List.append_assoc] using q
          have f4 : fr (fun a => 234 ≤ a ∧ a ≤ 242) S V3 := f3
          generalize V3 = V4 at hw4 f4 ⊢
          refine w_aload_n rfl l0 rfl ?_
          refine w_dup rfl rfl rfl ?_
          refine w_getI (z := q29.1) rfl rfl sh_234 rfl hw4.2.2.1 rfl ?_
          refine w_iconst rfl rfl ?_
          refine w_iadd rfl rfl ?_
          refine w_putf rfl rfl sh_234 rfl rfl (by decide) rfl ?_
          refine w_iinc rfl (congrArg x_k2 l2) (by decide) rfl ?_
          refine w_goto (pc2 := 10) rfl (by decide) ?_
          exact ih (t + 1) ((q29.1 + 1)) (((N ++ (12, q29.1, 2) :: q29.2.1))) mm2 _ _ (by exact l0) (by exact (congrArg x_k2 l1)) (by exact rfl) (by omega) (by exact (fr_v f4 (by omega))) (by exact (PW_at hw4 (b := q29.1 + 1) (by omega) (by omega))) (by rw [hres, px_0, if_neg (by omega), e29]; show (if Y q29.1 = 61 then _ else _ : PR).bind _ = _; rw [if_pos c50]; cases px Y D nn mm2 0 dp (q29.1 + 1) [] with | none => rfl | some r => (show some (r.1, N ++ ((12, q29.1, 2) :: q29.2.1 ++ r.2.1), (0 : Int)) = some (r.1, N ++ (12, q29.1, 2) :: q29.2.1 ++ r.2.1, 0); rw [List.append_assoc])) (by omega) (by omega) (by omega) (by omega) (by (try simp only [List.length_append, List.length_cons, List.length_nil, stF_len]); omega) (by omega)
        · skip
          refine w_iconst rfl rfl ?_
          refine w_zret rfl rfl (by decide) ?_
          refine XR_s (q := (q29.1, N ++ q29.2.1, 0)) ?_ f2 (by have q := hw2; simpa [List.append_assoc] using q)
          rw [hres, px_0, if_neg (by omega), e29]
          show (if Y q29.1 = 61 then _ else _ : PR).bind _ = _
          rw [if_neg c50]
          rfl
theorem c_exp {sc : x_S} {d : Nat} {S : w_S} {nn : Int} {Y : Int → Int64} {D : List Dcl} {a : Int} {M : List Nd} {dp : Int} {m : Nat} (HB : ∀ m2, m2 < m → CB sc 1 m2) (hw : PW S nn Y D a M) (hn0 : 0 < nn) (hdp : 0 ≤ dp) (hdp2 : dp ≤ 13) (hfu : 20 * (nn + 1 - a) + 12 ≤ (m : Int)) (hrm : (M.length : Int) + (nn - a) ≤ 156) (hdd : 16 * (13 - dp) + 40 ≤ (d : Int)) (hd : 0 ≤ d) : w_T sc d 55 0 (x_en 0 [.ref 234, .int (iZ dp)]) [] S (XR S nn Y D M (px Y D nn m 0 dp a [])) := by
  have hnn := hw.1.1
  have hn1 := hw.1.2.1
  have ha0 := hw.2.2.2.2.1
  have ha1 := hw.2.2.2.2.2
  have f0 : fr (fun a => 234 ≤ a ∧ a ≤ 242) S S := fr_refl _ _
  have hY : ∀ k : Int, nn ≤ k → Y k = 0 := hw.1.2.2.2.2.2
  refine w_iload_n rfl rfl rfl ?_
  refine w_bipush rfl (by decide) rfl ?_
  refine w_ic_le (pc2 := 8) (pc3 := 6) rfl (by decide) rfl ⟨by omega, by omega⟩ ⟨by decide, by decide⟩ (fun c3 => ?_) (fun c3 => ?_)
  · skip
    refine w_iconst rfl rfl ?_
    refine w_istore_n rfl (by decide) rfl ?_
    exact (c_exp_c HB hw hn0 hdp hdp2 hfu hrm hdd hd _) 0 a ([]) m _ _ rfl rfl rfl (by omega) (by exact f0) (by rw [List.append_nil]; exact hw) (by exact bind_id (fun r hr => px_z m 0 dp a [] r (by decide) hr)) (by omega) (by omega) (by omega) (by omega) (by (try simp only [List.length_append, List.length_cons, List.length_nil, stF_len]); omega) (Nat.lt_succ_self _)
  · skip
    refine w_iconst rfl rfl ?_
    refine w_zret rfl rfl (by decide) ?_
    obtain ⟨mm2, rfl⟩ := fuel1 hfu (by omega)
    refine XR_n ?_ f0
    rw [px_0, if_pos (by omega)]
theorem CE_all (sc : x_S) : ∀ m : Nat, CE sc m ∧ ∀ s, 1 ≤ s → s ≤ 5 → CB sc s m := fun m => by
  induction m using Nat.strongRecOn with
  | ind m ih =>
    refine ⟨fun d S nn Y D a M dp hw hn0 hdp hdp2 hfu hrm hdd => c_exp (fun m2 h2 => (ih m2 h2).2 1 (by decide) (by decide)) hw hn0 hdp hdp2 hfu hrm (by omega) (Nat.zero_le _), fun s s1 s5 => ?_⟩
    by_cases c : s = 5
    · subst c
      exact fun d S nn Y D a M dp hw hn0 hdp hdp2 hfu hrm hdd => c_b5 (fun m2 h2 => (ih m2 h2).1) hw hn0 hdp hdp2 (by omega) hrm (by omega) (Nat.zero_le _)
    · exact fun d S nn Y D a M dp hw hn0 hdp hdp2 hfu hrm hdd => c_bs (fun m2 h2 => (ih m2 h2).2 (s + 1) (by omega) (by omega)) s1 (by omega) hw hn0 hdp hdp2 (by omega) hrm (by omega) (Nat.zero_le _)
