/-! The class takes blocks. -/
def CC (sc : x_S) (m : Nat) : Prop := ∀ (d : Nat) (S : w_S) (nn : Int) (Y : Int → Int64) (D : List Dcl) (a : Int) (M : List Nd) (dp : Int) (may : Bool), PW S nn Y D a M → 0 < nn → 0 ≤ dp → dp ≤ 12 → 10 * (nn + 1 - a) + 5 ≤ m → (M.length : Int) + (nn - a) + zB may ≤ 145 → (D.length : Int) ≤ a → 16 * (13 - dp) + 68 ≤ d → w_T sc d 47 0 (x_en 0 [.ref 234, .int (iZ (zB may)), .int (iZ dp)]) [] S (SX S nn Y M (ps Y nn m 3 may false false dp a D))
theorem PW_rst {S : w_S} {n : Int} {Y : Int → Int64} {D D2 E : List Dcl} {a : Int} {M : List Nd} (h : PW S n Y D2 a M) (hE : D2 = E ++ D) : PW (w_v S 234 7 D.length) n Y D a M := by
  subst hE
  have f : fr (fun a => a = 234) S (w_v S 234 7 D.length) := fr_v (fr_refl _ _) rfl
  refine ⟨PS_fr h.1 f (rv_ne (by decide)) (by decide), ⟨rv_self _ _ _ _, ?_, ?_⟩, (rv_ne (by decide)).trans h.2.2.1, trep_fr h.2.2.2.1 f (fun a a0 a1 => by omega), h.2.2.2.2⟩
  · have := h.2.1.2.1
    rw [List.length_append] at this
    omega
  · exact drep_suf E D h.2.1.2.2
theorem c_blk_c {sc : x_S} {d : Nat} {S : w_S} {nn : Int} {Y : Int → Int64} {D : List Dcl} {a : Int} {M : List Nd} {dp : Int} {m : Nat} (Hc : ∀ m2, m2 < m → CC sc m2) (Hk : ∀ m2, m2 < m → CK sc m2) (hw : PW S nn Y D a M) (hn0 : 0 < nn) (hdp : 0 ≤ dp) (hdp2 : dp ≤ 13) (hfu : 10 * (nn + 1 - a) + 4 ≤ (m : Int)) (hrm : (M.length : Int) + (nn - a) ≤ 145) (hDa : (D.length : Int) ≤ a) (hdd : 16 * (13 - dp) + 70 ≤ (d : Int)) (hd : 0 ≤ d) : ∀ n : Nat, (∀ (t : Int) (a2 : Int) (N : List Nd) (c : Int) (D2 : List Dcl) (mm : Nat) (U : w_S) (lv : x_L) (l0 : lv 0 = some (.ref 234)) (l1 : lv 1 = some (.int (iZ dp))) (l2 : lv 2 = some (.int (iZ ((M.length : Int))))) (l3 : lv 3 = some (.int (iZ ((D.length : Int))))) (l4 : lv 4 = some (.int (iZ t))) (h12 : dp ≤ 12) (h123 : Y a = 123) (hfr : fr (fun a => 234 ≤ a ∧ a ≤ 242) S U) (hwU : PW U nn Y D2 a2 (M ++ (9, a, c) :: N)) (hE : ∃ E, D2 = E ++ D) (hD2 : (D2.length : Int) ≤ a2) (hres : (ps Y nn m 0 false false false dp a D) = (ps Y nn mm 1 false false false dp a2 D2).bind (fun r => some (r.1, (9, a, c + r.2.2.1) :: (N ++ r.2.1), 1, D, false))) (t0 : 0 ≤ t) (t2 : t ≤ a2 - (a + 1)) (hmm : mm < m) (hfu2 : 10 * (nn + 1 - a2) + 6 ≤ (mm : Int)) (hN : (N.length : Int) ≤ a2 - (a + 1)) (hm : (nn - a2).toNat < n), w_T sc d 53 40 lv [] U (SX S nn Y M (ps Y nn m 0 false false false dp a D))) := by
  intro n
  induction n with
  | zero => exact fun t a2 N c D2 mm U lv l0 l1 l2 l3 l4 h12 h123 hfr hwU hE hD2 hres t0 t2 hmm hfu2 hN hm => absurd hm (Nat.not_lt_zero _)
  | succ n ih =>
    intro t a2 N c D2 mm U lv l0 l1 l2 l3 l4 h12 h123 hfr hwU hE hD2 hres t0 t2 hmm hfu2 hN hm
    have hnn := hw.1.1
    have hn1 := hw.1.2.1
    have ha0 := hw.2.2.2.2.1
    have ha1 := hw.2.2.2.2.2
    have hY : ∀ k : Int, nn ≤ k → Y k = 0 := hw.1.2.2.2.2.2
    have ha0U := hwU.2.2.2.2.1
    have ha1U := hwU.2.2.2.2.2
    refine w_iload rfl l4 rfl ?_
    refine w_aload_n rfl l0 rfl ?_
    refine w_getI (z := nn) rfl rfl sh_234 rfl hwU.1.2.2.1 rfl ?_
    refine w_ic_ge (pc2 := 117) (pc3 := 49) rfl (by decide) rfl ⟨by omega, by omega⟩ ⟨by omega, by omega⟩ (fun c46 => ?_) (fun c46 => ?_)
    · omega
    · skip
      obtain ⟨mm2, rfl⟩ := fuel1 hfu2 (by omega)
      refine w_aload_n rfl l0 rfl ?_
      refine w_bipush rfl (by decide) rfl ?_
      by_cases k52 : Y a2 = 125
      · skip
        refine w_CV (as := [.int (iZ 125)]) (r := []) rfl rfl rfl rfl sh_234 (Nat.le_of_ble_eq_true rfl) (Nat.le_of_ble_eq_true rfl) (by omega) rfl (c_tk1 (c := 125) (x := 125) hwU (by decide) (by decide) (by decide) (by decide) k52 (by omega)) ?_
        rintro _ V1 ⟨rfl, g1, hw1⟩
        show w_T _ _ 53 55 _ [.int (iZ 1)] _ _
        have f1 := fr_trans hfr g1
        have kl52 := Y_lt hwU (by decide) k52
        refine w_if_eq (pc2 := 65) (pc3 := 58) rfl (by decide) rfl ⟨by decide, by decide⟩ (fun hc => absurd hc (by decide)) (fun _ => ?_)
        refine w_aload_n rfl l0 rfl ?_
        refine w_iload_n rfl l3 rfl ?_
        refine w_putf rfl rfl sh_234 rfl rfl (by decide) rfl ?_
        refine w_iconst rfl rfl ?_
        refine w_zret rfl rfl (by decide) ?_
        obtain ⟨E, hE⟩ := hE
        have hq9 := PW_rst hw1 hE
        refine SX_s (q := (a2 + 1, (9, a, c) :: N, 1, D, false)) ?_ (fr_v f1 (by omega)) hq9
        rw [hres, ps_1, if_pos k52]
        show some (a2 + 1, (9, a, c + 0) :: (N ++ []), (1 : Int), D, false) = _
        rw [Int.add_zero, List.append_nil]
      · skip
        refine w_CV (as := [.int (iZ 125)]) (r := []) rfl rfl rfl rfl sh_234 (Nat.le_of_ble_eq_true rfl) (Nat.le_of_ble_eq_true rfl) (by omega) rfl (c_tk0 (c := 125) (x := 125) hwU (by decide) (by decide) (by decide) (by decide) k52 (by omega)) ?_
        rintro _ V2 ⟨rfl, g2, hw2⟩
        show w_T _ _ 53 55 _ [.int (iZ 0)] _ _
        have f2 := fr_trans hfr g2
        refine w_if_eq (pc2 := 65) (pc3 := 58) rfl (by decide) rfl ⟨by decide, by decide⟩ (fun _ => ?_) (fun hc => absurd hc (by decide))
        refine w_aload_n rfl l0 rfl ?_
        refine w_CV (as := []) (r := []) rfl rfl rfl rfl sh_234 (Nat.le_of_ble_eq_true rfl) (Nat.le_of_ble_eq_true rfl) (by omega) rfl (c_sdc hw2 (by omega)) ?_
        rintro _ _ ⟨rfl, hS⟩
        rw [hS]
        show w_T _ _ 53 69 _ [.int (iZ (zB (sdc D2 (Y a2))))] _ _
        refine w_istore rfl (by decide) rfl ?_
        refine w_iload rfl rfl rfl ?_
        refine w_b_eq (pc2 := 88) (pc3 := 76) rfl (by decide) rfl (fun c73 => ?_) (fun c73 => ?_)
        · skip
          obtain ⟨mm3, rfl⟩ := fuel1 (m := mm2) (z := 10 * (nn + 1 - a2) + 5) (by omega) (by omega)
          refine w_aload_n rfl l0 rfl ?_
          refine w_iload_n rfl l1 rfl ?_
          rcases e90 : ps Y nn (mm3 + 1) 2 false false false dp (a2) D2 with _ | q90
          · skip
            refine w_CV (as := [.int (iZ dp)]) (r := []) rfl rfl rfl rfl sh_234 (Nat.le_of_ble_eq_true rfl) (Nat.le_of_ble_eq_true rfl) (by omega) rfl (w_mono (c_stm (m := mm3) (Hk mm3 (by omega)) hw2 hn0 hdp (by omega) (by omega) (by (try simp only [List.length_append, List.length_cons, List.length_nil, stF_len, stR_len]); omega) (by omega) (by omega) (by omega)) (fun v S2 h => h.1 e90)) ?_
            rintro _ V3 ⟨rfl, g3⟩
            show w_T _ _ 53 93 _ [.int (iZ 0)] _ _
            have f3 := fr_trans f2 g3
            refine w_if_ne (pc2 := 98) (pc3 := 96) rfl (by decide) rfl ⟨by decide, by decide⟩ (fun hc => absurd hc (by decide)) (fun _ => ?_)
            refine w_iconst rfl rfl ?_
            refine w_zret rfl rfl (by decide) ?_
            refine SX_n ?_ f3
            rw [hres, ps_1, if_neg k52]
            first
              | (rw [if_pos c73, e79]; rfl)
              | (rw [if_neg (by rw [c73]; decide), e90]; rfl)
          · skip
            refine w_CV (as := [.int (iZ dp)]) (r := []) rfl rfl rfl rfl sh_234 (Nat.le_of_ble_eq_true rfl) (Nat.le_of_ble_eq_true rfl) (by omega) rfl (w_mono (c_stm (m := mm3) (Hk mm3 (by omega)) hw2 hn0 hdp (by omega) (by omega) (by (try simp only [List.length_append, List.length_cons, List.length_nil, stF_len, stR_len]); omega) (by omega) (by omega) (by omega)) (fun v S2 h => h.2 _ e90)) ?_
            rintro _ V4 ⟨rfl, g4, hw4⟩
            show w_T _ _ 53 93 _ [.int (iZ 1)] _ _
            have f4 := fr_trans f2 g4
            have r90 := ps_r hY (mm3 + 1) 2 false false false dp _ D2 q90 (by decide) (by omega) e90
            have r90l := r90.2.2.1
            rw [if_neg (by decide)] at r90l
            have r901 := r90.1
            have r902 := r90.2.1
            have r905 := r90.2.2.2.2.1
            refine w_if_ne (pc2 := 98) (pc3 := 96) rfl (by decide) rfl ⟨by decide, by decide⟩ (fun _ => ?_) (fun hc => absurd hc (by decide))
            have hw5 : PW V4 nn Y q90.2.2.2.1 q90.1 (M ++ (9, a, c) :: (N ++ q90.2.1)) := by
              have q := hw4
              simpa [List.append_assoc] using q
            refine w_aload_n rfl l0 rfl ?_
            refine w_getR rfl rfl sh_234 rfl rfl ?_
            refine w_getR rfl rfl sh_235 rfl rfl ?_
            refine w_iload_n rfl l2 rfl ?_
            refine w_dup2 rfl rfl rfl rfl ?_
            refine w_iald (z := c) rfl sh_238 (by omega) (by omega) (by decide) (trep_g hw5.2.2.2.1).2.2 rfl ?_
            refine w_iconst rfl rfl ?_
            refine w_iadd rfl rfl ?_
            refine w_iaS (f := sA V4 238) rfl sh_238 (by omega) (by omega) (by decide) rfl rfl ?_
            have hw6 : PW ((w_A V4 238 (w_u (sA V4 238) ((M.length : Int)) (c + 1)))) nn Y q90.2.2.2.1 q90.1 (M ++ (9, a, c + 1) :: (N ++ q90.2.1)) := PW_kid hw5
            have f6 : fr (fun a => 234 ≤ a ∧ a ≤ 242) S ((w_A V4 238 (w_u (sA V4 238) ((M.length : Int)) (c + 1)))) := fr_A f4 (by omega)
            generalize (w_A V4 238 (w_u (sA V4 238) ((M.length : Int)) (c + 1))) = V6 at hw6 f6 ⊢
            refine w_iinc rfl (congrArg x_k2 l4) (by decide) rfl ?_
            refine w_goto (pc2 := 40) rfl (by decide) ?_
            exact ih (t + 1) q90.1 ((N ++ q90.2.1)) ((c + 1)) q90.2.2.2.1 ((mm3 + 1)) _ _ (by exact l0) (by exact l1) (by exact l2) (by exact (congrArg x_k2 l3)) (by exact rfl) (by omega) (by exact h123) (by exact f6) (by exact hw6) (by (obtain ⟨E, hE⟩ := hE; obtain ⟨E2, hE2⟩ := r90.2.2.2.1; exact ⟨E2 ++ E, by rw [hE2, hE, List.append_assoc]⟩)) (by omega) (by rw [hres, ps_1, if_neg k52, if_neg (by rw [c73]; decide), e90]; show ((ps Y nn (mm3 + 1) 1 false false false dp q90.1 q90.2.2.2.1).bind _).bind _ = _; cases ps Y nn (mm3 + 1) 1 false false false dp q90.1 q90.2.2.2.1 with | none => rfl | some r => (show some (r.1, (9, a, c + (1 + r.2.2.1)) :: (N ++ (q90.2.1 ++ r.2.1)), (1 : Int), D, false) = some (r.1, (9, a, c + 1 + r.2.2.1) :: (N ++ q90.2.1 ++ r.2.1), 1, D, false); rw [List.append_assoc, Int.add_assoc])) (by omega) (by omega) (by omega) (by omega) (by (try simp only [List.length_append, List.length_cons, List.length_nil, stF_len, stR_len]); omega) (by omega)
        · skip
          refine w_aload_n rfl l0 rfl ?_
          refine w_iconst rfl rfl ?_
          refine w_iload_n rfl l1 rfl ?_
          rcases e79 : ps Y nn mm2 3 false false false dp (a2) D2 with _ | q79
          · skip
            refine w_CV (as := [.int (iZ 0), .int (iZ dp)]) (r := []) rfl rfl rfl rfl sh_234 (Nat.le_of_ble_eq_true rfl) (Nat.le_of_ble_eq_true rfl) (by omega) rfl (w_mono (Hc mm2 (by omega) _ _ nn Y D2 (a2) (M ++ (9, a, c) :: N) dp false hw2 hn0 hdp (by omega) (by omega) (by show (_ : Int) + 0 ≤ _; (try simp only [List.length_append, List.length_cons, List.length_nil, stF_len, stR_len]); omega) (by omega) (by omega)) (fun v S2 h => h.1 e79)) ?_
            rintro _ V7 ⟨rfl, g7⟩
            show w_T _ _ 53 82 _ [.int (iZ 0)] _ _
            have f7 := fr_trans f2 g7
            refine w_if_ne (pc2 := 98) (pc3 := 85) rfl (by decide) rfl ⟨by decide, by decide⟩ (fun hc => absurd hc (by decide)) (fun _ => ?_)
            refine w_goto (pc2 := 96) rfl (by decide) ?_
            refine w_iconst rfl rfl ?_
            refine w_zret rfl rfl (by decide) ?_
            refine SX_n ?_ f7
            rw [hres, ps_1, if_neg k52]
            first
              | (rw [if_pos c73, e79]; rfl)
              | (rw [if_neg (by rw [c73]; decide), e90]; rfl)
          · skip
            refine w_CV (as := [.int (iZ 0), .int (iZ dp)]) (r := []) rfl rfl rfl rfl sh_234 (Nat.le_of_ble_eq_true rfl) (Nat.le_of_ble_eq_true rfl) (by omega) rfl (w_mono (Hc mm2 (by omega) _ _ nn Y D2 (a2) (M ++ (9, a, c) :: N) dp false hw2 hn0 hdp (by omega) (by omega) (by show (_ : Int) + 0 ≤ _; (try simp only [List.length_append, List.length_cons, List.length_nil, stF_len, stR_len]); omega) (by omega) (by omega)) (fun v S2 h => h.2 _ e79)) ?_
            rintro _ V8 ⟨rfl, g8, hw8⟩
            show w_T _ _ 53 82 _ [.int (iZ 1)] _ _
            have f8 := fr_trans f2 g8
            have r79 := ps_r hY mm2 3 false false false dp _ D2 q79 (by decide) (by omega) e79
            have r79l := r79.2.2.1
            rw [if_neg (by decide)] at r79l
            have r791 := r79.1
            have r792 := r79.2.1
            have r795 := r79.2.2.2.2.1
            refine w_if_ne (pc2 := 98) (pc3 := 85) rfl (by decide) rfl ⟨by decide, by decide⟩ (fun _ => ?_) (fun hc => absurd hc (by decide))
            have hw9 : PW V8 nn Y q79.2.2.2.1 q79.1 (M ++ (9, a, c) :: (N ++ q79.2.1)) := by
              have q := hw8
              simpa [List.append_assoc] using q
            refine w_aload_n rfl l0 rfl ?_
            refine w_getR rfl rfl sh_234 rfl rfl ?_
            refine w_getR rfl rfl sh_235 rfl rfl ?_
            refine w_iload_n rfl l2 rfl ?_
            refine w_dup2 rfl rfl rfl rfl ?_
            refine w_iald (z := c) rfl sh_238 (by omega) (by omega) (by decide) (trep_g hw9.2.2.2.1).2.2 rfl ?_
            refine w_iconst rfl rfl ?_
            refine w_iadd rfl rfl ?_
            refine w_iaS (f := sA V8 238) rfl sh_238 (by omega) (by omega) (by decide) rfl rfl ?_
            have hw10 : PW ((w_A V8 238 (w_u (sA V8 238) ((M.length : Int)) (c + 1)))) nn Y q79.2.2.2.1 q79.1 (M ++ (9, a, c + 1) :: (N ++ q79.2.1)) := PW_kid hw9
            have f10 : fr (fun a => 234 ≤ a ∧ a ≤ 242) S ((w_A V8 238 (w_u (sA V8 238) ((M.length : Int)) (c + 1)))) := fr_A f8 (by omega)
            generalize (w_A V8 238 (w_u (sA V8 238) ((M.length : Int)) (c + 1))) = V10 at hw10 f10 ⊢
            refine w_iinc rfl (congrArg x_k2 l4) (by decide) rfl ?_
            refine w_goto (pc2 := 40) rfl (by decide) ?_
            exact ih (t + 1) q79.1 ((N ++ q79.2.1)) ((c + 1)) q79.2.2.2.1 mm2 _ _ (by exact l0) (by exact l1) (by exact l2) (by exact (congrArg x_k2 l3)) (by exact rfl) (by omega) (by exact h123) (by exact f10) (by exact hw10) (by (obtain ⟨E, hE⟩ := hE; obtain ⟨E2, hE2⟩ := r79.2.2.2.1; exact ⟨E2 ++ E, by rw [hE2, hE, List.append_assoc]⟩)) (by omega) (by rw [hres, ps_1, if_neg k52, if_pos c73, e79]; show ((ps Y nn mm2 1 false false false dp q79.1 q79.2.2.2.1).bind _).bind _ = _; cases ps Y nn mm2 1 false false false dp q79.1 q79.2.2.2.1 with | none => rfl | some r => (show some (r.1, (9, a, c + (1 + r.2.2.1)) :: (N ++ (q79.2.1 ++ r.2.1)), (1 : Int), D, false) = some (r.1, (9, a, c + 1 + r.2.2.1) :: (N ++ q79.2.1 ++ r.2.1), 1, D, false); rw [List.append_assoc, Int.add_assoc])) (by omega) (by omega) (by omega) (by omega) (by (try simp only [List.length_append, List.length_cons, List.length_nil, stF_len, stR_len]); omega) (by omega)
theorem c_blk {sc : x_S} {d : Nat} {S : w_S} {nn : Int} {Y : Int → Int64} {D : List Dcl} {a : Int} {M : List Nd} {dp : Int} {m : Nat} (Hc : ∀ m2, m2 < m → CC sc m2) (Hk : ∀ m2, m2 < m → CK sc m2) (hw : PW S nn Y D a M) (hn0 : 0 < nn) (hdp : 0 ≤ dp) (hdp2 : dp ≤ 13) (hfu : 10 * (nn + 1 - a) + 4 ≤ (m : Int)) (hrm : (M.length : Int) + (nn - a) ≤ 145) (hDa : (D.length : Int) ≤ a) (hdd : 16 * (13 - dp) + 70 ≤ (d : Int)) (hd : 0 ≤ d) : w_T sc d 53 0 (x_en 0 [.ref 234, .int (iZ dp)]) [] S (SX S nn Y M (ps Y nn m 0 false false false dp a D)) := by
  have hnn := hw.1.1
  have hn1 := hw.1.2.1
  have ha0 := hw.2.2.2.2.1
  have ha1 := hw.2.2.2.2.2
  have f0 : fr (fun a => 234 ≤ a ∧ a ≤ 242) S S := fr_refl _ _
  have hY : ∀ k : Int, nn ≤ k → Y k = 0 := hw.1.2.2.2.2.2
  obtain ⟨m1, rfl⟩ := fuel1 hfu (by omega)
  refine w_aload_n rfl rfl rfl ?_
  refine w_getR rfl rfl sh_234 rfl rfl ?_
  refine w_bipush rfl (by decide) rfl ?_
  refine w_aload_n rfl rfl rfl ?_
  refine w_getI (z := a) rfl rfl sh_234 rfl hw.2.2.1 rfl ?_
  refine w_iconst rfl rfl ?_
  refine w_CV (as := [.int (iZ 9), .int (iZ a), .int (iZ 0)]) (r := []) rfl rfl rfl rfl sh_235 (Nat.le_of_ble_eq_true rfl) (Nat.le_of_ble_eq_true rfl) (by omega) rfl (c_tadd (M := M) hw.2.2.2.1 (by (try simp only [List.length_append, List.length_cons, List.length_nil, stF_len, stR_len]); omega) (by omega)) ?_
  rintro _ V11 ⟨rfl, g11, ht11⟩
  show w_T _ _ 53 14 _ [.int (iZ ((M.length : Int)))] _ _
  have hw11 := PW_tree hw g11 ht11
  have f11 := fr_trans f0 (fr_mono g11 (fun a h => by omega))
  refine w_istore_n rfl (by decide) rfl ?_
  refine w_aload_n rfl rfl rfl ?_
  refine w_getI (z := (D.length : Int)) rfl rfl sh_234 rfl hw11.2.1.1 rfl ?_
  refine w_istore_n rfl (by decide) rfl ?_
  refine w_iload_n rfl rfl rfl ?_
  refine w_bipush rfl (by decide) rfl ?_
  refine w_ic_gt (pc2 := 35) (pc3 := 26) rfl (by decide) rfl ⟨by omega, by omega⟩ ⟨by decide, by decide⟩ (fun c23 => ?_) (fun c23 => ?_)
  · skip
    refine w_iconst rfl rfl ?_
    refine w_zret rfl rfl (by decide) ?_
    refine SX_n ?_ f11
    rw [ps_0]
    first
      | (rw [if_pos (Or.inl (by omega))]; done)
      | (rw [if_pos (Or.inr k29)]; done)
  · skip
    refine w_aload_n rfl rfl rfl ?_
    refine w_bipush rfl (by decide) rfl ?_
    by_cases k29 : Y a = 123
    · skip
      refine w_CV (as := [.int (iZ 123)]) (r := []) rfl rfl rfl rfl sh_234 (Nat.le_of_ble_eq_true rfl) (Nat.le_of_ble_eq_true rfl) (by omega) rfl (c_tk1 (c := 123) (x := 123) hw11 (by decide) (by decide) (by decide) (by decide) k29 (by omega)) ?_
      rintro _ V12 ⟨rfl, g12, hw12⟩
      show w_T _ _ 53 32 _ [.int (iZ 1)] _ _
      have f12 := fr_trans f11 g12
      have kl29 := Y_lt hw11 (by decide) k29
      refine w_if_ne (pc2 := 37) (pc3 := 35) rfl (by decide) rfl ⟨by decide, by decide⟩ (fun _ => ?_) (fun hc => absurd hc (by decide))
      refine w_iconst rfl rfl ?_
      refine w_istore rfl (by decide) rfl ?_
      exact (c_blk_c Hc Hk hw hn0 hdp hdp2 hfu hrm hDa hdd hd _) 0 ((a + 1)) ([]) 0 D m1 _ _ rfl rfl rfl rfl rfl (by omega) (by exact k29) (by exact f12) (by exact hw12) (by exact ⟨[], rfl⟩) (by omega) (by rw [ps_0, if_neg (by rintro (z | z); omega; exact z k29)]; cases ps Y nn m1 1 false false false dp (a + 1) D with | none => rfl | some r => (show some (r.1, (9, a, r.2.2.1) :: r.2.1, (1 : Int), D, false) = some (r.1, (9, a, 0 + r.2.2.1) :: ([] ++ r.2.1), 1, D, false); rw [Int.zero_add, List.nil_append])) (by omega) (by omega) (by omega) (by omega) (by (try simp only [List.length_append, List.length_cons, List.length_nil, stF_len, stR_len]); omega) (Nat.lt_succ_self _)
    · skip
      refine w_CV (as := [.int (iZ 123)]) (r := []) rfl rfl rfl rfl sh_234 (Nat.le_of_ble_eq_true rfl) (Nat.le_of_ble_eq_true rfl) (by omega) rfl (c_tk0 (c := 123) (x := 123) hw11 (by decide) (by decide) (by decide) (by decide) k29 (by omega)) ?_
      rintro _ V13 ⟨rfl, g13, hw13⟩
      show w_T _ _ 53 32 _ [.int (iZ 0)] _ _
      have f13 := fr_trans f11 g13
      refine w_if_ne (pc2 := 37) (pc3 := 35) rfl (by decide) rfl ⟨by decide, by decide⟩ (fun hc => absurd hc (by decide)) (fun _ => ?_)
      refine w_iconst rfl rfl ?_
      refine w_zret rfl rfl (by decide) ?_
      refine SX_n ?_ f13
      rw [ps_0]
      first
        | (rw [if_pos (Or.inl (by omega))]; done)
        | (rw [if_pos (Or.inr k29)]; done)
