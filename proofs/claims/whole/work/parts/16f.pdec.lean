/-! The class takes declarations, and the whole. -/
theorem pd_k {Y : Int → Int64} {n : Int} : ∀ (m : Nat) (dp a : Int) (r : Int × List Nd × Int), pd Y n m dp a = some r → ∀ x, x ∈ r.2.1 → 4 ≤ x.1 ∧ x.1 ≤ 7
  | 0, dp, a, r, hp => nns hp
  | m + 1, dp, a, r, hp => by
    rw [pd_s] at hp
    obtain ⟨q, hq, h2⟩ := bind_some hp
    obtain ⟨f, hf, h3⟩ := bind_some h2
    have base : ∀ x, x ∈ q.2.1 → 4 ≤ x.1 ∧ x.1 ≤ 7 := by
      unfold pdb at hq
      split at hq
      · cases hq
        intro x hx
        rw [List.mem_singleton.1 hx]
        exact ⟨by show (4 : Int) ≤ 4; decide, by show (4 : Int) ≤ 7; decide⟩
      · split at hq
        · exact nns hq
        · split at hq
          · obtain ⟨s, hs, h4⟩ := bind_some hq
            split at h4
            · cases h4
              exact pd_k m _ _ s hs
            · exact nns h4
          · exact nns hq
    have pk : ∀ (m : Nat) (a : Int) (r : Int × List Nd × Int), pf Y m a = some r → ∀ x, x ∈ r.2.1 → x.1 = 5 ∨ x.1 = 6 := fun m => by
      induction m with
      | zero => exact fun a r h => nns h
      | succ m ih =>
        intro a r h x hx
        rw [pf] at h
        split at h
        · split at h
          · obtain ⟨s, hs, h3⟩ := bind_some h
            cases h3
            rcases List.mem_cons.1 hx with z | z
            · rw [z]; exact Or.inr rfl
            · exact ih _ s hs x z
          · exact nns h
        · split at h
          · split at h
            · obtain ⟨s, hs, h3⟩ := bind_some h
              cases h3
              rcases List.mem_cons.1 hx with z | z
              · rw [z]; exact Or.inl rfl
              · exact ih _ s hs x z
            · exact nns h
          · cases h
            exact absurd hx (by show ¬ x ∈ ([] : List Nd); simp)
    cases h3
    intro x hx
    have hx : x ∈ q.2.1 ++ f.2.1 ++ stR (stN Y n a - a).toNat a := hx
    rcases List.mem_append.1 hx with z | z
    · rcases List.mem_append.1 z with z | z
      · exact base x z
      · have := pk 110 q.1 f hf x z
        omega
    · have := stR_7 _ _ x z
      omega
/-- a declarator's nodes: its name, then forms -/
theorem pd_c {Y : Int → Int64} {n : Int} (hY : ∀ k, n ≤ k → Y k = 0) {m : Nat} {dp a : Int} {r : Int × List Nd × Int} (h : a ≤ n) (hp : pd Y n m dp a = some r) : ∃ s F, r.2.1 = (4, s, 0) :: F ∧ (ndg r.2.1 0).2.1 = s ∧ 0 ≤ (ndg F 0).1 ∧ (ndg F 0).1 ≤ 100 ∧ dnd r.2.1 0 = (4, s, (F.length : Int)) :: F ∧ dnd r.2.1 1 = (4, s, (F.length : Int) + 1) :: F ∧ isF r.2.1 = decide (0 < (F.length : Int) ∧ (ndg F 0).1 = 6) := by
  have d := pd_r hY m dp a r h hp
  have k := pd_k m dp a r hp
  revert d k
  generalize r.2.1 = N
  intro d k
  cases N with
  | nil => exact absurd d.2.2.2.1 (by rw [List.length_nil]; omega)
  | cons x F =>
    have e : x = (4, x.2.1, 0) := by
      have h1 : x.1 = 4 := d.2.2.2.2.1
      have h2 : x.2.2 = 0 := d.2.2.2.2.2.1
      rw [← h1, ← h2]
    have hF : 0 ≤ (ndg F 0).1 ∧ (ndg F 0).1 ≤ 100 := by
      by_cases c : 0 < F.length
      · have := k _ (List.mem_cons_of_mem _ (ndg_mem (L := F) (j := 0) (Int.le_refl _) (by omega)))
        omega
      · have : F = [] := List.length_eq_zero_iff.1 (by omega)
        rw [this]
        exact ⟨Int.le_refl _, by decide⟩
    refine ⟨x.2.1, F, by rw [← e], rfl, hF.1, hF.2, ?_, ?_, ?_⟩
    · show (4, x.2.1, ((F.length + 1 : Nat) : Int) - 1 + 0) :: F = _
      rw [show ((F.length + 1 : Nat) : Int) - 1 + 0 = (F.length : Int) by omega]
    · show (4, x.2.1, ((F.length + 1 : Nat) : Int) - 1 + 1) :: F = _
      rw [show ((F.length + 1 : Nat) : Int) - 1 + 1 = (F.length : Int) + 1 by omega]
    · unfold isF
      rw [show ndg (x :: F) 1 = ndg F 0 from ndg_s (by decide)]
      have : (((x :: F).length : Nat) : Int) - 1 = F.length := by rw [List.length_cons]; omega
      rw [this]
theorem c_dec_c {sc : x_S} {d : Nat} {S : w_S} {nn : Int} {Y : Int → Int64} {D : List Dcl} {a : Int} {M : List Nd} {dp : Int} {may : Bool} {m : Nat} (Hk : ∀ m2, m2 < m → CK sc m2) (hw : PW S nn Y D a M) (hn0 : 0 < nn) (hdp : 0 ≤ dp) (hdp2 : dp ≤ 12) (hfu : 10 * (nn + 1 - a) + 5 ≤ (m : Int)) (hrm : (M.length : Int) + (nn - a) + zB may ≤ 145) (hDa : (D.length : Int) ≤ a) (hdd : 16 * (13 - dp) + 68 ≤ (d : Int)) (hd : 0 ≤ d) : ∀ n : Nat, (∀ (td : Bool) (t : Int) (t0 : Int) (kd : Int) (a2 : Int) (N : List Nd) (c : Int) (D2 : List Dcl) (mm : Nat) (U : w_S) (lv : x_L) (l0 : lv 0 = some (.ref 234)) (l1 : lv 1 = some (.int (iZ (zB may)))) (l2 : lv 2 = some (.int (iZ dp))) (l3 : lv 3 = some (.int (iZ (zB td)))) (l4 : lv 4 = some (.int (iZ ((M.length : Int))))) (l5 : lv 5 = some (.int (iZ t))) (hfr : fr (fun a => 234 ≤ a ∧ a ≤ 242) S U) (hwU : PW U nn Y D2 a2 (M ++ (kd, a, 1 + c) :: (3, t0, 0) :: N)) (ht0 : a ≤ t0) (ht1 : t0 < a2) (hD2 : (D2.length : Int) ≤ a2) (hres : (ps Y nn m 3 may false false dp a D) = (ps Y nn mm 4 may td (decide (t = 0)) dp a2 D2).bind (fun r => some (r.1, (if r.2.2.2.2 = true then 8 else kd, a, 1 + (c + r.2.2.1)) :: (3, t0, 0) :: (N ++ r.2.1), 1, r.2.2.2.1, false))) (tp : 0 ≤ t) (t2 : t ≤ a2 - (t0 + 1)) (hmm : mm < m) (hfu2 : 10 * (nn + 1 - a2) + 4 ≤ (mm : Int)) (hN : (N.length : Int) ≤ a2 - (t0 + 1)) (hN2 : t = 0 → N = []) (hm : (nn - a2).toNat < n), w_T sc d 47 72 lv [] U (SX S nn Y M (ps Y nn m 3 may false false dp a D))) := by
  intro n
  induction n with
  | zero => exact fun td t t0 kd a2 N c D2 mm U lv l0 l1 l2 l3 l4 l5 hfr hwU ht0 ht1 hD2 hres tp t2 hmm hfu2 hN hN2 hm => absurd hm (Nat.not_lt_zero _)
  | succ n ih =>
    intro td t t0 kd a2 N c D2 mm U lv l0 l1 l2 l3 l4 l5 hfr hwU ht0 ht1 hD2 hres tp t2 hmm hfu2 hN hN2 hm
    have hnn := hw.1.1
    have hn1 := hw.1.2.1
    have ha0 := hw.2.2.2.2.1
    have ha1 := hw.2.2.2.2.2
    have hY : ∀ k : Int, nn ≤ k → Y k = 0 := hw.1.2.2.2.2.2
    have ha0U := hwU.2.2.2.2.1
    have ha1U := hwU.2.2.2.2.2
    have hmr : 0 ≤ zB may ∧ zB may ≤ 1 := by cases may <;> decide
    refine w_iload rfl l5 rfl ?_
    refine w_aload_n rfl l0 rfl ?_
    refine w_getI (z := nn) rfl rfl sh_234 rfl hwU.1.2.2.1 rfl ?_
    refine w_ic_ge (pc2 := 274) (pc3 := 81) rfl (by decide) rfl ⟨by omega, by omega⟩ ⟨by omega, by omega⟩ (fun c78 => ?_) (fun c78 => ?_)
    · omega
    · skip
      obtain ⟨mm2, rfl⟩ := fuel1 hfu2 (by omega)
      refine w_aload_n rfl l0 rfl ?_
      refine w_getR rfl rfl sh_234 rfl rfl ?_
      refine w_getI (z := ((M ++ (kd, a, 1 + c) :: (3, t0, 0) :: N).length : Int)) rfl rfl sh_235 rfl hwU.2.2.2.1.1 rfl ?_
      rw [show ((M ++ (kd, a, 1 + c) :: (3, t0, 0) :: N).length : Int) = ((M ++ (kd, a, 1 + c + 1) :: (3, t0, 0) :: N).length : Int) by (try simp only [List.length_append, List.length_cons, List.length_nil, stF_len, stR_len]); first | done | omega]
      refine w_istore rfl (by decide) rfl ?_
      have hT1 : ((M ++ (kd, a, 1 + c + 1) :: (3, t0, 0) :: N).length : Int) = (M.length : Int) + 2 + N.length := by simp only [List.length_append, List.length_cons, List.length_nil, stF_len, stR_len]; omega
      refine w_aload_n rfl l0 rfl ?_
      refine w_iconst rfl rfl ?_
      rcases e92 : pd Y nn 15 0 (a2) with _ | q92
      · skip
        refine w_CV (as := [.int (iZ 0)]) (r := []) rfl rfl rfl rfl sh_234 (Nat.le_of_ble_eq_true rfl) (Nat.le_of_ble_eq_true rfl) (by omega) rfl (w_mono (CD_all sc 15 _ _ nn Y D2 (a2) (M ++ (kd, a, 1 + c) :: (3, t0, 0) :: N) 0 hwU hn0 (by decide) (by decide) (by decide) (by (try simp only [List.length_append, List.length_cons, List.length_nil, stF_len, stR_len]); omega) (by omega)) (fun v S2 h => h.1 e92)) ?_
        rintro _ V1 ⟨rfl, g1⟩
        show w_T _ _ 47 95 _ [.int (iZ 0)] _ _
        have f1 := fr_trans hfr g1
        refine w_if_ne (pc2 := 100) (pc3 := 98) rfl (by decide) rfl ⟨by decide, by decide⟩ (fun hc => absurd hc (by decide)) (fun _ => ?_)
        refine w_iconst rfl rfl ?_
        refine w_zret rfl rfl (by decide) ?_
        refine SX_n ?_ f1
        rw [hres, ps_4, e92]
        rfl
      · skip
        refine w_CV (as := [.int (iZ 0)]) (r := []) rfl rfl rfl rfl sh_234 (Nat.le_of_ble_eq_true rfl) (Nat.le_of_ble_eq_true rfl) (by omega) rfl (w_mono (CD_all sc 15 _ _ nn Y D2 (a2) (M ++ (kd, a, 1 + c) :: (3, t0, 0) :: N) 0 hwU hn0 (by decide) (by decide) (by decide) (by (try simp only [List.length_append, List.length_cons, List.length_nil, stF_len, stR_len]); omega) (by omega)) (fun v S2 h => h.2 _ e92)) ?_
        rintro _ V2 ⟨rfl, g2, hw2⟩
        show w_T _ _ 47 95 _ [.int (iZ 1)] _ _
        have f2 := fr_trans hfr g2
        have r92 := pd_r hY 15 0 (a2) q92 (by omega) e92
        obtain ⟨s, F, hq1, hq2, hF0, hF1, hd0, hd1, hisf⟩ := pd_c hY (by omega) e92
        have hsa := r92.2.2.2.2.2.2.1
        have hsn := r92.2.2.2.2.2.2.2.1
        rw [hq2] at hsa hsn
        have hFl := r92.2.2.1
        rw [hq1, List.length_cons] at hFl
        have hk1 := r92.1
        have hk2 := r92.2.1
        refine w_if_ne (pc2 := 100) (pc3 := 98) rfl (by decide) rfl ⟨by decide, by decide⟩ (fun _ => ?_) (fun hc => absurd hc (by decide))
        have hw3 : PW V2 nn Y D2 q92.1 (M ++ (kd, a, 1 + c) :: ((3, t0, 0) :: (N ++ q92.2.1))) := by
          have q := hw2
          simpa [List.append_assoc] using q
        have f3 : fr (fun a => 234 ≤ a ∧ a ≤ 242) S V2 := f2
        refine w_aload_n rfl l0 rfl ?_
        refine w_getR rfl rfl sh_234 rfl rfl ?_
        refine w_getR rfl rfl sh_235 rfl rfl ?_
        refine w_iload rfl l4 rfl ?_
        refine w_dup2 rfl rfl rfl rfl ?_
        refine w_iald (z := 1 + c) rfl sh_238 (by omega) (by omega) (by decide) (trep_g hw3.2.2.2.1).2.2 rfl ?_
        refine w_iconst rfl rfl ?_
        refine w_iadd rfl rfl ?_
        refine w_iaS (f := sA V2 238) rfl sh_238 (by omega) (by omega) (by decide) rfl rfl ?_
        have hw4 : PW ((w_A V2 238 (w_u (sA V2 238) ((M.length : Int)) (1 + c + 1)))) nn Y D2 q92.1 (M ++ (kd, a, 1 + c + 1) :: ((3, t0, 0) :: (N ++ q92.2.1))) := by
          exact PW_kid hw3
        have f4 : fr (fun a => 234 ≤ a ∧ a ≤ 242) S ((w_A V2 238 (w_u (sA V2 238) ((M.length : Int)) (1 + c + 1)))) := fr_A f3 (by omega)
        generalize (w_A V2 238 (w_u (sA V2 238) ((M.length : Int)) (1 + c + 1))) = V4 at hw4 f4 ⊢
        have hw5 : PW V4 nn Y D2 q92.1 (M ++ (kd, a, 1 + c + 1) :: (3, t0, 0) :: N ++ (4, s, 0) :: F) := by
          have q := hw4
          rw [hq1] at q
          simpa [List.append_assoc] using q
        have f5 : fr (fun a => 234 ≤ a ∧ a ≤ 242) S V4 := f4
        refine w_aload_n rfl l0 rfl ?_
        refine w_iload rfl rfl rfl ?_
        refine w_iload_n rfl l3 rfl ?_
        refine w_CV (as := [.int (iZ (((M ++ (kd, a, 1 + c + 1) :: (3, t0, 0) :: N).length : Int))), .int (iZ (zB td))]) (r := []) rfl rfl rfl rfl sh_234 (Nat.le_of_ble_eq_true rfl) (Nat.le_of_ble_eq_true rfl) (by omega) rfl (c_dcl (M := M ++ (kd, a, 1 + c + 1) :: (3, t0, 0) :: N) (F := F) (s := s) (td := td) hw5 (by omega) (by omega) (by omega) (by (try simp only [List.length_append, List.length_cons, List.length_nil, stF_len, stR_len]); omega) (by omega)) ?_
        rintro _ V6 ⟨rfl, g6, hw6⟩
        show w_T _ _ 47 121 _ [] _ _
        have f6 := fr_trans f5 g6
        refine w_iload_n rfl l1 rfl ?_
        refine w_b_eq (pc2 := 154) (pc3 := 125) rfl (by decide) rfl (fun c122 => ?_) (fun c122 => ?_)
        · skip
          refine w_iconst rfl rfl ?_
          refine w_istore rfl (by decide) rfl ?_
          refine w_iload rfl rfl rfl ?_
          refine w_if_eq (pc2 := 213) (pc3 := 162) rfl (by decide) rfl ⟨by decide, by decide⟩ (fun _ => ?_) (fun hc => absurd hc (by decide))
          refine w_iload_n rfl l3 rfl ?_
          refine w_b_ne (pc2 := 252) (pc3 := 217) rfl (by decide) rfl (fun c214 => ?_) (fun c214 => ?_)
          · skip
            refine w_aload_n rfl l0 rfl ?_
            refine w_bipush rfl (by decide) rfl ?_
            by_cases k255 : Y q92.1 = 44
            · skip
              refine w_CV (as := [.int (iZ 44)]) (r := []) rfl rfl rfl rfl sh_234 (Nat.le_of_ble_eq_true rfl) (Nat.le_of_ble_eq_true rfl) (by omega) rfl (c_tk1 (c := 44) (x := 44) hw6 (by decide) (by decide) (by decide) (by decide) k255 (by omega)) ?_
              rintro _ V7 ⟨rfl, g7, hw7⟩
              show w_T _ _ 47 258 _ [.int (iZ 1)] _ _
              have f7 := fr_trans f6 g7
              have kl255 := Y_lt hw6 (by decide) k255
              refine w_if_ne (pc2 := 268) (pc3 := 261) rfl (by decide) rfl ⟨by decide, by decide⟩ (fun _ => ?_) (fun hc => absurd hc (by decide))
              refine w_iinc rfl (congrArg x_k2 l5) (by decide) rfl ?_
              refine w_goto (pc2 := 72) rfl (by decide) ?_
              exact ih td (t + 1) t0 kd ((q92.1 + 1)) ((N ++ ((4, s, (F.length : Int)) :: F))) ((c + 1)) (((Y s, td) :: D2)) mm2 _ _ (by exact l0) (by exact l1) (by exact l2) (by exact l3) (by exact (congrArg x_k2 l4)) (by exact rfl) (by exact f7) (by rw [show 1 + (c + 1) = 1 + c + 1 by omega]; have q := hw7; simpa [List.append_assoc] using q) (by omega) (by omega) (by rw [List.length_cons]; omega) (by rw [hres, ps_4, e92]; show ((if may = true ∧ td = false ∧ decide (t = 0) = true ∧ Y q92.1 = 123 then _ else if td = false ∧ Y q92.1 = 61 then _ else if Y q92.1 = 44 then _ else if Y q92.1 = 59 then _ else none : SR)).bind _ = _; rw [if_neg (show ¬ (may = true ∧ td = false ∧ decide (t = 0) = true ∧ Y q92.1 = 123) from by first | exact fun z => by rw [z.1] at c122; exact Bool.noConfusion c122 | exact fun z => by rw [z.2.1] at c126; exact Bool.noConfusion c126 | exact fun z => c131 (of_decide_eq_true z.2.2.1) | exact fun z => c147 z.2.2.2), if_neg (show ¬ (td = false ∧ Y q92.1 = 61) from by first | exact fun z => k220 z.2 | exact fun z => by rw [z.1] at c214; exact Bool.noConfusion c214), if_pos k255, hq2]; rw [show decide (t + 1 = 0) = false from decide_eq_false (by omega)]; cases ps Y nn mm2 4 may td false dp (q92.1 + 1) ((Y s, td) :: D2) with | none => rfl | some r => (show some (r.1, (if r.2.2.2.2 = true then 8 else kd, a, 1 + (c + (1 + r.2.2.1))) :: (3, t0, 0) :: (N ++ (dnd q92.2.1 0 ++ r.2.1)), (1 : Int), r.2.2.2.1, false) = some (r.1, (if r.2.2.2.2 = true then 8 else kd, a, 1 + (c + 1 + r.2.2.1)) :: (3, t0, 0) :: (N ++ ((4, s, (F.length : Int)) :: F) ++ r.2.1), 1, r.2.2.2.1, false); rw [hd0, show c + 1 + r.2.2.1 = c + (1 + r.2.2.1) by omega]; simp [List.append_assoc])) (by omega) (by omega) (by omega) (by omega) (by (try simp only [List.length_append, List.length_cons, List.length_nil, stF_len, stR_len]); omega) (by intro z; omega) (by omega)
            · skip
              refine w_CV (as := [.int (iZ 44)]) (r := []) rfl rfl rfl rfl sh_234 (Nat.le_of_ble_eq_true rfl) (Nat.le_of_ble_eq_true rfl) (by omega) rfl (c_tk0 (c := 44) (x := 44) hw6 (by decide) (by decide) (by decide) (by decide) k255 (by omega)) ?_
              rintro _ V8 ⟨rfl, g8, hw8⟩
              show w_T _ _ 47 258 _ [.int (iZ 0)] _ _
              have f8 := fr_trans f6 g8
              refine w_if_ne (pc2 := 268) (pc3 := 261) rfl (by decide) rfl ⟨by decide, by decide⟩ (fun hc => absurd hc (by decide)) (fun _ => ?_)
              refine w_aload_n rfl l0 rfl ?_
              refine w_bipush rfl (by decide) rfl ?_
              by_cases k264 : Y q92.1 = 59
              · skip
                refine w_CV (as := [.int (iZ 59)]) (r := []) rfl rfl rfl rfl sh_234 (Nat.le_of_ble_eq_true rfl) (Nat.le_of_ble_eq_true rfl) (by omega) rfl (c_tk1 (c := 59) (x := 59) hw8 (by decide) (by decide) (by decide) (by decide) k264 (by omega)) ?_
                rintro _ V9 ⟨rfl, g9, hw9⟩
                show w_T _ _ 47 267 _ [.int (iZ 1)] _ _
                have f9 := fr_trans f8 g9
                have kl264 := Y_lt hw8 (by decide) k264
                refine w_zret rfl rfl (by decide) ?_
                refine SX_s (q := (q92.1 + 1, (kd, a, 1 + (c + 1)) :: (3, t0, 0) :: (N ++ (dnd q92.2.1 0)), 1, ((Y s, td) :: D2), false)) ?_ f9 ?_
                · rw [hres, ps_4, e92]
                  show ((if may = true ∧ td = false ∧ decide (t = 0) = true ∧ Y q92.1 = 123 then _ else if td = false ∧ Y q92.1 = 61 then _ else if Y q92.1 = 44 then _ else if Y q92.1 = 59 then _ else none : SR)).bind _ = _
                  rw [if_neg (show ¬ (may = true ∧ td = false ∧ decide (t = 0) = true ∧ Y q92.1 = 123) from by first | exact fun z => by rw [z.1] at c122; exact Bool.noConfusion c122 | exact fun z => by rw [z.2.1] at c126; exact Bool.noConfusion c126 | exact fun z => c131 (of_decide_eq_true z.2.2.1) | exact fun z => c147 z.2.2.2), if_neg (show ¬ (td = false ∧ Y q92.1 = 61) from by first | exact fun z => k220 z.2 | exact fun z => by rw [z.1] at c214; exact Bool.noConfusion c214), if_neg k255, if_pos k264, hq2]
                  rfl
                · have q := hw9
                  rw [hd0]
                  rw [show 1 + (c + 1) = 1 + c + 1 by omega]
                  simpa [List.append_assoc] using q
              · skip
                refine w_CV (as := [.int (iZ 59)]) (r := []) rfl rfl rfl rfl sh_234 (Nat.le_of_ble_eq_true rfl) (Nat.le_of_ble_eq_true rfl) (by omega) rfl (c_tk0 (c := 59) (x := 59) hw8 (by decide) (by decide) (by decide) (by decide) k264 (by omega)) ?_
                rintro _ V10 ⟨rfl, g10, hw10⟩
                show w_T _ _ 47 267 _ [.int (iZ 0)] _ _
                have f10 := fr_trans f8 g10
                refine w_zret rfl rfl (by decide) ?_
                refine SX_n ?_ f10
                rw [hres, ps_4, e92]
                show ((if may = true ∧ td = false ∧ decide (t = 0) = true ∧ Y q92.1 = 123 then _ else if td = false ∧ Y q92.1 = 61 then _ else if Y q92.1 = 44 then _ else if Y q92.1 = 59 then _ else none : SR)).bind _ = _
                rw [if_neg (show ¬ (may = true ∧ td = false ∧ decide (t = 0) = true ∧ Y q92.1 = 123) from by first | exact fun z => by rw [z.1] at c122; exact Bool.noConfusion c122 | exact fun z => by rw [z.2.1] at c126; exact Bool.noConfusion c126 | exact fun z => c131 (of_decide_eq_true z.2.2.1) | exact fun z => c147 z.2.2.2), if_neg (show ¬ (td = false ∧ Y q92.1 = 61) from by first | exact fun z => k220 z.2 | exact fun z => by rw [z.1] at c214; exact Bool.noConfusion c214), if_neg k255, if_neg k264]
                rfl
          · skip
            refine w_aload_n rfl l0 rfl ?_
            refine w_bipush rfl (by decide) rfl ?_
            by_cases k220 : Y q92.1 = 61
            · skip
              refine w_CV (as := [.int (iZ 61)]) (r := []) rfl rfl rfl rfl sh_234 (Nat.le_of_ble_eq_true rfl) (Nat.le_of_ble_eq_true rfl) (by omega) rfl (c_tk1 (c := 61) (x := 61) hw6 (by decide) (by decide) (by decide) (by decide) k220 (by omega)) ?_
              rintro _ V11 ⟨rfl, g11, hw11⟩
              show w_T _ _ 47 223 _ [.int (iZ 1)] _ _
              have f11 := fr_trans f6 g11
              have kl220 := Y_lt hw6 (by decide) k220
              refine w_if_eq (pc2 := 252) (pc3 := 226) rfl (by decide) rfl ⟨by decide, by decide⟩ (fun hc => absurd hc (by decide)) (fun _ => ?_)
              refine w_aload_n rfl l0 rfl ?_
              refine w_getR rfl rfl sh_234 rfl rfl ?_
              refine w_getR rfl rfl sh_235 rfl rfl ?_
              refine w_iload rfl rfl rfl ?_
              refine w_dup2 rfl rfl rfl rfl ?_
              refine w_iald (z := (F.length : Int)) rfl sh_238 (by omega) (by omega) (by decide) (trep_g hw11.2.2.2.1).2.2 rfl ?_
              refine w_iconst rfl rfl ?_
              refine w_iadd rfl rfl ?_
              refine w_iaS (f := sA V11 238) rfl sh_238 (by omega) (by omega) (by decide) rfl rfl ?_
              have hw13 : PW ((w_A V11 238 (w_u (sA V11 238) (((M ++ (kd, a, 1 + c + 1) :: (3, t0, 0) :: N).length : Int)) (((F.length : Int)) + 1)))) nn Y ((Y s, td) :: D2) (q92.1 + 1) (M ++ (kd, a, 1 + c + 1) :: (3, t0, 0) :: N ++ (4, s, (F.length : Int) + 1) :: F) := by
                exact PW_kid hw11
              have f13 : fr (fun a => 234 ≤ a ∧ a ≤ 242) S ((w_A V11 238 (w_u (sA V11 238) (((M ++ (kd, a, 1 + c + 1) :: (3, t0, 0) :: N).length : Int)) (((F.length : Int)) + 1)))) := fr_A f11 (by omega)
              generalize (w_A V11 238 (w_u (sA V11 238) (((M ++ (kd, a, 1 + c + 1) :: (3, t0, 0) :: N).length : Int)) (((F.length : Int)) + 1))) = V13 at hw13 f13 ⊢
              refine w_aload_n rfl l0 rfl ?_
              refine w_iload_n rfl l2 rfl ?_
              refine w_iconst rfl rfl ?_
              refine w_iadd rfl rfl ?_
              rcases e244 : px Y (((Y s, td) :: D2)) nn 2100 0 (dp + 1) (q92.1 + 1) [] with _ | q244
              · skip
                refine w_CV (as := [.int (iZ (dp + 1))]) (r := []) rfl rfl rfl rfl sh_234 (Nat.le_of_ble_eq_true rfl) (Nat.le_of_ble_eq_true rfl) (by omega) rfl (w_mono ((CE_all sc 2100).1 _ _ nn Y (((Y s, td) :: D2)) (q92.1 + 1) (M ++ (kd, a, 1 + c + 1) :: (3, t0, 0) :: N ++ (4, s, (F.length : Int) + 1) :: F) (dp + 1) hw13 hn0 (by omega) (by omega) (by omega) (by (try simp only [List.length_append, List.length_cons, List.length_nil, stF_len, stR_len]); omega) (by omega)) (fun v S2 h => h.1 e244)) ?_
                rintro _ V14 ⟨rfl, g14⟩
                show w_T _ _ 47 247 _ [.int (iZ 0)] _ _
                have f14 := fr_trans f13 g14
                refine w_if_ne (pc2 := 252) (pc3 := 250) rfl (by decide) rfl ⟨by decide, by decide⟩ (fun hc => absurd hc (by decide)) (fun _ => ?_)
                refine w_iconst rfl rfl ?_
                refine w_zret rfl rfl (by decide) ?_
                refine SX_n ?_ f14
                rw [hres, ps_4, e92]
                show ((if may = true ∧ td = false ∧ decide (t = 0) = true ∧ Y q92.1 = 123 then _ else if td = false ∧ Y q92.1 = 61 then _ else if Y q92.1 = 44 then _ else if Y q92.1 = 59 then _ else none : SR)).bind _ = _
                rw [if_neg (show ¬ (may = true ∧ td = false ∧ decide (t = 0) = true ∧ Y q92.1 = 123) from by first | exact fun z => by rw [z.1] at c122; exact Bool.noConfusion c122 | exact fun z => by rw [z.2.1] at c126; exact Bool.noConfusion c126 | exact fun z => c131 (of_decide_eq_true z.2.2.1) | exact fun z => c147 z.2.2.2), if_pos ⟨c214, k220⟩, hq2, e244]
                rfl
              · skip
                refine w_CV (as := [.int (iZ (dp + 1))]) (r := []) rfl rfl rfl rfl sh_234 (Nat.le_of_ble_eq_true rfl) (Nat.le_of_ble_eq_true rfl) (by omega) rfl (w_mono ((CE_all sc 2100).1 _ _ nn Y (((Y s, td) :: D2)) (q92.1 + 1) (M ++ (kd, a, 1 + c + 1) :: (3, t0, 0) :: N ++ (4, s, (F.length : Int) + 1) :: F) (dp + 1) hw13 hn0 (by omega) (by omega) (by omega) (by (try simp only [List.length_append, List.length_cons, List.length_nil, stF_len, stR_len]); omega) (by omega)) (fun v S2 h => h.2 _ e244)) ?_
                rintro _ V15 ⟨rfl, g15, hw15⟩
                show w_T _ _ 47 247 _ [.int (iZ 1)] _ _
                have f15 := fr_trans f13 g15
                have r244 := px_r hY 2100 0 (dp + 1) (q92.1 + 1) [] q244 (by omega) (by omega) e244
                rw [if_neg (by decide)] at r244
                have r244b := r244.2.2.2.1.resolve_left (by decide)
                refine w_if_ne (pc2 := 252) (pc3 := 250) rfl (by decide) rfl ⟨by decide, by decide⟩ (fun _ => ?_) (fun hc => absurd hc (by decide))
                refine w_aload_n rfl l0 rfl ?_
                refine w_bipush rfl (by decide) rfl ?_
                by_cases k255 : Y q244.1 = 44
                · skip
                  refine w_CV (as := [.int (iZ 44)]) (r := []) rfl rfl rfl rfl sh_234 (Nat.le_of_ble_eq_true rfl) (Nat.le_of_ble_eq_true rfl) (by omega) rfl (c_tk1 (c := 44) (x := 44) hw15 (by decide) (by decide) (by decide) (by decide) k255 (by omega)) ?_
                  rintro _ V16 ⟨rfl, g16, hw16⟩
                  show w_T _ _ 47 258 _ [.int (iZ 1)] _ _
                  have f16 := fr_trans f15 g16
                  have kl255 := Y_lt hw15 (by decide) k255
                  refine w_if_ne (pc2 := 268) (pc3 := 261) rfl (by decide) rfl ⟨by decide, by decide⟩ (fun _ => ?_) (fun hc => absurd hc (by decide))
                  refine w_iinc rfl (congrArg x_k2 l5) (by decide) rfl ?_
                  refine w_goto (pc2 := 72) rfl (by decide) ?_
                  exact ih td (t + 1) t0 kd ((q244.1 + 1)) ((N ++ ((4, s, (F.length : Int) + 1) :: F ++ q244.2.1))) ((c + 1)) (((Y s, td) :: D2)) mm2 _ _ (by exact l0) (by exact l1) (by exact l2) (by exact l3) (by exact (congrArg x_k2 l4)) (by exact rfl) (by exact f16) (by rw [show 1 + (c + 1) = 1 + c + 1 by omega]; have q := hw16; simpa [List.append_assoc] using q) (by omega) (by omega) (by rw [List.length_cons]; omega) (by rw [hres, ps_4, e92]; show ((if may = true ∧ td = false ∧ decide (t = 0) = true ∧ Y q92.1 = 123 then _ else if td = false ∧ Y q92.1 = 61 then _ else if Y q92.1 = 44 then _ else if Y q92.1 = 59 then _ else none : SR)).bind _ = _; rw [if_neg (show ¬ (may = true ∧ td = false ∧ decide (t = 0) = true ∧ Y q92.1 = 123) from by first | exact fun z => by rw [z.1] at c122; exact Bool.noConfusion c122 | exact fun z => by rw [z.2.1] at c126; exact Bool.noConfusion c126 | exact fun z => c131 (of_decide_eq_true z.2.2.1) | exact fun z => c147 z.2.2.2), if_pos ⟨c214, k220⟩, hq2, e244]; show ((if Y q244.1 = 44 then _ else _ : SR)).bind _ = _; rw [if_pos k255]; rw [show decide (t + 1 = 0) = false from decide_eq_false (by omega)]; cases ps Y nn mm2 4 may td false dp (q244.1 + 1) ((Y s, td) :: D2) with | none => rfl | some r => (show some (r.1, (if r.2.2.2.2 = true then 8 else kd, a, 1 + (c + (1 + r.2.2.1))) :: (3, t0, 0) :: (N ++ (dnd q92.2.1 1 ++ q244.2.1 ++ r.2.1)), (1 : Int), r.2.2.2.1, false) = some (r.1, (if r.2.2.2.2 = true then 8 else kd, a, 1 + (c + 1 + r.2.2.1)) :: (3, t0, 0) :: (N ++ ((4, s, (F.length : Int) + 1) :: F ++ q244.2.1) ++ r.2.1), 1, r.2.2.2.1, false); rw [hd1, show c + 1 + r.2.2.1 = c + (1 + r.2.2.1) by omega]; simp [List.append_assoc])) (by omega) (by omega) (by omega) (by omega) (by (try simp only [List.length_append, List.length_cons, List.length_nil, stF_len, stR_len]); omega) (by intro z; omega) (by omega)
                · skip
                  refine w_CV (as := [.int (iZ 44)]) (r := []) rfl rfl rfl rfl sh_234 (Nat.le_of_ble_eq_true rfl) (Nat.le_of_ble_eq_true rfl) (by omega) rfl (c_tk0 (c := 44) (x := 44) hw15 (by decide) (by decide) (by decide) (by decide) k255 (by omega)) ?_
                  rintro _ V17 ⟨rfl, g17, hw17⟩
                  show w_T _ _ 47 258 _ [.int (iZ 0)] _ _
                  have f17 := fr_trans f15 g17
                  refine w_if_ne (pc2 := 268) (pc3 := 261) rfl (by decide) rfl ⟨by decide, by decide⟩ (fun hc => absurd hc (by decide)) (fun _ => ?_)
                  refine w_aload_n rfl l0 rfl ?_
                  refine w_bipush rfl (by decide) rfl ?_
                  by_cases k264 : Y q244.1 = 59
                  · skip
                    refine w_CV (as := [.int (iZ 59)]) (r := []) rfl rfl rfl rfl sh_234 (Nat.le_of_ble_eq_true rfl) (Nat.le_of_ble_eq_true rfl) (by omega) rfl (c_tk1 (c := 59) (x := 59) hw17 (by decide) (by decide) (by decide) (by decide) k264 (by omega)) ?_
                    rintro _ V18 ⟨rfl, g18, hw18⟩
                    show w_T _ _ 47 267 _ [.int (iZ 1)] _ _
                    have f18 := fr_trans f17 g18
                    have kl264 := Y_lt hw17 (by decide) k264
                    refine w_zret rfl rfl (by decide) ?_
                    refine SX_s (q := (q244.1 + 1, (kd, a, 1 + (c + 1)) :: (3, t0, 0) :: (N ++ (dnd q92.2.1 1 ++ q244.2.1)), 1, ((Y s, td) :: D2), false)) ?_ f18 ?_
                    · rw [hres, ps_4, e92]
                      show ((if may = true ∧ td = false ∧ decide (t = 0) = true ∧ Y q92.1 = 123 then _ else if td = false ∧ Y q92.1 = 61 then _ else if Y q92.1 = 44 then _ else if Y q92.1 = 59 then _ else none : SR)).bind _ = _
                      rw [if_neg (show ¬ (may = true ∧ td = false ∧ decide (t = 0) = true ∧ Y q92.1 = 123) from by first | exact fun z => by rw [z.1] at c122; exact Bool.noConfusion c122 | exact fun z => by rw [z.2.1] at c126; exact Bool.noConfusion c126 | exact fun z => c131 (of_decide_eq_true z.2.2.1) | exact fun z => c147 z.2.2.2), if_pos ⟨c214, k220⟩, hq2, e244]
                      show ((if Y q244.1 = 44 then _ else if Y q244.1 = 59 then _ else none : SR)).bind _ = _
                      rw [if_neg k255, if_pos k264]
                      rfl
                    · have q := hw18
                      rw [hd1]
                      rw [show 1 + (c + 1) = 1 + c + 1 by omega]
                      simpa [List.append_assoc] using q
                  · skip
                    refine w_CV (as := [.int (iZ 59)]) (r := []) rfl rfl rfl rfl sh_234 (Nat.le_of_ble_eq_true rfl) (Nat.le_of_ble_eq_true rfl) (by omega) rfl (c_tk0 (c := 59) (x := 59) hw17 (by decide) (by decide) (by decide) (by decide) k264 (by omega)) ?_
                    rintro _ V19 ⟨rfl, g19, hw19⟩
                    show w_T _ _ 47 267 _ [.int (iZ 0)] _ _
                    have f19 := fr_trans f17 g19
                    refine w_zret rfl rfl (by decide) ?_
                    refine SX_n ?_ f19
                    rw [hres, ps_4, e92]
                    show ((if may = true ∧ td = false ∧ decide (t = 0) = true ∧ Y q92.1 = 123 then _ else if td = false ∧ Y q92.1 = 61 then _ else if Y q92.1 = 44 then _ else if Y q92.1 = 59 then _ else none : SR)).bind _ = _
                    rw [if_neg (show ¬ (may = true ∧ td = false ∧ decide (t = 0) = true ∧ Y q92.1 = 123) from by first | exact fun z => by rw [z.1] at c122; exact Bool.noConfusion c122 | exact fun z => by rw [z.2.1] at c126; exact Bool.noConfusion c126 | exact fun z => c131 (of_decide_eq_true z.2.2.1) | exact fun z => c147 z.2.2.2), if_pos ⟨c214, k220⟩, hq2, e244]
                    show ((if Y q244.1 = 44 then _ else if Y q244.1 = 59 then _ else none : SR)).bind _ = _
                    rw [if_neg k255, if_neg k264]
                    rfl
            · skip
              refine w_CV (as := [.int (iZ 61)]) (r := []) rfl rfl rfl rfl sh_234 (Nat.le_of_ble_eq_true rfl) (Nat.le_of_ble_eq_true rfl) (by omega) rfl (c_tk0 (c := 61) (x := 61) hw6 (by decide) (by decide) (by decide) (by decide) k220 (by omega)) ?_
              rintro _ V12 ⟨rfl, g12, hw12⟩
              show w_T _ _ 47 223 _ [.int (iZ 0)] _ _
              have f12 := fr_trans f6 g12
              refine w_if_eq (pc2 := 252) (pc3 := 226) rfl (by decide) rfl ⟨by decide, by decide⟩ (fun _ => ?_) (fun hc => absurd hc (by decide))
              refine w_aload_n rfl l0 rfl ?_
              refine w_bipush rfl (by decide) rfl ?_
              by_cases k255 : Y q92.1 = 44
              · skip
                refine w_CV (as := [.int (iZ 44)]) (r := []) rfl rfl rfl rfl sh_234 (Nat.le_of_ble_eq_true rfl) (Nat.le_of_ble_eq_true rfl) (by omega) rfl (c_tk1 (c := 44) (x := 44) hw12 (by decide) (by decide) (by decide) (by decide) k255 (by omega)) ?_
                rintro _ V20 ⟨rfl, g20, hw20⟩
                show w_T _ _ 47 258 _ [.int (iZ 1)] _ _
                have f20 := fr_trans f12 g20
                have kl255 := Y_lt hw12 (by decide) k255
                refine w_if_ne (pc2 := 268) (pc3 := 261) rfl (by decide) rfl ⟨by decide, by decide⟩ (fun _ => ?_) (fun hc => absurd hc (by decide))
                refine w_iinc rfl (congrArg x_k2 l5) (by decide) rfl ?_
                refine w_goto (pc2 := 72) rfl (by decide) ?_
                exact ih td (t + 1) t0 kd ((q92.1 + 1)) ((N ++ ((4, s, (F.length : Int)) :: F))) ((c + 1)) (((Y s, td) :: D2)) mm2 _ _ (by exact l0) (by exact l1) (by exact l2) (by exact l3) (by exact (congrArg x_k2 l4)) (by exact rfl) (by exact f20) (by rw [show 1 + (c + 1) = 1 + c + 1 by omega]; have q := hw20; simpa [List.append_assoc] using q) (by omega) (by omega) (by rw [List.length_cons]; omega) (by rw [hres, ps_4, e92]; show ((if may = true ∧ td = false ∧ decide (t = 0) = true ∧ Y q92.1 = 123 then _ else if td = false ∧ Y q92.1 = 61 then _ else if Y q92.1 = 44 then _ else if Y q92.1 = 59 then _ else none : SR)).bind _ = _; rw [if_neg (show ¬ (may = true ∧ td = false ∧ decide (t = 0) = true ∧ Y q92.1 = 123) from by first | exact fun z => by rw [z.1] at c122; exact Bool.noConfusion c122 | exact fun z => by rw [z.2.1] at c126; exact Bool.noConfusion c126 | exact fun z => c131 (of_decide_eq_true z.2.2.1) | exact fun z => c147 z.2.2.2), if_neg (show ¬ (td = false ∧ Y q92.1 = 61) from by first | exact fun z => k220 z.2 | exact fun z => by rw [z.1] at c214; exact Bool.noConfusion c214), if_pos k255, hq2]; rw [show decide (t + 1 = 0) = false from decide_eq_false (by omega)]; cases ps Y nn mm2 4 may td false dp (q92.1 + 1) ((Y s, td) :: D2) with | none => rfl | some r => (show some (r.1, (if r.2.2.2.2 = true then 8 else kd, a, 1 + (c + (1 + r.2.2.1))) :: (3, t0, 0) :: (N ++ (dnd q92.2.1 0 ++ r.2.1)), (1 : Int), r.2.2.2.1, false) = some (r.1, (if r.2.2.2.2 = true then 8 else kd, a, 1 + (c + 1 + r.2.2.1)) :: (3, t0, 0) :: (N ++ ((4, s, (F.length : Int)) :: F) ++ r.2.1), 1, r.2.2.2.1, false); rw [hd0, show c + 1 + r.2.2.1 = c + (1 + r.2.2.1) by omega]; simp [List.append_assoc])) (by omega) (by omega) (by omega) (by omega) (by (try simp only [List.length_append, List.length_cons, List.length_nil, stF_len, stR_len]); omega) (by intro z; omega) (by omega)
              · skip
                refine w_CV (as := [.int (iZ 44)]) (r := []) rfl rfl rfl rfl sh_234 (Nat.le_of_ble_eq_true rfl) (Nat.le_of_ble_eq_true rfl) (by omega) rfl (c_tk0 (c := 44) (x := 44) hw12 (by decide) (by decide) (by decide) (by decide) k255 (by omega)) ?_
                rintro _ V21 ⟨rfl, g21, hw21⟩
                show w_T _ _ 47 258 _ [.int (iZ 0)] _ _
                have f21 := fr_trans f12 g21
                refine w_if_ne (pc2 := 268) (pc3 := 261) rfl (by decide) rfl ⟨by decide, by decide⟩ (fun hc => absurd hc (by decide)) (fun _ => ?_)
                refine w_aload_n rfl l0 rfl ?_
                refine w_bipush rfl (by decide) rfl ?_
                by_cases k264 : Y q92.1 = 59
                · skip
                  refine w_CV (as := [.int (iZ 59)]) (r := []) rfl rfl rfl rfl sh_234 (Nat.le_of_ble_eq_true rfl) (Nat.le_of_ble_eq_true rfl) (by omega) rfl (c_tk1 (c := 59) (x := 59) hw21 (by decide) (by decide) (by decide) (by decide) k264 (by omega)) ?_
                  rintro _ V22 ⟨rfl, g22, hw22⟩
                  show w_T _ _ 47 267 _ [.int (iZ 1)] _ _
                  have f22 := fr_trans f21 g22
                  have kl264 := Y_lt hw21 (by decide) k264
                  refine w_zret rfl rfl (by decide) ?_
                  refine SX_s (q := (q92.1 + 1, (kd, a, 1 + (c + 1)) :: (3, t0, 0) :: (N ++ (dnd q92.2.1 0)), 1, ((Y s, td) :: D2), false)) ?_ f22 ?_
                  · rw [hres, ps_4, e92]
                    show ((if may = true ∧ td = false ∧ decide (t = 0) = true ∧ Y q92.1 = 123 then _ else if td = false ∧ Y q92.1 = 61 then _ else if Y q92.1 = 44 then _ else if Y q92.1 = 59 then _ else none : SR)).bind _ = _
                    rw [if_neg (show ¬ (may = true ∧ td = false ∧ decide (t = 0) = true ∧ Y q92.1 = 123) from by first | exact fun z => by rw [z.1] at c122; exact Bool.noConfusion c122 | exact fun z => by rw [z.2.1] at c126; exact Bool.noConfusion c126 | exact fun z => c131 (of_decide_eq_true z.2.2.1) | exact fun z => c147 z.2.2.2), if_neg (show ¬ (td = false ∧ Y q92.1 = 61) from by first | exact fun z => k220 z.2 | exact fun z => by rw [z.1] at c214; exact Bool.noConfusion c214), if_neg k255, if_pos k264, hq2]
                    rfl
                  · have q := hw22
                    rw [hd0]
                    rw [show 1 + (c + 1) = 1 + c + 1 by omega]
                    simpa [List.append_assoc] using q
                · skip
                  refine w_CV (as := [.int (iZ 59)]) (r := []) rfl rfl rfl rfl sh_234 (Nat.le_of_ble_eq_true rfl) (Nat.le_of_ble_eq_true rfl) (by omega) rfl (c_tk0 (c := 59) (x := 59) hw21 (by decide) (by decide) (by decide) (by decide) k264 (by omega)) ?_
                  rintro _ V23 ⟨rfl, g23, hw23⟩
                  show w_T _ _ 47 267 _ [.int (iZ 0)] _ _
                  have f23 := fr_trans f21 g23
                  refine w_zret rfl rfl (by decide) ?_
                  refine SX_n ?_ f23
                  rw [hres, ps_4, e92]
                  show ((if may = true ∧ td = false ∧ decide (t = 0) = true ∧ Y q92.1 = 123 then _ else if td = false ∧ Y q92.1 = 61 then _ else if Y q92.1 = 44 then _ else if Y q92.1 = 59 then _ else none : SR)).bind _ = _
                  rw [if_neg (show ¬ (may = true ∧ td = false ∧ decide (t = 0) = true ∧ Y q92.1 = 123) from by first | exact fun z => by rw [z.1] at c122; exact Bool.noConfusion c122 | exact fun z => by rw [z.2.1] at c126; exact Bool.noConfusion c126 | exact fun z => c131 (of_decide_eq_true z.2.2.1) | exact fun z => c147 z.2.2.2), if_neg (show ¬ (td = false ∧ Y q92.1 = 61) from by first | exact fun z => k220 z.2 | exact fun z => by rw [z.1] at c214; exact Bool.noConfusion c214), if_neg k255, if_neg k264]
                  rfl
        · skip
          refine w_iload_n rfl l3 rfl ?_
          refine w_b_ne (pc2 := 154) (pc3 := 129) rfl (by decide) rfl (fun c126 => ?_) (fun c126 => ?_)
          · skip
            refine w_iconst rfl rfl ?_
            refine w_istore rfl (by decide) rfl ?_
            refine w_iload rfl rfl rfl ?_
            refine w_if_eq (pc2 := 213) (pc3 := 162) rfl (by decide) rfl ⟨by decide, by decide⟩ (fun _ => ?_) (fun hc => absurd hc (by decide))
            refine w_iload_n rfl l3 rfl ?_
            refine w_b_ne (pc2 := 252) (pc3 := 217) rfl (by decide) rfl (fun c214 => ?_) (fun c214 => ?_)
            · skip
              refine w_aload_n rfl l0 rfl ?_
              refine w_bipush rfl (by decide) rfl ?_
              by_cases k255 : Y q92.1 = 44
              · skip
                refine w_CV (as := [.int (iZ 44)]) (r := []) rfl rfl rfl rfl sh_234 (Nat.le_of_ble_eq_true rfl) (Nat.le_of_ble_eq_true rfl) (by omega) rfl (c_tk1 (c := 44) (x := 44) hw6 (by decide) (by decide) (by decide) (by decide) k255 (by omega)) ?_
                rintro _ V24 ⟨rfl, g24, hw24⟩
                show w_T _ _ 47 258 _ [.int (iZ 1)] _ _
                have f24 := fr_trans f6 g24
                have kl255 := Y_lt hw6 (by decide) k255
                refine w_if_ne (pc2 := 268) (pc3 := 261) rfl (by decide) rfl ⟨by decide, by decide⟩ (fun _ => ?_) (fun hc => absurd hc (by decide))
                refine w_iinc rfl (congrArg x_k2 l5) (by decide) rfl ?_
                refine w_goto (pc2 := 72) rfl (by decide) ?_
                exact ih td (t + 1) t0 kd ((q92.1 + 1)) ((N ++ ((4, s, (F.length : Int)) :: F))) ((c + 1)) (((Y s, td) :: D2)) mm2 _ _ (by exact l0) (by exact l1) (by exact l2) (by exact l3) (by exact (congrArg x_k2 l4)) (by exact rfl) (by exact f24) (by rw [show 1 + (c + 1) = 1 + c + 1 by omega]; have q := hw24; simpa [List.append_assoc] using q) (by omega) (by omega) (by rw [List.length_cons]; omega) (by rw [hres, ps_4, e92]; show ((if may = true ∧ td = false ∧ decide (t = 0) = true ∧ Y q92.1 = 123 then _ else if td = false ∧ Y q92.1 = 61 then _ else if Y q92.1 = 44 then _ else if Y q92.1 = 59 then _ else none : SR)).bind _ = _; rw [if_neg (show ¬ (may = true ∧ td = false ∧ decide (t = 0) = true ∧ Y q92.1 = 123) from by first | exact fun z => by rw [z.1] at c122; exact Bool.noConfusion c122 | exact fun z => by rw [z.2.1] at c126; exact Bool.noConfusion c126 | exact fun z => c131 (of_decide_eq_true z.2.2.1) | exact fun z => c147 z.2.2.2), if_neg (show ¬ (td = false ∧ Y q92.1 = 61) from by first | exact fun z => k220 z.2 | exact fun z => by rw [z.1] at c214; exact Bool.noConfusion c214), if_pos k255, hq2]; rw [show decide (t + 1 = 0) = false from decide_eq_false (by omega)]; cases ps Y nn mm2 4 may td false dp (q92.1 + 1) ((Y s, td) :: D2) with | none => rfl | some r => (show some (r.1, (if r.2.2.2.2 = true then 8 else kd, a, 1 + (c + (1 + r.2.2.1))) :: (3, t0, 0) :: (N ++ (dnd q92.2.1 0 ++ r.2.1)), (1 : Int), r.2.2.2.1, false) = some (r.1, (if r.2.2.2.2 = true then 8 else kd, a, 1 + (c + 1 + r.2.2.1)) :: (3, t0, 0) :: (N ++ ((4, s, (F.length : Int)) :: F) ++ r.2.1), 1, r.2.2.2.1, false); rw [hd0, show c + 1 + r.2.2.1 = c + (1 + r.2.2.1) by omega]; simp [List.append_assoc])) (by omega) (by omega) (by omega) (by omega) (by (try simp only [List.length_append, List.length_cons, List.length_nil, stF_len, stR_len]); omega) (by intro z; omega) (by omega)
              · skip
                refine w_CV (as := [.int (iZ 44)]) (r := []) rfl rfl rfl rfl sh_234 (Nat.le_of_ble_eq_true rfl) (Nat.le_of_ble_eq_true rfl) (by omega) rfl (c_tk0 (c := 44) (x := 44) hw6 (by decide) (by decide) (by decide) (by decide) k255 (by omega)) ?_
                rintro _ V25 ⟨rfl, g25, hw25⟩
                show w_T _ _ 47 258 _ [.int (iZ 0)] _ _
                have f25 := fr_trans f6 g25
                refine w_if_ne (pc2 := 268) (pc3 := 261) rfl (by decide) rfl ⟨by decide, by decide⟩ (fun hc => absurd hc (by decide)) (fun _ => ?_)
                refine w_aload_n rfl l0 rfl ?_
                refine w_bipush rfl (by decide) rfl ?_
                by_cases k264 : Y q92.1 = 59
                · skip
                  refine w_CV (as := [.int (iZ 59)]) (r := []) rfl rfl rfl rfl sh_234 (Nat.le_of_ble_eq_true rfl) (Nat.le_of_ble_eq_true rfl) (by omega) rfl (c_tk1 (c := 59) (x := 59) hw25 (by decide) (by decide) (by decide) (by decide) k264 (by omega)) ?_
                  rintro _ V26 ⟨rfl, g26, hw26⟩
                  show w_T _ _ 47 267 _ [.int (iZ 1)] _ _
                  have f26 := fr_trans f25 g26
                  have kl264 := Y_lt hw25 (by decide) k264
                  refine w_zret rfl rfl (by decide) ?_
                  refine SX_s (q := (q92.1 + 1, (kd, a, 1 + (c + 1)) :: (3, t0, 0) :: (N ++ (dnd q92.2.1 0)), 1, ((Y s, td) :: D2), false)) ?_ f26 ?_
                  · rw [hres, ps_4, e92]
                    show ((if may = true ∧ td = false ∧ decide (t = 0) = true ∧ Y q92.1 = 123 then _ else if td = false ∧ Y q92.1 = 61 then _ else if Y q92.1 = 44 then _ else if Y q92.1 = 59 then _ else none : SR)).bind _ = _
                    rw [if_neg (show ¬ (may = true ∧ td = false ∧ decide (t = 0) = true ∧ Y q92.1 = 123) from by first | exact fun z => by rw [z.1] at c122; exact Bool.noConfusion c122 | exact fun z => by rw [z.2.1] at c126; exact Bool.noConfusion c126 | exact fun z => c131 (of_decide_eq_true z.2.2.1) | exact fun z => c147 z.2.2.2), if_neg (show ¬ (td = false ∧ Y q92.1 = 61) from by first | exact fun z => k220 z.2 | exact fun z => by rw [z.1] at c214; exact Bool.noConfusion c214), if_neg k255, if_pos k264, hq2]
                    rfl
                  · have q := hw26
                    rw [hd0]
                    rw [show 1 + (c + 1) = 1 + c + 1 by omega]
                    simpa [List.append_assoc] using q
                · skip
                  refine w_CV (as := [.int (iZ 59)]) (r := []) rfl rfl rfl rfl sh_234 (Nat.le_of_ble_eq_true rfl) (Nat.le_of_ble_eq_true rfl) (by omega) rfl (c_tk0 (c := 59) (x := 59) hw25 (by decide) (by decide) (by decide) (by decide) k264 (by omega)) ?_
                  rintro _ V27 ⟨rfl, g27, hw27⟩
                  show w_T _ _ 47 267 _ [.int (iZ 0)] _ _
                  have f27 := fr_trans f25 g27
                  refine w_zret rfl rfl (by decide) ?_
                  refine SX_n ?_ f27
                  rw [hres, ps_4, e92]
                  show ((if may = true ∧ td = false ∧ decide (t = 0) = true ∧ Y q92.1 = 123 then _ else if td = false ∧ Y q92.1 = 61 then _ else if Y q92.1 = 44 then _ else if Y q92.1 = 59 then _ else none : SR)).bind _ = _
                  rw [if_neg (show ¬ (may = true ∧ td = false ∧ decide (t = 0) = true ∧ Y q92.1 = 123) from by first | exact fun z => by rw [z.1] at c122; exact Bool.noConfusion c122 | exact fun z => by rw [z.2.1] at c126; exact Bool.noConfusion c126 | exact fun z => c131 (of_decide_eq_true z.2.2.1) | exact fun z => c147 z.2.2.2), if_neg (show ¬ (td = false ∧ Y q92.1 = 61) from by first | exact fun z => k220 z.2 | exact fun z => by rw [z.1] at c214; exact Bool.noConfusion c214), if_neg k255, if_neg k264]
                  rfl
            · skip
              refine w_aload_n rfl l0 rfl ?_
              refine w_bipush rfl (by decide) rfl ?_
              by_cases k220 : Y q92.1 = 61
              · skip
                refine w_CV (as := [.int (iZ 61)]) (r := []) rfl rfl rfl rfl sh_234 (Nat.le_of_ble_eq_true rfl) (Nat.le_of_ble_eq_true rfl) (by omega) rfl (c_tk1 (c := 61) (x := 61) hw6 (by decide) (by decide) (by decide) (by decide) k220 (by omega)) ?_
                rintro _ V28 ⟨rfl, g28, hw28⟩
                show w_T _ _ 47 223 _ [.int (iZ 1)] _ _
                have f28 := fr_trans f6 g28
                have kl220 := Y_lt hw6 (by decide) k220
                refine w_if_eq (pc2 := 252) (pc3 := 226) rfl (by decide) rfl ⟨by decide, by decide⟩ (fun hc => absurd hc (by decide)) (fun _ => ?_)
                refine w_aload_n rfl l0 rfl ?_
                refine w_getR rfl rfl sh_234 rfl rfl ?_
                refine w_getR rfl rfl sh_235 rfl rfl ?_
                refine w_iload rfl rfl rfl ?_
                refine w_dup2 rfl rfl rfl rfl ?_
                refine w_iald (z := (F.length : Int)) rfl sh_238 (by omega) (by omega) (by decide) (trep_g hw28.2.2.2.1).2.2 rfl ?_
                refine w_iconst rfl rfl ?_
                refine w_iadd rfl rfl ?_
                refine w_iaS (f := sA V28 238) rfl sh_238 (by omega) (by omega) (by decide) rfl rfl ?_
                have hw30 : PW ((w_A V28 238 (w_u (sA V28 238) (((M ++ (kd, a, 1 + c + 1) :: (3, t0, 0) :: N).length : Int)) (((F.length : Int)) + 1)))) nn Y ((Y s, td) :: D2) (q92.1 + 1) (M ++ (kd, a, 1 + c + 1) :: (3, t0, 0) :: N ++ (4, s, (F.length : Int) + 1) :: F) := by
                  exact PW_kid hw28
                have f30 : fr (fun a => 234 ≤ a ∧ a ≤ 242) S ((w_A V28 238 (w_u (sA V28 238) (((M ++ (kd, a, 1 + c + 1) :: (3, t0, 0) :: N).length : Int)) (((F.length : Int)) + 1)))) := fr_A f28 (by omega)
                generalize (w_A V28 238 (w_u (sA V28 238) (((M ++ (kd, a, 1 + c + 1) :: (3, t0, 0) :: N).length : Int)) (((F.length : Int)) + 1))) = V30 at hw30 f30 ⊢
                refine w_aload_n rfl l0 rfl ?_
                refine w_iload_n rfl l2 rfl ?_
                refine w_iconst rfl rfl ?_
                refine w_iadd rfl rfl ?_
                rcases e244 : px Y (((Y s, td) :: D2)) nn 2100 0 (dp + 1) (q92.1 + 1) [] with _ | q244
                · skip
                  refine w_CV (as := [.int (iZ (dp + 1))]) (r := []) rfl rfl rfl rfl sh_234 (Nat.le_of_ble_eq_true rfl) (Nat.le_of_ble_eq_true rfl) (by omega) rfl (w_mono ((CE_all sc 2100).1 _ _ nn Y (((Y s, td) :: D2)) (q92.1 + 1) (M ++ (kd, a, 1 + c + 1) :: (3, t0, 0) :: N ++ (4, s, (F.length : Int) + 1) :: F) (dp + 1) hw30 hn0 (by omega) (by omega) (by omega) (by (try simp only [List.length_append, List.length_cons, List.length_nil, stF_len, stR_len]); omega) (by omega)) (fun v S2 h => h.1 e244)) ?_
                  rintro _ V31 ⟨rfl, g31⟩
                  show w_T _ _ 47 247 _ [.int (iZ 0)] _ _
                  have f31 := fr_trans f30 g31
                  refine w_if_ne (pc2 := 252) (pc3 := 250) rfl (by decide) rfl ⟨by decide, by decide⟩ (fun hc => absurd hc (by decide)) (fun _ => ?_)
                  refine w_iconst rfl rfl ?_
                  refine w_zret rfl rfl (by decide) ?_
                  refine SX_n ?_ f31
                  rw [hres, ps_4, e92]
                  show ((if may = true ∧ td = false ∧ decide (t = 0) = true ∧ Y q92.1 = 123 then _ else if td = false ∧ Y q92.1 = 61 then _ else if Y q92.1 = 44 then _ else if Y q92.1 = 59 then _ else none : SR)).bind _ = _
                  rw [if_neg (show ¬ (may = true ∧ td = false ∧ decide (t = 0) = true ∧ Y q92.1 = 123) from by first | exact fun z => by rw [z.1] at c122; exact Bool.noConfusion c122 | exact fun z => by rw [z.2.1] at c126; exact Bool.noConfusion c126 | exact fun z => c131 (of_decide_eq_true z.2.2.1) | exact fun z => c147 z.2.2.2), if_pos ⟨c214, k220⟩, hq2, e244]
                  rfl
                · skip
                  refine w_CV (as := [.int (iZ (dp + 1))]) (r := []) rfl rfl rfl rfl sh_234 (Nat.le_of_ble_eq_true rfl) (Nat.le_of_ble_eq_true rfl) (by omega) rfl (w_mono ((CE_all sc 2100).1 _ _ nn Y (((Y s, td) :: D2)) (q92.1 + 1) (M ++ (kd, a, 1 + c + 1) :: (3, t0, 0) :: N ++ (4, s, (F.length : Int) + 1) :: F) (dp + 1) hw30 hn0 (by omega) (by omega) (by omega) (by (try simp only [List.length_append, List.length_cons, List.length_nil, stF_len, stR_len]); omega) (by omega)) (fun v S2 h => h.2 _ e244)) ?_
                  rintro _ V32 ⟨rfl, g32, hw32⟩
                  show w_T _ _ 47 247 _ [.int (iZ 1)] _ _
                  have f32 := fr_trans f30 g32
                  have r244 := px_r hY 2100 0 (dp + 1) (q92.1 + 1) [] q244 (by omega) (by omega) e244
                  rw [if_neg (by decide)] at r244
                  have r244b := r244.2.2.2.1.resolve_left (by decide)
                  refine w_if_ne (pc2 := 252) (pc3 := 250) rfl (by decide) rfl ⟨by decide, by decide⟩ (fun _ => ?_) (fun hc => absurd hc (by decide))
                  refine w_aload_n rfl l0 rfl ?_
                  refine w_bipush rfl (by decide) rfl ?_
                  by_cases k255 : Y q244.1 = 44
                  · skip
                    refine w_CV (as := [.int (iZ 44)]) (r := []) rfl rfl rfl rfl sh_234 (Nat.le_of_ble_eq_true rfl) (Nat.le_of_ble_eq_true rfl) (by omega) rfl (c_tk1 (c := 44) (x := 44) hw32 (by decide) (by decide) (by decide) (by decide) k255 (by omega)) ?_
                    rintro _ V33 ⟨rfl, g33, hw33⟩
                    show w_T _ _ 47 258 _ [.int (iZ 1)] _ _
                    have f33 := fr_trans f32 g33
                    have kl255 := Y_lt hw32 (by decide) k255
                    refine w_if_ne (pc2 := 268) (pc3 := 261) rfl (by decide) rfl ⟨by decide, by decide⟩ (fun _ => ?_) (fun hc => absurd hc (by decide))
                    refine w_iinc rfl (congrArg x_k2 l5) (by decide) rfl ?_
                    refine w_goto (pc2 := 72) rfl (by decide) ?_
                    exact ih td (t + 1) t0 kd ((q244.1 + 1)) ((N ++ ((4, s, (F.length : Int) + 1) :: F ++ q244.2.1))) ((c + 1)) (((Y s, td) :: D2)) mm2 _ _ (by exact l0) (by exact l1) (by exact l2) (by exact l3) (by exact (congrArg x_k2 l4)) (by exact rfl) (by exact f33) (by rw [show 1 + (c + 1) = 1 + c + 1 by omega]; have q := hw33; simpa [List.append_assoc] using q) (by omega) (by omega) (by rw [List.length_cons]; omega) (by rw [hres, ps_4, e92]; show ((if may = true ∧ td = false ∧ decide (t = 0) = true ∧ Y q92.1 = 123 then _ else if td = false ∧ Y q92.1 = 61 then _ else if Y q92.1 = 44 then _ else if Y q92.1 = 59 then _ else none : SR)).bind _ = _; rw [if_neg (show ¬ (may = true ∧ td = false ∧ decide (t = 0) = true ∧ Y q92.1 = 123) from by first | exact fun z => by rw [z.1] at c122; exact Bool.noConfusion c122 | exact fun z => by rw [z.2.1] at c126; exact Bool.noConfusion c126 | exact fun z => c131 (of_decide_eq_true z.2.2.1) | exact fun z => c147 z.2.2.2), if_pos ⟨c214, k220⟩, hq2, e244]; show ((if Y q244.1 = 44 then _ else _ : SR)).bind _ = _; rw [if_pos k255]; rw [show decide (t + 1 = 0) = false from decide_eq_false (by omega)]; cases ps Y nn mm2 4 may td false dp (q244.1 + 1) ((Y s, td) :: D2) with | none => rfl | some r => (show some (r.1, (if r.2.2.2.2 = true then 8 else kd, a, 1 + (c + (1 + r.2.2.1))) :: (3, t0, 0) :: (N ++ (dnd q92.2.1 1 ++ q244.2.1 ++ r.2.1)), (1 : Int), r.2.2.2.1, false) = some (r.1, (if r.2.2.2.2 = true then 8 else kd, a, 1 + (c + 1 + r.2.2.1)) :: (3, t0, 0) :: (N ++ ((4, s, (F.length : Int) + 1) :: F ++ q244.2.1) ++ r.2.1), 1, r.2.2.2.1, false); rw [hd1, show c + 1 + r.2.2.1 = c + (1 + r.2.2.1) by omega]; simp [List.append_assoc])) (by omega) (by omega) (by omega) (by omega) (by (try simp only [List.length_append, List.length_cons, List.length_nil, stF_len, stR_len]); omega) (by intro z; omega) (by omega)
                  · skip
                    refine w_CV (as := [.int (iZ 44)]) (r := []) rfl rfl rfl rfl sh_234 (Nat.le_of_ble_eq_true rfl) (Nat.le_of_ble_eq_true rfl) (by omega) rfl (c_tk0 (c := 44) (x := 44) hw32 (by decide) (by decide) (by decide) (by decide) k255 (by omega)) ?_
                    rintro _ V34 ⟨rfl, g34, hw34⟩
                    show w_T _ _ 47 258 _ [.int (iZ 0)] _ _
                    have f34 := fr_trans f32 g34
                    refine w_if_ne (pc2 := 268) (pc3 := 261) rfl (by decide) rfl ⟨by decide, by decide⟩ (fun hc => absurd hc (by decide)) (fun _ => ?_)
                    refine w_aload_n rfl l0 rfl ?_
                    refine w_bipush rfl (by decide) rfl ?_
                    by_cases k264 : Y q244.1 = 59
                    · skip
                      refine w_CV (as := [.int (iZ 59)]) (r := []) rfl rfl rfl rfl sh_234 (Nat.le_of_ble_eq_true rfl) (Nat.le_of_ble_eq_true rfl) (by omega) rfl (c_tk1 (c := 59) (x := 59) hw34 (by decide) (by decide) (by decide) (by decide) k264 (by omega)) ?_
                      rintro _ V35 ⟨rfl, g35, hw35⟩
                      show w_T _ _ 47 267 _ [.int (iZ 1)] _ _
                      have f35 := fr_trans f34 g35
                      have kl264 := Y_lt hw34 (by decide) k264
                      refine w_zret rfl rfl (by decide) ?_
                      refine SX_s (q := (q244.1 + 1, (kd, a, 1 + (c + 1)) :: (3, t0, 0) :: (N ++ (dnd q92.2.1 1 ++ q244.2.1)), 1, ((Y s, td) :: D2), false)) ?_ f35 ?_
                      · rw [hres, ps_4, e92]
                        show ((if may = true ∧ td = false ∧ decide (t = 0) = true ∧ Y q92.1 = 123 then _ else if td = false ∧ Y q92.1 = 61 then _ else if Y q92.1 = 44 then _ else if Y q92.1 = 59 then _ else none : SR)).bind _ = _
                        rw [if_neg (show ¬ (may = true ∧ td = false ∧ decide (t = 0) = true ∧ Y q92.1 = 123) from by first | exact fun z => by rw [z.1] at c122; exact Bool.noConfusion c122 | exact fun z => by rw [z.2.1] at c126; exact Bool.noConfusion c126 | exact fun z => c131 (of_decide_eq_true z.2.2.1) | exact fun z => c147 z.2.2.2), if_pos ⟨c214, k220⟩, hq2, e244]
                        show ((if Y q244.1 = 44 then _ else if Y q244.1 = 59 then _ else none : SR)).bind _ = _
                        rw [if_neg k255, if_pos k264]
                        rfl
                      · have q := hw35
                        rw [hd1]
                        rw [show 1 + (c + 1) = 1 + c + 1 by omega]
                        simpa [List.append_assoc] using q
                    · skip
                      refine w_CV (as := [.int (iZ 59)]) (r := []) rfl rfl rfl rfl sh_234 (Nat.le_of_ble_eq_true rfl) (Nat.le_of_ble_eq_true rfl) (by omega) rfl (c_tk0 (c := 59) (x := 59) hw34 (by decide) (by decide) (by decide) (by decide) k264 (by omega)) ?_
                      rintro _ V36 ⟨rfl, g36, hw36⟩
                      show w_T _ _ 47 267 _ [.int (iZ 0)] _ _
                      have f36 := fr_trans f34 g36
                      refine w_zret rfl rfl (by decide) ?_
                      refine SX_n ?_ f36
                      rw [hres, ps_4, e92]
                      show ((if may = true ∧ td = false ∧ decide (t = 0) = true ∧ Y q92.1 = 123 then _ else if td = false ∧ Y q92.1 = 61 then _ else if Y q92.1 = 44 then _ else if Y q92.1 = 59 then _ else none : SR)).bind _ = _
                      rw [if_neg (show ¬ (may = true ∧ td = false ∧ decide (t = 0) = true ∧ Y q92.1 = 123) from by first | exact fun z => by rw [z.1] at c122; exact Bool.noConfusion c122 | exact fun z => by rw [z.2.1] at c126; exact Bool.noConfusion c126 | exact fun z => c131 (of_decide_eq_true z.2.2.1) | exact fun z => c147 z.2.2.2), if_pos ⟨c214, k220⟩, hq2, e244]
                      show ((if Y q244.1 = 44 then _ else if Y q244.1 = 59 then _ else none : SR)).bind _ = _
                      rw [if_neg k255, if_neg k264]
                      rfl
              · skip
                refine w_CV (as := [.int (iZ 61)]) (r := []) rfl rfl rfl rfl sh_234 (Nat.le_of_ble_eq_true rfl) (Nat.le_of_ble_eq_true rfl) (by omega) rfl (c_tk0 (c := 61) (x := 61) hw6 (by decide) (by decide) (by decide) (by decide) k220 (by omega)) ?_
                rintro _ V29 ⟨rfl, g29, hw29⟩
                show w_T _ _ 47 223 _ [.int (iZ 0)] _ _
                have f29 := fr_trans f6 g29
                refine w_if_eq (pc2 := 252) (pc3 := 226) rfl (by decide) rfl ⟨by decide, by decide⟩ (fun _ => ?_) (fun hc => absurd hc (by decide))
                refine w_aload_n rfl l0 rfl ?_
                refine w_bipush rfl (by decide) rfl ?_
                by_cases k255 : Y q92.1 = 44
                · skip
                  refine w_CV (as := [.int (iZ 44)]) (r := []) rfl rfl rfl rfl sh_234 (Nat.le_of_ble_eq_true rfl) (Nat.le_of_ble_eq_true rfl) (by omega) rfl (c_tk1 (c := 44) (x := 44) hw29 (by decide) (by decide) (by decide) (by decide) k255 (by omega)) ?_
                  rintro _ V37 ⟨rfl, g37, hw37⟩
                  show w_T _ _ 47 258 _ [.int (iZ 1)] _ _
                  have f37 := fr_trans f29 g37
                  have kl255 := Y_lt hw29 (by decide) k255
                  refine w_if_ne (pc2 := 268) (pc3 := 261) rfl (by decide) rfl ⟨by decide, by decide⟩ (fun _ => ?_) (fun hc => absurd hc (by decide))
                  refine w_iinc rfl (congrArg x_k2 l5) (by decide) rfl ?_
                  refine w_goto (pc2 := 72) rfl (by decide) ?_
                  exact ih td (t + 1) t0 kd ((q92.1 + 1)) ((N ++ ((4, s, (F.length : Int)) :: F))) ((c + 1)) (((Y s, td) :: D2)) mm2 _ _ (by exact l0) (by exact l1) (by exact l2) (by exact l3) (by exact (congrArg x_k2 l4)) (by exact rfl) (by exact f37) (by rw [show 1 + (c + 1) = 1 + c + 1 by omega]; have q := hw37; simpa [List.append_assoc] using q) (by omega) (by omega) (by rw [List.length_cons]; omega) (by rw [hres, ps_4, e92]; show ((if may = true ∧ td = false ∧ decide (t = 0) = true ∧ Y q92.1 = 123 then _ else if td = false ∧ Y q92.1 = 61 then _ else if Y q92.1 = 44 then _ else if Y q92.1 = 59 then _ else none : SR)).bind _ = _; rw [if_neg (show ¬ (may = true ∧ td = false ∧ decide (t = 0) = true ∧ Y q92.1 = 123) from by first | exact fun z => by rw [z.1] at c122; exact Bool.noConfusion c122 | exact fun z => by rw [z.2.1] at c126; exact Bool.noConfusion c126 | exact fun z => c131 (of_decide_eq_true z.2.2.1) | exact fun z => c147 z.2.2.2), if_neg (show ¬ (td = false ∧ Y q92.1 = 61) from by first | exact fun z => k220 z.2 | exact fun z => by rw [z.1] at c214; exact Bool.noConfusion c214), if_pos k255, hq2]; rw [show decide (t + 1 = 0) = false from decide_eq_false (by omega)]; cases ps Y nn mm2 4 may td false dp (q92.1 + 1) ((Y s, td) :: D2) with | none => rfl | some r => (show some (r.1, (if r.2.2.2.2 = true then 8 else kd, a, 1 + (c + (1 + r.2.2.1))) :: (3, t0, 0) :: (N ++ (dnd q92.2.1 0 ++ r.2.1)), (1 : Int), r.2.2.2.1, false) = some (r.1, (if r.2.2.2.2 = true then 8 else kd, a, 1 + (c + 1 + r.2.2.1)) :: (3, t0, 0) :: (N ++ ((4, s, (F.length : Int)) :: F) ++ r.2.1), 1, r.2.2.2.1, false); rw [hd0, show c + 1 + r.2.2.1 = c + (1 + r.2.2.1) by omega]; simp [List.append_assoc])) (by omega) (by omega) (by omega) (by omega) (by (try simp only [List.length_append, List.length_cons, List.length_nil, stF_len, stR_len]); omega) (by intro z; omega) (by omega)
                · skip
                  refine w_CV (as := [.int (iZ 44)]) (r := []) rfl rfl rfl rfl sh_234 (Nat.le_of_ble_eq_true rfl) (Nat.le_of_ble_eq_true rfl) (by omega) rfl (c_tk0 (c := 44) (x := 44) hw29 (by decide) (by decide) (by decide) (by decide) k255 (by omega)) ?_
                  rintro _ V38 ⟨rfl, g38, hw38⟩
                  show w_T _ _ 47 258 _ [.int (iZ 0)] _ _
                  have f38 := fr_trans f29 g38
                  refine w_if_ne (pc2 := 268) (pc3 := 261) rfl (by decide) rfl ⟨by decide, by decide⟩ (fun hc => absurd hc (by decide)) (fun _ => ?_)
                  refine w_aload_n rfl l0 rfl ?_
                  refine w_bipush rfl (by decide) rfl ?_
                  by_cases k264 : Y q92.1 = 59
                  · skip
                    refine w_CV (as := [.int (iZ 59)]) (r := []) rfl rfl rfl rfl sh_234 (Nat.le_of_ble_eq_true rfl) (Nat.le_of_ble_eq_true rfl) (by omega) rfl (c_tk1 (c := 59) (x := 59) hw38 (by decide) (by decide) (by decide) (by decide) k264 (by omega)) ?_
                    rintro _ V39 ⟨rfl, g39, hw39⟩
                    show w_T _ _ 47 267 _ [.int (iZ 1)] _ _
                    have f39 := fr_trans f38 g39
                    have kl264 := Y_lt hw38 (by decide) k264
                    refine w_zret rfl rfl (by decide) ?_
                    refine SX_s (q := (q92.1 + 1, (kd, a, 1 + (c + 1)) :: (3, t0, 0) :: (N ++ (dnd q92.2.1 0)), 1, ((Y s, td) :: D2), false)) ?_ f39 ?_
                    · rw [hres, ps_4, e92]
                      show ((if may = true ∧ td = false ∧ decide (t = 0) = true ∧ Y q92.1 = 123 then _ else if td = false ∧ Y q92.1 = 61 then _ else if Y q92.1 = 44 then _ else if Y q92.1 = 59 then _ else none : SR)).bind _ = _
                      rw [if_neg (show ¬ (may = true ∧ td = false ∧ decide (t = 0) = true ∧ Y q92.1 = 123) from by first | exact fun z => by rw [z.1] at c122; exact Bool.noConfusion c122 | exact fun z => by rw [z.2.1] at c126; exact Bool.noConfusion c126 | exact fun z => c131 (of_decide_eq_true z.2.2.1) | exact fun z => c147 z.2.2.2), if_neg (show ¬ (td = false ∧ Y q92.1 = 61) from by first | exact fun z => k220 z.2 | exact fun z => by rw [z.1] at c214; exact Bool.noConfusion c214), if_neg k255, if_pos k264, hq2]
                      rfl
                    · have q := hw39
                      rw [hd0]
                      rw [show 1 + (c + 1) = 1 + c + 1 by omega]
                      simpa [List.append_assoc] using q
                  · skip
                    refine w_CV (as := [.int (iZ 59)]) (r := []) rfl rfl rfl rfl sh_234 (Nat.le_of_ble_eq_true rfl) (Nat.le_of_ble_eq_true rfl) (by omega) rfl (c_tk0 (c := 59) (x := 59) hw38 (by decide) (by decide) (by decide) (by decide) k264 (by omega)) ?_
                    rintro _ V40 ⟨rfl, g40, hw40⟩
                    show w_T _ _ 47 267 _ [.int (iZ 0)] _ _
                    have f40 := fr_trans f38 g40
                    refine w_zret rfl rfl (by decide) ?_
                    refine SX_n ?_ f40
                    rw [hres, ps_4, e92]
                    show ((if may = true ∧ td = false ∧ decide (t = 0) = true ∧ Y q92.1 = 123 then _ else if td = false ∧ Y q92.1 = 61 then _ else if Y q92.1 = 44 then _ else if Y q92.1 = 59 then _ else none : SR)).bind _ = _
                    rw [if_neg (show ¬ (may = true ∧ td = false ∧ decide (t = 0) = true ∧ Y q92.1 = 123) from by first | exact fun z => by rw [z.1] at c122; exact Bool.noConfusion c122 | exact fun z => by rw [z.2.1] at c126; exact Bool.noConfusion c126 | exact fun z => c131 (of_decide_eq_true z.2.2.1) | exact fun z => c147 z.2.2.2), if_neg (show ¬ (td = false ∧ Y q92.1 = 61) from by first | exact fun z => k220 z.2 | exact fun z => by rw [z.1] at c214; exact Bool.noConfusion c214), if_neg k255, if_neg k264]
                    rfl
          · skip
            refine w_iload rfl (congrArg x_k2 l5) rfl ?_
            refine w_if_ne (pc2 := 154) (pc3 := 134) rfl (by decide) rfl ⟨by omega, by omega⟩ (fun c131 => ?_) (fun c131 => ?_)
            · skip
              refine w_iconst rfl rfl ?_
              refine w_istore rfl (by decide) rfl ?_
              refine w_iload rfl rfl rfl ?_
              refine w_if_eq (pc2 := 213) (pc3 := 162) rfl (by decide) rfl ⟨by decide, by decide⟩ (fun _ => ?_) (fun hc => absurd hc (by decide))
              refine w_iload_n rfl l3 rfl ?_
              refine w_b_ne (pc2 := 252) (pc3 := 217) rfl (by decide) rfl (fun c214 => ?_) (fun c214 => ?_)
              · skip
                refine w_aload_n rfl l0 rfl ?_
                refine w_bipush rfl (by decide) rfl ?_
                by_cases k255 : Y q92.1 = 44
                · skip
                  refine w_CV (as := [.int (iZ 44)]) (r := []) rfl rfl rfl rfl sh_234 (Nat.le_of_ble_eq_true rfl) (Nat.le_of_ble_eq_true rfl) (by omega) rfl (c_tk1 (c := 44) (x := 44) hw6 (by decide) (by decide) (by decide) (by decide) k255 (by omega)) ?_
                  rintro _ V41 ⟨rfl, g41, hw41⟩
                  show w_T _ _ 47 258 _ [.int (iZ 1)] _ _
                  have f41 := fr_trans f6 g41
                  have kl255 := Y_lt hw6 (by decide) k255
                  refine w_if_ne (pc2 := 268) (pc3 := 261) rfl (by decide) rfl ⟨by decide, by decide⟩ (fun _ => ?_) (fun hc => absurd hc (by decide))
                  refine w_iinc rfl (congrArg x_k2 l5) (by decide) rfl ?_
                  refine w_goto (pc2 := 72) rfl (by decide) ?_
                  exact ih td (t + 1) t0 kd ((q92.1 + 1)) ((N ++ ((4, s, (F.length : Int)) :: F))) ((c + 1)) (((Y s, td) :: D2)) mm2 _ _ (by exact l0) (by exact l1) (by exact l2) (by exact l3) (by exact (congrArg x_k2 l4)) (by exact rfl) (by exact f41) (by rw [show 1 + (c + 1) = 1 + c + 1 by omega]; have q := hw41; simpa [List.append_assoc] using q) (by omega) (by omega) (by rw [List.length_cons]; omega) (by rw [hres, ps_4, e92]; show ((if may = true ∧ td = false ∧ decide (t = 0) = true ∧ Y q92.1 = 123 then _ else if td = false ∧ Y q92.1 = 61 then _ else if Y q92.1 = 44 then _ else if Y q92.1 = 59 then _ else none : SR)).bind _ = _; rw [if_neg (show ¬ (may = true ∧ td = false ∧ decide (t = 0) = true ∧ Y q92.1 = 123) from by first | exact fun z => by rw [z.1] at c122; exact Bool.noConfusion c122 | exact fun z => by rw [z.2.1] at c126; exact Bool.noConfusion c126 | exact fun z => c131 (of_decide_eq_true z.2.2.1) | exact fun z => c147 z.2.2.2), if_neg (show ¬ (td = false ∧ Y q92.1 = 61) from by first | exact fun z => k220 z.2 | exact fun z => by rw [z.1] at c214; exact Bool.noConfusion c214), if_pos k255, hq2]; rw [show decide (t + 1 = 0) = false from decide_eq_false (by omega)]; cases ps Y nn mm2 4 may td false dp (q92.1 + 1) ((Y s, td) :: D2) with | none => rfl | some r => (show some (r.1, (if r.2.2.2.2 = true then 8 else kd, a, 1 + (c + (1 + r.2.2.1))) :: (3, t0, 0) :: (N ++ (dnd q92.2.1 0 ++ r.2.1)), (1 : Int), r.2.2.2.1, false) = some (r.1, (if r.2.2.2.2 = true then 8 else kd, a, 1 + (c + 1 + r.2.2.1)) :: (3, t0, 0) :: (N ++ ((4, s, (F.length : Int)) :: F) ++ r.2.1), 1, r.2.2.2.1, false); rw [hd0, show c + 1 + r.2.2.1 = c + (1 + r.2.2.1) by omega]; simp [List.append_assoc])) (by omega) (by omega) (by omega) (by omega) (by (try simp only [List.length_append, List.length_cons, List.length_nil, stF_len, stR_len]); omega) (by intro z; omega) (by omega)
                · skip
                  refine w_CV (as := [.int (iZ 44)]) (r := []) rfl rfl rfl rfl sh_234 (Nat.le_of_ble_eq_true rfl) (Nat.le_of_ble_eq_true rfl) (by omega) rfl (c_tk0 (c := 44) (x := 44) hw6 (by decide) (by decide) (by decide) (by decide) k255 (by omega)) ?_
                  rintro _ V42 ⟨rfl, g42, hw42⟩
                  show w_T _ _ 47 258 _ [.int (iZ 0)] _ _
                  have f42 := fr_trans f6 g42
                  refine w_if_ne (pc2 := 268) (pc3 := 261) rfl (by decide) rfl ⟨by decide, by decide⟩ (fun hc => absurd hc (by decide)) (fun _ => ?_)
                  refine w_aload_n rfl l0 rfl ?_
                  refine w_bipush rfl (by decide) rfl ?_
                  by_cases k264 : Y q92.1 = 59
                  · skip
                    refine w_CV (as := [.int (iZ 59)]) (r := []) rfl rfl rfl rfl sh_234 (Nat.le_of_ble_eq_true rfl) (Nat.le_of_ble_eq_true rfl) (by omega) rfl (c_tk1 (c := 59) (x := 59) hw42 (by decide) (by decide) (by decide) (by decide) k264 (by omega)) ?_
                    rintro _ V43 ⟨rfl, g43, hw43⟩
                    show w_T _ _ 47 267 _ [.int (iZ 1)] _ _
                    have f43 := fr_trans f42 g43
                    have kl264 := Y_lt hw42 (by decide) k264
                    refine w_zret rfl rfl (by decide) ?_
                    refine SX_s (q := (q92.1 + 1, (kd, a, 1 + (c + 1)) :: (3, t0, 0) :: (N ++ (dnd q92.2.1 0)), 1, ((Y s, td) :: D2), false)) ?_ f43 ?_
                    · rw [hres, ps_4, e92]
                      show ((if may = true ∧ td = false ∧ decide (t = 0) = true ∧ Y q92.1 = 123 then _ else if td = false ∧ Y q92.1 = 61 then _ else if Y q92.1 = 44 then _ else if Y q92.1 = 59 then _ else none : SR)).bind _ = _
                      rw [if_neg (show ¬ (may = true ∧ td = false ∧ decide (t = 0) = true ∧ Y q92.1 = 123) from by first | exact fun z => by rw [z.1] at c122; exact Bool.noConfusion c122 | exact fun z => by rw [z.2.1] at c126; exact Bool.noConfusion c126 | exact fun z => c131 (of_decide_eq_true z.2.2.1) | exact fun z => c147 z.2.2.2), if_neg (show ¬ (td = false ∧ Y q92.1 = 61) from by first | exact fun z => k220 z.2 | exact fun z => by rw [z.1] at c214; exact Bool.noConfusion c214), if_neg k255, if_pos k264, hq2]
                      rfl
                    · have q := hw43
                      rw [hd0]
                      rw [show 1 + (c + 1) = 1 + c + 1 by omega]
                      simpa [List.append_assoc] using q
                  · skip
                    refine w_CV (as := [.int (iZ 59)]) (r := []) rfl rfl rfl rfl sh_234 (Nat.le_of_ble_eq_true rfl) (Nat.le_of_ble_eq_true rfl) (by omega) rfl (c_tk0 (c := 59) (x := 59) hw42 (by decide) (by decide) (by decide) (by decide) k264 (by omega)) ?_
                    rintro _ V44 ⟨rfl, g44, hw44⟩
                    show w_T _ _ 47 267 _ [.int (iZ 0)] _ _
                    have f44 := fr_trans f42 g44
                    refine w_zret rfl rfl (by decide) ?_
                    refine SX_n ?_ f44
                    rw [hres, ps_4, e92]
                    show ((if may = true ∧ td = false ∧ decide (t = 0) = true ∧ Y q92.1 = 123 then _ else if td = false ∧ Y q92.1 = 61 then _ else if Y q92.1 = 44 then _ else if Y q92.1 = 59 then _ else none : SR)).bind _ = _
                    rw [if_neg (show ¬ (may = true ∧ td = false ∧ decide (t = 0) = true ∧ Y q92.1 = 123) from by first | exact fun z => by rw [z.1] at c122; exact Bool.noConfusion c122 | exact fun z => by rw [z.2.1] at c126; exact Bool.noConfusion c126 | exact fun z => c131 (of_decide_eq_true z.2.2.1) | exact fun z => c147 z.2.2.2), if_neg (show ¬ (td = false ∧ Y q92.1 = 61) from by first | exact fun z => k220 z.2 | exact fun z => by rw [z.1] at c214; exact Bool.noConfusion c214), if_neg k255, if_neg k264]
                    rfl
              · skip
                refine w_aload_n rfl l0 rfl ?_
                refine w_bipush rfl (by decide) rfl ?_
                by_cases k220 : Y q92.1 = 61
                · skip
                  refine w_CV (as := [.int (iZ 61)]) (r := []) rfl rfl rfl rfl sh_234 (Nat.le_of_ble_eq_true rfl) (Nat.le_of_ble_eq_true rfl) (by omega) rfl (c_tk1 (c := 61) (x := 61) hw6 (by decide) (by decide) (by decide) (by decide) k220 (by omega)) ?_
                  rintro _ V45 ⟨rfl, g45, hw45⟩
                  show w_T _ _ 47 223 _ [.int (iZ 1)] _ _
                  have f45 := fr_trans f6 g45
                  have kl220 := Y_lt hw6 (by decide) k220
                  refine w_if_eq (pc2 := 252) (pc3 := 226) rfl (by decide) rfl ⟨by decide, by decide⟩ (fun hc => absurd hc (by decide)) (fun _ => ?_)
                  refine w_aload_n rfl l0 rfl ?_
                  refine w_getR rfl rfl sh_234 rfl rfl ?_
                  refine w_getR rfl rfl sh_235 rfl rfl ?_
                  refine w_iload rfl rfl rfl ?_
                  refine w_dup2 rfl rfl rfl rfl ?_
                  refine w_iald (z := (F.length : Int)) rfl sh_238 (by omega) (by omega) (by decide) (trep_g hw45.2.2.2.1).2.2 rfl ?_
                  refine w_iconst rfl rfl ?_
                  refine w_iadd rfl rfl ?_
                  refine w_iaS (f := sA V45 238) rfl sh_238 (by omega) (by omega) (by decide) rfl rfl ?_
                  have hw47 : PW ((w_A V45 238 (w_u (sA V45 238) (((M ++ (kd, a, 1 + c + 1) :: (3, t0, 0) :: N).length : Int)) (((F.length : Int)) + 1)))) nn Y ((Y s, td) :: D2) (q92.1 + 1) (M ++ (kd, a, 1 + c + 1) :: (3, t0, 0) :: N ++ (4, s, (F.length : Int) + 1) :: F) := by
                    exact PW_kid hw45
                  have f47 : fr (fun a => 234 ≤ a ∧ a ≤ 242) S ((w_A V45 238 (w_u (sA V45 238) (((M ++ (kd, a, 1 + c + 1) :: (3, t0, 0) :: N).length : Int)) (((F.length : Int)) + 1)))) := fr_A f45 (by omega)
                  generalize (w_A V45 238 (w_u (sA V45 238) (((M ++ (kd, a, 1 + c + 1) :: (3, t0, 0) :: N).length : Int)) (((F.length : Int)) + 1))) = V47 at hw47 f47 ⊢
                  refine w_aload_n rfl l0 rfl ?_
                  refine w_iload_n rfl l2 rfl ?_
                  refine w_iconst rfl rfl ?_
                  refine w_iadd rfl rfl ?_
                  rcases e244 : px Y (((Y s, td) :: D2)) nn 2100 0 (dp + 1) (q92.1 + 1) [] with _ | q244
                  · skip
                    refine w_CV (as := [.int (iZ (dp + 1))]) (r := []) rfl rfl rfl rfl sh_234 (Nat.le_of_ble_eq_true rfl) (Nat.le_of_ble_eq_true rfl) (by omega) rfl (w_mono ((CE_all sc 2100).1 _ _ nn Y (((Y s, td) :: D2)) (q92.1 + 1) (M ++ (kd, a, 1 + c + 1) :: (3, t0, 0) :: N ++ (4, s, (F.length : Int) + 1) :: F) (dp + 1) hw47 hn0 (by omega) (by omega) (by omega) (by (try simp only [List.length_append, List.length_cons, List.length_nil, stF_len, stR_len]); omega) (by omega)) (fun v S2 h => h.1 e244)) ?_
                    rintro _ V48 ⟨rfl, g48⟩
                    show w_T _ _ 47 247 _ [.int (iZ 0)] _ _
                    have f48 := fr_trans f47 g48
                    refine w_if_ne (pc2 := 252) (pc3 := 250) rfl (by decide) rfl ⟨by decide, by decide⟩ (fun hc => absurd hc (by decide)) (fun _ => ?_)
                    refine w_iconst rfl rfl ?_
                    refine w_zret rfl rfl (by decide) ?_
                    refine SX_n ?_ f48
                    rw [hres, ps_4, e92]
                    show ((if may = true ∧ td = false ∧ decide (t = 0) = true ∧ Y q92.1 = 123 then _ else if td = false ∧ Y q92.1 = 61 then _ else if Y q92.1 = 44 then _ else if Y q92.1 = 59 then _ else none : SR)).bind _ = _
                    rw [if_neg (show ¬ (may = true ∧ td = false ∧ decide (t = 0) = true ∧ Y q92.1 = 123) from by first | exact fun z => by rw [z.1] at c122; exact Bool.noConfusion c122 | exact fun z => by rw [z.2.1] at c126; exact Bool.noConfusion c126 | exact fun z => c131 (of_decide_eq_true z.2.2.1) | exact fun z => c147 z.2.2.2), if_pos ⟨c214, k220⟩, hq2, e244]
                    rfl
                  · skip
                    refine w_CV (as := [.int (iZ (dp + 1))]) (r := []) rfl rfl rfl rfl sh_234 (Nat.le_of_ble_eq_true rfl) (Nat.le_of_ble_eq_true rfl) (by omega) rfl (w_mono ((CE_all sc 2100).1 _ _ nn Y (((Y s, td) :: D2)) (q92.1 + 1) (M ++ (kd, a, 1 + c + 1) :: (3, t0, 0) :: N ++ (4, s, (F.length : Int) + 1) :: F) (dp + 1) hw47 hn0 (by omega) (by omega) (by omega) (by (try simp only [List.length_append, List.length_cons, List.length_nil, stF_len, stR_len]); omega) (by omega)) (fun v S2 h => h.2 _ e244)) ?_
                    rintro _ V49 ⟨rfl, g49, hw49⟩
                    show w_T _ _ 47 247 _ [.int (iZ 1)] _ _
                    have f49 := fr_trans f47 g49
                    have r244 := px_r hY 2100 0 (dp + 1) (q92.1 + 1) [] q244 (by omega) (by omega) e244
                    rw [if_neg (by decide)] at r244
                    have r244b := r244.2.2.2.1.resolve_left (by decide)
                    refine w_if_ne (pc2 := 252) (pc3 := 250) rfl (by decide) rfl ⟨by decide, by decide⟩ (fun _ => ?_) (fun hc => absurd hc (by decide))
                    refine w_aload_n rfl l0 rfl ?_
                    refine w_bipush rfl (by decide) rfl ?_
                    by_cases k255 : Y q244.1 = 44
                    · skip
                      refine w_CV (as := [.int (iZ 44)]) (r := []) rfl rfl rfl rfl sh_234 (Nat.le_of_ble_eq_true rfl) (Nat.le_of_ble_eq_true rfl) (by omega) rfl (c_tk1 (c := 44) (x := 44) hw49 (by decide) (by decide) (by decide) (by decide) k255 (by omega)) ?_
                      rintro _ V50 ⟨rfl, g50, hw50⟩
                      show w_T _ _ 47 258 _ [.int (iZ 1)] _ _
                      have f50 := fr_trans f49 g50
                      have kl255 := Y_lt hw49 (by decide) k255
                      refine w_if_ne (pc2 := 268) (pc3 := 261) rfl (by decide) rfl ⟨by decide, by decide⟩ (fun _ => ?_) (fun hc => absurd hc (by decide))
                      refine w_iinc rfl (congrArg x_k2 l5) (by decide) rfl ?_
                      refine w_goto (pc2 := 72) rfl (by decide) ?_
                      exact ih td (t + 1) t0 kd ((q244.1 + 1)) ((N ++ ((4, s, (F.length : Int) + 1) :: F ++ q244.2.1))) ((c + 1)) (((Y s, td) :: D2)) mm2 _ _ (by exact l0) (by exact l1) (by exact l2) (by exact l3) (by exact (congrArg x_k2 l4)) (by exact rfl) (by exact f50) (by rw [show 1 + (c + 1) = 1 + c + 1 by omega]; have q := hw50; simpa [List.append_assoc] using q) (by omega) (by omega) (by rw [List.length_cons]; omega) (by rw [hres, ps_4, e92]; show ((if may = true ∧ td = false ∧ decide (t = 0) = true ∧ Y q92.1 = 123 then _ else if td = false ∧ Y q92.1 = 61 then _ else if Y q92.1 = 44 then _ else if Y q92.1 = 59 then _ else none : SR)).bind _ = _; rw [if_neg (show ¬ (may = true ∧ td = false ∧ decide (t = 0) = true ∧ Y q92.1 = 123) from by first | exact fun z => by rw [z.1] at c122; exact Bool.noConfusion c122 | exact fun z => by rw [z.2.1] at c126; exact Bool.noConfusion c126 | exact fun z => c131 (of_decide_eq_true z.2.2.1) | exact fun z => c147 z.2.2.2), if_pos ⟨c214, k220⟩, hq2, e244]; show ((if Y q244.1 = 44 then _ else _ : SR)).bind _ = _; rw [if_pos k255]; rw [show decide (t + 1 = 0) = false from decide_eq_false (by omega)]; cases ps Y nn mm2 4 may td false dp (q244.1 + 1) ((Y s, td) :: D2) with | none => rfl | some r => (show some (r.1, (if r.2.2.2.2 = true then 8 else kd, a, 1 + (c + (1 + r.2.2.1))) :: (3, t0, 0) :: (N ++ (dnd q92.2.1 1 ++ q244.2.1 ++ r.2.1)), (1 : Int), r.2.2.2.1, false) = some (r.1, (if r.2.2.2.2 = true then 8 else kd, a, 1 + (c + 1 + r.2.2.1)) :: (3, t0, 0) :: (N ++ ((4, s, (F.length : Int) + 1) :: F ++ q244.2.1) ++ r.2.1), 1, r.2.2.2.1, false); rw [hd1, show c + 1 + r.2.2.1 = c + (1 + r.2.2.1) by omega]; simp [List.append_assoc])) (by omega) (by omega) (by omega) (by omega) (by (try simp only [List.length_append, List.length_cons, List.length_nil, stF_len, stR_len]); omega) (by intro z; omega) (by omega)
                    · skip
                      refine w_CV (as := [.int (iZ 44)]) (r := []) rfl rfl rfl rfl sh_234 (Nat.le_of_ble_eq_true rfl) (Nat.le_of_ble_eq_true rfl) (by omega) rfl (c_tk0 (c := 44) (x := 44) hw49 (by decide) (by decide) (by decide) (by decide) k255 (by omega)) ?_
                      rintro _ V51 ⟨rfl, g51, hw51⟩
                      show w_T _ _ 47 258 _ [.int (iZ 0)] _ _
                      have f51 := fr_trans f49 g51
                      refine w_if_ne (pc2 := 268) (pc3 := 261) rfl (by decide) rfl ⟨by decide, by decide⟩ (fun hc => absurd hc (by decide)) (fun _ => ?_)
                      refine w_aload_n rfl l0 rfl ?_
                      refine w_bipush rfl (by decide) rfl ?_
                      by_cases k264 : Y q244.1 = 59
                      · skip
                        refine w_CV (as := [.int (iZ 59)]) (r := []) rfl rfl rfl rfl sh_234 (Nat.le_of_ble_eq_true rfl) (Nat.le_of_ble_eq_true rfl) (by omega) rfl (c_tk1 (c := 59) (x := 59) hw51 (by decide) (by decide) (by decide) (by decide) k264 (by omega)) ?_
                        rintro _ V52 ⟨rfl, g52, hw52⟩
                        show w_T _ _ 47 267 _ [.int (iZ 1)] _ _
                        have f52 := fr_trans f51 g52
                        have kl264 := Y_lt hw51 (by decide) k264
                        refine w_zret rfl rfl (by decide) ?_
                        refine SX_s (q := (q244.1 + 1, (kd, a, 1 + (c + 1)) :: (3, t0, 0) :: (N ++ (dnd q92.2.1 1 ++ q244.2.1)), 1, ((Y s, td) :: D2), false)) ?_ f52 ?_
                        · rw [hres, ps_4, e92]
                          show ((if may = true ∧ td = false ∧ decide (t = 0) = true ∧ Y q92.1 = 123 then _ else if td = false ∧ Y q92.1 = 61 then _ else if Y q92.1 = 44 then _ else if Y q92.1 = 59 then _ else none : SR)).bind _ = _
                          rw [if_neg (show ¬ (may = true ∧ td = false ∧ decide (t = 0) = true ∧ Y q92.1 = 123) from by first | exact fun z => by rw [z.1] at c122; exact Bool.noConfusion c122 | exact fun z => by rw [z.2.1] at c126; exact Bool.noConfusion c126 | exact fun z => c131 (of_decide_eq_true z.2.2.1) | exact fun z => c147 z.2.2.2), if_pos ⟨c214, k220⟩, hq2, e244]
                          show ((if Y q244.1 = 44 then _ else if Y q244.1 = 59 then _ else none : SR)).bind _ = _
                          rw [if_neg k255, if_pos k264]
                          rfl
                        · have q := hw52
                          rw [hd1]
                          rw [show 1 + (c + 1) = 1 + c + 1 by omega]
                          simpa [List.append_assoc] using q
                      · skip
                        refine w_CV (as := [.int (iZ 59)]) (r := []) rfl rfl rfl rfl sh_234 (Nat.le_of_ble_eq_true rfl) (Nat.le_of_ble_eq_true rfl) (by omega) rfl (c_tk0 (c := 59) (x := 59) hw51 (by decide) (by decide) (by decide) (by decide) k264 (by omega)) ?_
                        rintro _ V53 ⟨rfl, g53, hw53⟩
                        show w_T _ _ 47 267 _ [.int (iZ 0)] _ _
                        have f53 := fr_trans f51 g53
                        refine w_zret rfl rfl (by decide) ?_
                        refine SX_n ?_ f53
                        rw [hres, ps_4, e92]
                        show ((if may = true ∧ td = false ∧ decide (t = 0) = true ∧ Y q92.1 = 123 then _ else if td = false ∧ Y q92.1 = 61 then _ else if Y q92.1 = 44 then _ else if Y q92.1 = 59 then _ else none : SR)).bind _ = _
                        rw [if_neg (show ¬ (may = true ∧ td = false ∧ decide (t = 0) = true ∧ Y q92.1 = 123) from by first | exact fun z => by rw [z.1] at c122; exact Bool.noConfusion c122 | exact fun z => by rw [z.2.1] at c126; exact Bool.noConfusion c126 | exact fun z => c131 (of_decide_eq_true z.2.2.1) | exact fun z => c147 z.2.2.2), if_pos ⟨c214, k220⟩, hq2, e244]
                        show ((if Y q244.1 = 44 then _ else if Y q244.1 = 59 then _ else none : SR)).bind _ = _
                        rw [if_neg k255, if_neg k264]
                        rfl
                · skip
                  refine w_CV (as := [.int (iZ 61)]) (r := []) rfl rfl rfl rfl sh_234 (Nat.le_of_ble_eq_true rfl) (Nat.le_of_ble_eq_true rfl) (by omega) rfl (c_tk0 (c := 61) (x := 61) hw6 (by decide) (by decide) (by decide) (by decide) k220 (by omega)) ?_
                  rintro _ V46 ⟨rfl, g46, hw46⟩
                  show w_T _ _ 47 223 _ [.int (iZ 0)] _ _
                  have f46 := fr_trans f6 g46
                  refine w_if_eq (pc2 := 252) (pc3 := 226) rfl (by decide) rfl ⟨by decide, by decide⟩ (fun _ => ?_) (fun hc => absurd hc (by decide))
                  refine w_aload_n rfl l0 rfl ?_
                  refine w_bipush rfl (by decide) rfl ?_
                  by_cases k255 : Y q92.1 = 44
                  · skip
                    refine w_CV (as := [.int (iZ 44)]) (r := []) rfl rfl rfl rfl sh_234 (Nat.le_of_ble_eq_true rfl) (Nat.le_of_ble_eq_true rfl) (by omega) rfl (c_tk1 (c := 44) (x := 44) hw46 (by decide) (by decide) (by decide) (by decide) k255 (by omega)) ?_
                    rintro _ V54 ⟨rfl, g54, hw54⟩
                    show w_T _ _ 47 258 _ [.int (iZ 1)] _ _
                    have f54 := fr_trans f46 g54
                    have kl255 := Y_lt hw46 (by decide) k255
                    refine w_if_ne (pc2 := 268) (pc3 := 261) rfl (by decide) rfl ⟨by decide, by decide⟩ (fun _ => ?_) (fun hc => absurd hc (by decide))
                    refine w_iinc rfl (congrArg x_k2 l5) (by decide) rfl ?_
                    refine w_goto (pc2 := 72) rfl (by decide) ?_
                    exact ih td (t + 1) t0 kd ((q92.1 + 1)) ((N ++ ((4, s, (F.length : Int)) :: F))) ((c + 1)) (((Y s, td) :: D2)) mm2 _ _ (by exact l0) (by exact l1) (by exact l2) (by exact l3) (by exact (congrArg x_k2 l4)) (by exact rfl) (by exact f54) (by rw [show 1 + (c + 1) = 1 + c + 1 by omega]; have q := hw54; simpa [List.append_assoc] using q) (by omega) (by omega) (by rw [List.length_cons]; omega) (by rw [hres, ps_4, e92]; show ((if may = true ∧ td = false ∧ decide (t = 0) = true ∧ Y q92.1 = 123 then _ else if td = false ∧ Y q92.1 = 61 then _ else if Y q92.1 = 44 then _ else if Y q92.1 = 59 then _ else none : SR)).bind _ = _; rw [if_neg (show ¬ (may = true ∧ td = false ∧ decide (t = 0) = true ∧ Y q92.1 = 123) from by first | exact fun z => by rw [z.1] at c122; exact Bool.noConfusion c122 | exact fun z => by rw [z.2.1] at c126; exact Bool.noConfusion c126 | exact fun z => c131 (of_decide_eq_true z.2.2.1) | exact fun z => c147 z.2.2.2), if_neg (show ¬ (td = false ∧ Y q92.1 = 61) from by first | exact fun z => k220 z.2 | exact fun z => by rw [z.1] at c214; exact Bool.noConfusion c214), if_pos k255, hq2]; rw [show decide (t + 1 = 0) = false from decide_eq_false (by omega)]; cases ps Y nn mm2 4 may td false dp (q92.1 + 1) ((Y s, td) :: D2) with | none => rfl | some r => (show some (r.1, (if r.2.2.2.2 = true then 8 else kd, a, 1 + (c + (1 + r.2.2.1))) :: (3, t0, 0) :: (N ++ (dnd q92.2.1 0 ++ r.2.1)), (1 : Int), r.2.2.2.1, false) = some (r.1, (if r.2.2.2.2 = true then 8 else kd, a, 1 + (c + 1 + r.2.2.1)) :: (3, t0, 0) :: (N ++ ((4, s, (F.length : Int)) :: F) ++ r.2.1), 1, r.2.2.2.1, false); rw [hd0, show c + 1 + r.2.2.1 = c + (1 + r.2.2.1) by omega]; simp [List.append_assoc])) (by omega) (by omega) (by omega) (by omega) (by (try simp only [List.length_append, List.length_cons, List.length_nil, stF_len, stR_len]); omega) (by intro z; omega) (by omega)
                  · skip
                    refine w_CV (as := [.int (iZ 44)]) (r := []) rfl rfl rfl rfl sh_234 (Nat.le_of_ble_eq_true rfl) (Nat.le_of_ble_eq_true rfl) (by omega) rfl (c_tk0 (c := 44) (x := 44) hw46 (by decide) (by decide) (by decide) (by decide) k255 (by omega)) ?_
                    rintro _ V55 ⟨rfl, g55, hw55⟩
                    show w_T _ _ 47 258 _ [.int (iZ 0)] _ _
                    have f55 := fr_trans f46 g55
                    refine w_if_ne (pc2 := 268) (pc3 := 261) rfl (by decide) rfl ⟨by decide, by decide⟩ (fun hc => absurd hc (by decide)) (fun _ => ?_)
                    refine w_aload_n rfl l0 rfl ?_
                    refine w_bipush rfl (by decide) rfl ?_
                    by_cases k264 : Y q92.1 = 59
                    · skip
                      refine w_CV (as := [.int (iZ 59)]) (r := []) rfl rfl rfl rfl sh_234 (Nat.le_of_ble_eq_true rfl) (Nat.le_of_ble_eq_true rfl) (by omega) rfl (c_tk1 (c := 59) (x := 59) hw55 (by decide) (by decide) (by decide) (by decide) k264 (by omega)) ?_
                      rintro _ V56 ⟨rfl, g56, hw56⟩
                      show w_T _ _ 47 267 _ [.int (iZ 1)] _ _
                      have f56 := fr_trans f55 g56
                      have kl264 := Y_lt hw55 (by decide) k264
                      refine w_zret rfl rfl (by decide) ?_
                      refine SX_s (q := (q92.1 + 1, (kd, a, 1 + (c + 1)) :: (3, t0, 0) :: (N ++ (dnd q92.2.1 0)), 1, ((Y s, td) :: D2), false)) ?_ f56 ?_
                      · rw [hres, ps_4, e92]
                        show ((if may = true ∧ td = false ∧ decide (t = 0) = true ∧ Y q92.1 = 123 then _ else if td = false ∧ Y q92.1 = 61 then _ else if Y q92.1 = 44 then _ else if Y q92.1 = 59 then _ else none : SR)).bind _ = _
                        rw [if_neg (show ¬ (may = true ∧ td = false ∧ decide (t = 0) = true ∧ Y q92.1 = 123) from by first | exact fun z => by rw [z.1] at c122; exact Bool.noConfusion c122 | exact fun z => by rw [z.2.1] at c126; exact Bool.noConfusion c126 | exact fun z => c131 (of_decide_eq_true z.2.2.1) | exact fun z => c147 z.2.2.2), if_neg (show ¬ (td = false ∧ Y q92.1 = 61) from by first | exact fun z => k220 z.2 | exact fun z => by rw [z.1] at c214; exact Bool.noConfusion c214), if_neg k255, if_pos k264, hq2]
                        rfl
                      · have q := hw56
                        rw [hd0]
                        rw [show 1 + (c + 1) = 1 + c + 1 by omega]
                        simpa [List.append_assoc] using q
                    · skip
                      refine w_CV (as := [.int (iZ 59)]) (r := []) rfl rfl rfl rfl sh_234 (Nat.le_of_ble_eq_true rfl) (Nat.le_of_ble_eq_true rfl) (by omega) rfl (c_tk0 (c := 59) (x := 59) hw55 (by decide) (by decide) (by decide) (by decide) k264 (by omega)) ?_
                      rintro _ V57 ⟨rfl, g57, hw57⟩
                      show w_T _ _ 47 267 _ [.int (iZ 0)] _ _
                      have f57 := fr_trans f55 g57
                      refine w_zret rfl rfl (by decide) ?_
                      refine SX_n ?_ f57
                      rw [hres, ps_4, e92]
                      show ((if may = true ∧ td = false ∧ decide (t = 0) = true ∧ Y q92.1 = 123 then _ else if td = false ∧ Y q92.1 = 61 then _ else if Y q92.1 = 44 then _ else if Y q92.1 = 59 then _ else none : SR)).bind _ = _
                      rw [if_neg (show ¬ (may = true ∧ td = false ∧ decide (t = 0) = true ∧ Y q92.1 = 123) from by first | exact fun z => by rw [z.1] at c122; exact Bool.noConfusion c122 | exact fun z => by rw [z.2.1] at c126; exact Bool.noConfusion c126 | exact fun z => c131 (of_decide_eq_true z.2.2.1) | exact fun z => c147 z.2.2.2), if_neg (show ¬ (td = false ∧ Y q92.1 = 61) from by first | exact fun z => k220 z.2 | exact fun z => by rw [z.1] at c214; exact Bool.noConfusion c214), if_neg k255, if_neg k264]
                      rfl
            · skip
              refine w_aload_n rfl l0 rfl ?_
              refine w_getR rfl rfl sh_234 rfl rfl ?_
              refine w_aload_n rfl l0 rfl ?_
              refine w_getI (z := q92.1) rfl rfl sh_234 rfl hw6.2.2.1 rfl ?_
              refine w_lald (z := Y q92.1) rfl sh_239 (by omega) (by omega) (by decide) (hw6.1.2.2.2.1 _ (by omega) (by omega)).1 rfl ?_
              refine w_ldc2 (v := 123) rfl rfl rfl ?_
              refine w_l_ne (pc2 := 154) (pc3 := 150) rfl rfl (by decide) rfl (fun c147 => ?_) (fun c147 => ?_)
              · skip
                refine w_iconst rfl rfl ?_
                refine w_istore rfl (by decide) rfl ?_
                refine w_iload rfl rfl rfl ?_
                refine w_if_eq (pc2 := 213) (pc3 := 162) rfl (by decide) rfl ⟨by decide, by decide⟩ (fun _ => ?_) (fun hc => absurd hc (by decide))
                refine w_iload_n rfl l3 rfl ?_
                refine w_b_ne (pc2 := 252) (pc3 := 217) rfl (by decide) rfl (fun c214 => ?_) (fun c214 => ?_)
                · skip
                  refine w_aload_n rfl l0 rfl ?_
                  refine w_bipush rfl (by decide) rfl ?_
                  by_cases k255 : Y q92.1 = 44
                  · skip
                    refine w_CV (as := [.int (iZ 44)]) (r := []) rfl rfl rfl rfl sh_234 (Nat.le_of_ble_eq_true rfl) (Nat.le_of_ble_eq_true rfl) (by omega) rfl (c_tk1 (c := 44) (x := 44) hw6 (by decide) (by decide) (by decide) (by decide) k255 (by omega)) ?_
                    rintro _ V58 ⟨rfl, g58, hw58⟩
                    show w_T _ _ 47 258 _ [.int (iZ 1)] _ _
                    have f58 := fr_trans f6 g58
                    have kl255 := Y_lt hw6 (by decide) k255
                    refine w_if_ne (pc2 := 268) (pc3 := 261) rfl (by decide) rfl ⟨by decide, by decide⟩ (fun _ => ?_) (fun hc => absurd hc (by decide))
                    refine w_iinc rfl (congrArg x_k2 l5) (by decide) rfl ?_
                    refine w_goto (pc2 := 72) rfl (by decide) ?_
                    exact ih td (t + 1) t0 kd ((q92.1 + 1)) ((N ++ ((4, s, (F.length : Int)) :: F))) ((c + 1)) (((Y s, td) :: D2)) mm2 _ _ (by exact l0) (by exact l1) (by exact l2) (by exact l3) (by exact (congrArg x_k2 l4)) (by exact rfl) (by exact f58) (by rw [show 1 + (c + 1) = 1 + c + 1 by omega]; have q := hw58; simpa [List.append_assoc] using q) (by omega) (by omega) (by rw [List.length_cons]; omega) (by rw [hres, ps_4, e92]; show ((if may = true ∧ td = false ∧ decide (t = 0) = true ∧ Y q92.1 = 123 then _ else if td = false ∧ Y q92.1 = 61 then _ else if Y q92.1 = 44 then _ else if Y q92.1 = 59 then _ else none : SR)).bind _ = _; rw [if_neg (show ¬ (may = true ∧ td = false ∧ decide (t = 0) = true ∧ Y q92.1 = 123) from by first | exact fun z => by rw [z.1] at c122; exact Bool.noConfusion c122 | exact fun z => by rw [z.2.1] at c126; exact Bool.noConfusion c126 | exact fun z => c131 (of_decide_eq_true z.2.2.1) | exact fun z => c147 z.2.2.2), if_neg (show ¬ (td = false ∧ Y q92.1 = 61) from by first | exact fun z => k220 z.2 | exact fun z => by rw [z.1] at c214; exact Bool.noConfusion c214), if_pos k255, hq2]; rw [show decide (t + 1 = 0) = false from decide_eq_false (by omega)]; cases ps Y nn mm2 4 may td false dp (q92.1 + 1) ((Y s, td) :: D2) with | none => rfl | some r => (show some (r.1, (if r.2.2.2.2 = true then 8 else kd, a, 1 + (c + (1 + r.2.2.1))) :: (3, t0, 0) :: (N ++ (dnd q92.2.1 0 ++ r.2.1)), (1 : Int), r.2.2.2.1, false) = some (r.1, (if r.2.2.2.2 = true then 8 else kd, a, 1 + (c + 1 + r.2.2.1)) :: (3, t0, 0) :: (N ++ ((4, s, (F.length : Int)) :: F) ++ r.2.1), 1, r.2.2.2.1, false); rw [hd0, show c + 1 + r.2.2.1 = c + (1 + r.2.2.1) by omega]; simp [List.append_assoc])) (by omega) (by omega) (by omega) (by omega) (by (try simp only [List.length_append, List.length_cons, List.length_nil, stF_len, stR_len]); omega) (by intro z; omega) (by omega)
                  · skip
                    refine w_CV (as := [.int (iZ 44)]) (r := []) rfl rfl rfl rfl sh_234 (Nat.le_of_ble_eq_true rfl) (Nat.le_of_ble_eq_true rfl) (by omega) rfl (c_tk0 (c := 44) (x := 44) hw6 (by decide) (by decide) (by decide) (by decide) k255 (by omega)) ?_
                    rintro _ V59 ⟨rfl, g59, hw59⟩
                    show w_T _ _ 47 258 _ [.int (iZ 0)] _ _
                    have f59 := fr_trans f6 g59
                    refine w_if_ne (pc2 := 268) (pc3 := 261) rfl (by decide) rfl ⟨by decide, by decide⟩ (fun hc => absurd hc (by decide)) (fun _ => ?_)
                    refine w_aload_n rfl l0 rfl ?_
                    refine w_bipush rfl (by decide) rfl ?_
                    by_cases k264 : Y q92.1 = 59
                    · skip
                      refine w_CV (as := [.int (iZ 59)]) (r := []) rfl rfl rfl rfl sh_234 (Nat.le_of_ble_eq_true rfl) (Nat.le_of_ble_eq_true rfl) (by omega) rfl (c_tk1 (c := 59) (x := 59) hw59 (by decide) (by decide) (by decide) (by decide) k264 (by omega)) ?_
                      rintro _ V60 ⟨rfl, g60, hw60⟩
                      show w_T _ _ 47 267 _ [.int (iZ 1)] _ _
                      have f60 := fr_trans f59 g60
                      have kl264 := Y_lt hw59 (by decide) k264
                      refine w_zret rfl rfl (by decide) ?_
                      refine SX_s (q := (q92.1 + 1, (kd, a, 1 + (c + 1)) :: (3, t0, 0) :: (N ++ (dnd q92.2.1 0)), 1, ((Y s, td) :: D2), false)) ?_ f60 ?_
                      · rw [hres, ps_4, e92]
                        show ((if may = true ∧ td = false ∧ decide (t = 0) = true ∧ Y q92.1 = 123 then _ else if td = false ∧ Y q92.1 = 61 then _ else if Y q92.1 = 44 then _ else if Y q92.1 = 59 then _ else none : SR)).bind _ = _
                        rw [if_neg (show ¬ (may = true ∧ td = false ∧ decide (t = 0) = true ∧ Y q92.1 = 123) from by first | exact fun z => by rw [z.1] at c122; exact Bool.noConfusion c122 | exact fun z => by rw [z.2.1] at c126; exact Bool.noConfusion c126 | exact fun z => c131 (of_decide_eq_true z.2.2.1) | exact fun z => c147 z.2.2.2), if_neg (show ¬ (td = false ∧ Y q92.1 = 61) from by first | exact fun z => k220 z.2 | exact fun z => by rw [z.1] at c214; exact Bool.noConfusion c214), if_neg k255, if_pos k264, hq2]
                        rfl
                      · have q := hw60
                        rw [hd0]
                        rw [show 1 + (c + 1) = 1 + c + 1 by omega]
                        simpa [List.append_assoc] using q
                    · skip
                      refine w_CV (as := [.int (iZ 59)]) (r := []) rfl rfl rfl rfl sh_234 (Nat.le_of_ble_eq_true rfl) (Nat.le_of_ble_eq_true rfl) (by omega) rfl (c_tk0 (c := 59) (x := 59) hw59 (by decide) (by decide) (by decide) (by decide) k264 (by omega)) ?_
                      rintro _ V61 ⟨rfl, g61, hw61⟩
                      show w_T _ _ 47 267 _ [.int (iZ 0)] _ _
                      have f61 := fr_trans f59 g61
                      refine w_zret rfl rfl (by decide) ?_
                      refine SX_n ?_ f61
                      rw [hres, ps_4, e92]
                      show ((if may = true ∧ td = false ∧ decide (t = 0) = true ∧ Y q92.1 = 123 then _ else if td = false ∧ Y q92.1 = 61 then _ else if Y q92.1 = 44 then _ else if Y q92.1 = 59 then _ else none : SR)).bind _ = _
                      rw [if_neg (show ¬ (may = true ∧ td = false ∧ decide (t = 0) = true ∧ Y q92.1 = 123) from by first | exact fun z => by rw [z.1] at c122; exact Bool.noConfusion c122 | exact fun z => by rw [z.2.1] at c126; exact Bool.noConfusion c126 | exact fun z => c131 (of_decide_eq_true z.2.2.1) | exact fun z => c147 z.2.2.2), if_neg (show ¬ (td = false ∧ Y q92.1 = 61) from by first | exact fun z => k220 z.2 | exact fun z => by rw [z.1] at c214; exact Bool.noConfusion c214), if_neg k255, if_neg k264]
                      rfl
                · skip
                  refine w_aload_n rfl l0 rfl ?_
                  refine w_bipush rfl (by decide) rfl ?_
                  by_cases k220 : Y q92.1 = 61
                  · skip
                    refine w_CV (as := [.int (iZ 61)]) (r := []) rfl rfl rfl rfl sh_234 (Nat.le_of_ble_eq_true rfl) (Nat.le_of_ble_eq_true rfl) (by omega) rfl (c_tk1 (c := 61) (x := 61) hw6 (by decide) (by decide) (by decide) (by decide) k220 (by omega)) ?_
                    rintro _ V62 ⟨rfl, g62, hw62⟩
                    show w_T _ _ 47 223 _ [.int (iZ 1)] _ _
                    have f62 := fr_trans f6 g62
                    have kl220 := Y_lt hw6 (by decide) k220
                    refine w_if_eq (pc2 := 252) (pc3 := 226) rfl (by decide) rfl ⟨by decide, by decide⟩ (fun hc => absurd hc (by decide)) (fun _ => ?_)
                    refine w_aload_n rfl l0 rfl ?_
                    refine w_getR rfl rfl sh_234 rfl rfl ?_
                    refine w_getR rfl rfl sh_235 rfl rfl ?_
                    refine w_iload rfl rfl rfl ?_
                    refine w_dup2 rfl rfl rfl rfl ?_
                    refine w_iald (z := (F.length : Int)) rfl sh_238 (by omega) (by omega) (by decide) (trep_g hw62.2.2.2.1).2.2 rfl ?_
                    refine w_iconst rfl rfl ?_
                    refine w_iadd rfl rfl ?_
                    refine w_iaS (f := sA V62 238) rfl sh_238 (by omega) (by omega) (by decide) rfl rfl ?_
                    have hw64 : PW ((w_A V62 238 (w_u (sA V62 238) (((M ++ (kd, a, 1 + c + 1) :: (3, t0, 0) :: N).length : Int)) (((F.length : Int)) + 1)))) nn Y ((Y s, td) :: D2) (q92.1 + 1) (M ++ (kd, a, 1 + c + 1) :: (3, t0, 0) :: N ++ (4, s, (F.length : Int) + 1) :: F) := by
                      exact PW_kid hw62
                    have f64 : fr (fun a => 234 ≤ a ∧ a ≤ 242) S ((w_A V62 238 (w_u (sA V62 238) (((M ++ (kd, a, 1 + c + 1) :: (3, t0, 0) :: N).length : Int)) (((F.length : Int)) + 1)))) := fr_A f62 (by omega)
                    generalize (w_A V62 238 (w_u (sA V62 238) (((M ++ (kd, a, 1 + c + 1) :: (3, t0, 0) :: N).length : Int)) (((F.length : Int)) + 1))) = V64 at hw64 f64 ⊢
                    refine w_aload_n rfl l0 rfl ?_
                    refine w_iload_n rfl l2 rfl ?_
                    refine w_iconst rfl rfl ?_
                    refine w_iadd rfl rfl ?_
                    rcases e244 : px Y (((Y s, td) :: D2)) nn 2100 0 (dp + 1) (q92.1 + 1) [] with _ | q244
                    · skip
                      refine w_CV (as := [.int (iZ (dp + 1))]) (r := []) rfl rfl rfl rfl sh_234 (Nat.le_of_ble_eq_true rfl) (Nat.le_of_ble_eq_true rfl) (by omega) rfl (w_mono ((CE_all sc 2100).1 _ _ nn Y (((Y s, td) :: D2)) (q92.1 + 1) (M ++ (kd, a, 1 + c + 1) :: (3, t0, 0) :: N ++ (4, s, (F.length : Int) + 1) :: F) (dp + 1) hw64 hn0 (by omega) (by omega) (by omega) (by (try simp only [List.length_append, List.length_cons, List.length_nil, stF_len, stR_len]); omega) (by omega)) (fun v S2 h => h.1 e244)) ?_
                      rintro _ V65 ⟨rfl, g65⟩
                      show w_T _ _ 47 247 _ [.int (iZ 0)] _ _
                      have f65 := fr_trans f64 g65
                      refine w_if_ne (pc2 := 252) (pc3 := 250) rfl (by decide) rfl ⟨by decide, by decide⟩ (fun hc => absurd hc (by decide)) (fun _ => ?_)
                      refine w_iconst rfl rfl ?_
                      refine w_zret rfl rfl (by decide) ?_
                      refine SX_n ?_ f65
                      rw [hres, ps_4, e92]
                      show ((if may = true ∧ td = false ∧ decide (t = 0) = true ∧ Y q92.1 = 123 then _ else if td = false ∧ Y q92.1 = 61 then _ else if Y q92.1 = 44 then _ else if Y q92.1 = 59 then _ else none : SR)).bind _ = _
                      rw [if_neg (show ¬ (may = true ∧ td = false ∧ decide (t = 0) = true ∧ Y q92.1 = 123) from by first | exact fun z => by rw [z.1] at c122; exact Bool.noConfusion c122 | exact fun z => by rw [z.2.1] at c126; exact Bool.noConfusion c126 | exact fun z => c131 (of_decide_eq_true z.2.2.1) | exact fun z => c147 z.2.2.2), if_pos ⟨c214, k220⟩, hq2, e244]
                      rfl
                    · skip
                      refine w_CV (as := [.int (iZ (dp + 1))]) (r := []) rfl rfl rfl rfl sh_234 (Nat.le_of_ble_eq_true rfl) (Nat.le_of_ble_eq_true rfl) (by omega) rfl (w_mono ((CE_all sc 2100).1 _ _ nn Y (((Y s, td) :: D2)) (q92.1 + 1) (M ++ (kd, a, 1 + c + 1) :: (3, t0, 0) :: N ++ (4, s, (F.length : Int) + 1) :: F) (dp + 1) hw64 hn0 (by omega) (by omega) (by omega) (by (try simp only [List.length_append, List.length_cons, List.length_nil, stF_len, stR_len]); omega) (by omega)) (fun v S2 h => h.2 _ e244)) ?_
                      rintro _ V66 ⟨rfl, g66, hw66⟩
                      show w_T _ _ 47 247 _ [.int (iZ 1)] _ _
                      have f66 := fr_trans f64 g66
                      have r244 := px_r hY 2100 0 (dp + 1) (q92.1 + 1) [] q244 (by omega) (by omega) e244
                      rw [if_neg (by decide)] at r244
                      have r244b := r244.2.2.2.1.resolve_left (by decide)
                      refine w_if_ne (pc2 := 252) (pc3 := 250) rfl (by decide) rfl ⟨by decide, by decide⟩ (fun _ => ?_) (fun hc => absurd hc (by decide))
                      refine w_aload_n rfl l0 rfl ?_
                      refine w_bipush rfl (by decide) rfl ?_
                      by_cases k255 : Y q244.1 = 44
                      · skip
                        refine w_CV (as := [.int (iZ 44)]) (r := []) rfl rfl rfl rfl sh_234 (Nat.le_of_ble_eq_true rfl) (Nat.le_of_ble_eq_true rfl) (by omega) rfl (c_tk1 (c := 44) (x := 44) hw66 (by decide) (by decide) (by decide) (by decide) k255 (by omega)) ?_
                        rintro _ V67 ⟨rfl, g67, hw67⟩
                        show w_T _ _ 47 258 _ [.int (iZ 1)] _ _
                        have f67 := fr_trans f66 g67
                        have kl255 := Y_lt hw66 (by decide) k255
                        refine w_if_ne (pc2 := 268) (pc3 := 261) rfl (by decide) rfl ⟨by decide, by decide⟩ (fun _ => ?_) (fun hc => absurd hc (by decide))
                        refine w_iinc rfl (congrArg x_k2 l5) (by decide) rfl ?_
                        refine w_goto (pc2 := 72) rfl (by decide) ?_
                        exact ih td (t + 1) t0 kd ((q244.1 + 1)) ((N ++ ((4, s, (F.length : Int) + 1) :: F ++ q244.2.1))) ((c + 1)) (((Y s, td) :: D2)) mm2 _ _ (by exact l0) (by exact l1) (by exact l2) (by exact l3) (by exact (congrArg x_k2 l4)) (by exact rfl) (by exact f67) (by rw [show 1 + (c + 1) = 1 + c + 1 by omega]; have q := hw67; simpa [List.append_assoc] using q) (by omega) (by omega) (by rw [List.length_cons]; omega) (by rw [hres, ps_4, e92]; show ((if may = true ∧ td = false ∧ decide (t = 0) = true ∧ Y q92.1 = 123 then _ else if td = false ∧ Y q92.1 = 61 then _ else if Y q92.1 = 44 then _ else if Y q92.1 = 59 then _ else none : SR)).bind _ = _; rw [if_neg (show ¬ (may = true ∧ td = false ∧ decide (t = 0) = true ∧ Y q92.1 = 123) from by first | exact fun z => by rw [z.1] at c122; exact Bool.noConfusion c122 | exact fun z => by rw [z.2.1] at c126; exact Bool.noConfusion c126 | exact fun z => c131 (of_decide_eq_true z.2.2.1) | exact fun z => c147 z.2.2.2), if_pos ⟨c214, k220⟩, hq2, e244]; show ((if Y q244.1 = 44 then _ else _ : SR)).bind _ = _; rw [if_pos k255]; rw [show decide (t + 1 = 0) = false from decide_eq_false (by omega)]; cases ps Y nn mm2 4 may td false dp (q244.1 + 1) ((Y s, td) :: D2) with | none => rfl | some r => (show some (r.1, (if r.2.2.2.2 = true then 8 else kd, a, 1 + (c + (1 + r.2.2.1))) :: (3, t0, 0) :: (N ++ (dnd q92.2.1 1 ++ q244.2.1 ++ r.2.1)), (1 : Int), r.2.2.2.1, false) = some (r.1, (if r.2.2.2.2 = true then 8 else kd, a, 1 + (c + 1 + r.2.2.1)) :: (3, t0, 0) :: (N ++ ((4, s, (F.length : Int) + 1) :: F ++ q244.2.1) ++ r.2.1), 1, r.2.2.2.1, false); rw [hd1, show c + 1 + r.2.2.1 = c + (1 + r.2.2.1) by omega]; simp [List.append_assoc])) (by omega) (by omega) (by omega) (by omega) (by (try simp only [List.length_append, List.length_cons, List.length_nil, stF_len, stR_len]); omega) (by intro z; omega) (by omega)
                      · skip
                        refine w_CV (as := [.int (iZ 44)]) (r := []) rfl rfl rfl rfl sh_234 (Nat.le_of_ble_eq_true rfl) (Nat.le_of_ble_eq_true rfl) (by omega) rfl (c_tk0 (c := 44) (x := 44) hw66 (by decide) (by decide) (by decide) (by decide) k255 (by omega)) ?_
                        rintro _ V68 ⟨rfl, g68, hw68⟩
                        show w_T _ _ 47 258 _ [.int (iZ 0)] _ _
                        have f68 := fr_trans f66 g68
                        refine w_if_ne (pc2 := 268) (pc3 := 261) rfl (by decide) rfl ⟨by decide, by decide⟩ (fun hc => absurd hc (by decide)) (fun _ => ?_)
                        refine w_aload_n rfl l0 rfl ?_
                        refine w_bipush rfl (by decide) rfl ?_
                        by_cases k264 : Y q244.1 = 59
                        · skip
                          refine w_CV (as := [.int (iZ 59)]) (r := []) rfl rfl rfl rfl sh_234 (Nat.le_of_ble_eq_true rfl) (Nat.le_of_ble_eq_true rfl) (by omega) rfl (c_tk1 (c := 59) (x := 59) hw68 (by decide) (by decide) (by decide) (by decide) k264 (by omega)) ?_
                          rintro _ V69 ⟨rfl, g69, hw69⟩
                          show w_T _ _ 47 267 _ [.int (iZ 1)] _ _
                          have f69 := fr_trans f68 g69
                          have kl264 := Y_lt hw68 (by decide) k264
                          refine w_zret rfl rfl (by decide) ?_
                          refine SX_s (q := (q244.1 + 1, (kd, a, 1 + (c + 1)) :: (3, t0, 0) :: (N ++ (dnd q92.2.1 1 ++ q244.2.1)), 1, ((Y s, td) :: D2), false)) ?_ f69 ?_
                          · rw [hres, ps_4, e92]
                            show ((if may = true ∧ td = false ∧ decide (t = 0) = true ∧ Y q92.1 = 123 then _ else if td = false ∧ Y q92.1 = 61 then _ else if Y q92.1 = 44 then _ else if Y q92.1 = 59 then _ else none : SR)).bind _ = _
                            rw [if_neg (show ¬ (may = true ∧ td = false ∧ decide (t = 0) = true ∧ Y q92.1 = 123) from by first | exact fun z => by rw [z.1] at c122; exact Bool.noConfusion c122 | exact fun z => by rw [z.2.1] at c126; exact Bool.noConfusion c126 | exact fun z => c131 (of_decide_eq_true z.2.2.1) | exact fun z => c147 z.2.2.2), if_pos ⟨c214, k220⟩, hq2, e244]
                            show ((if Y q244.1 = 44 then _ else if Y q244.1 = 59 then _ else none : SR)).bind _ = _
                            rw [if_neg k255, if_pos k264]
                            rfl
                          · have q := hw69
                            rw [hd1]
                            rw [show 1 + (c + 1) = 1 + c + 1 by omega]
                            simpa [List.append_assoc] using q
                        · skip
                          refine w_CV (as := [.int (iZ 59)]) (r := []) rfl rfl rfl rfl sh_234 (Nat.le_of_ble_eq_true rfl) (Nat.le_of_ble_eq_true rfl) (by omega) rfl (c_tk0 (c := 59) (x := 59) hw68 (by decide) (by decide) (by decide) (by decide) k264 (by omega)) ?_
                          rintro _ V70 ⟨rfl, g70, hw70⟩
                          show w_T _ _ 47 267 _ [.int (iZ 0)] _ _
                          have f70 := fr_trans f68 g70
                          refine w_zret rfl rfl (by decide) ?_
                          refine SX_n ?_ f70
                          rw [hres, ps_4, e92]
                          show ((if may = true ∧ td = false ∧ decide (t = 0) = true ∧ Y q92.1 = 123 then _ else if td = false ∧ Y q92.1 = 61 then _ else if Y q92.1 = 44 then _ else if Y q92.1 = 59 then _ else none : SR)).bind _ = _
                          rw [if_neg (show ¬ (may = true ∧ td = false ∧ decide (t = 0) = true ∧ Y q92.1 = 123) from by first | exact fun z => by rw [z.1] at c122; exact Bool.noConfusion c122 | exact fun z => by rw [z.2.1] at c126; exact Bool.noConfusion c126 | exact fun z => c131 (of_decide_eq_true z.2.2.1) | exact fun z => c147 z.2.2.2), if_pos ⟨c214, k220⟩, hq2, e244]
                          show ((if Y q244.1 = 44 then _ else if Y q244.1 = 59 then _ else none : SR)).bind _ = _
                          rw [if_neg k255, if_neg k264]
                          rfl
                  · skip
                    refine w_CV (as := [.int (iZ 61)]) (r := []) rfl rfl rfl rfl sh_234 (Nat.le_of_ble_eq_true rfl) (Nat.le_of_ble_eq_true rfl) (by omega) rfl (c_tk0 (c := 61) (x := 61) hw6 (by decide) (by decide) (by decide) (by decide) k220 (by omega)) ?_
                    rintro _ V63 ⟨rfl, g63, hw63⟩
                    show w_T _ _ 47 223 _ [.int (iZ 0)] _ _
                    have f63 := fr_trans f6 g63
                    refine w_if_eq (pc2 := 252) (pc3 := 226) rfl (by decide) rfl ⟨by decide, by decide⟩ (fun _ => ?_) (fun hc => absurd hc (by decide))
                    refine w_aload_n rfl l0 rfl ?_
                    refine w_bipush rfl (by decide) rfl ?_
                    by_cases k255 : Y q92.1 = 44
                    · skip
                      refine w_CV (as := [.int (iZ 44)]) (r := []) rfl rfl rfl rfl sh_234 (Nat.le_of_ble_eq_true rfl) (Nat.le_of_ble_eq_true rfl) (by omega) rfl (c_tk1 (c := 44) (x := 44) hw63 (by decide) (by decide) (by decide) (by decide) k255 (by omega)) ?_
                      rintro _ V71 ⟨rfl, g71, hw71⟩
                      show w_T _ _ 47 258 _ [.int (iZ 1)] _ _
                      have f71 := fr_trans f63 g71
                      have kl255 := Y_lt hw63 (by decide) k255
                      refine w_if_ne (pc2 := 268) (pc3 := 261) rfl (by decide) rfl ⟨by decide, by decide⟩ (fun _ => ?_) (fun hc => absurd hc (by decide))
                      refine w_iinc rfl (congrArg x_k2 l5) (by decide) rfl ?_
                      refine w_goto (pc2 := 72) rfl (by decide) ?_
                      exact ih td (t + 1) t0 kd ((q92.1 + 1)) ((N ++ ((4, s, (F.length : Int)) :: F))) ((c + 1)) (((Y s, td) :: D2)) mm2 _ _ (by exact l0) (by exact l1) (by exact l2) (by exact l3) (by exact (congrArg x_k2 l4)) (by exact rfl) (by exact f71) (by rw [show 1 + (c + 1) = 1 + c + 1 by omega]; have q := hw71; simpa [List.append_assoc] using q) (by omega) (by omega) (by rw [List.length_cons]; omega) (by rw [hres, ps_4, e92]; show ((if may = true ∧ td = false ∧ decide (t = 0) = true ∧ Y q92.1 = 123 then _ else if td = false ∧ Y q92.1 = 61 then _ else if Y q92.1 = 44 then _ else if Y q92.1 = 59 then _ else none : SR)).bind _ = _; rw [if_neg (show ¬ (may = true ∧ td = false ∧ decide (t = 0) = true ∧ Y q92.1 = 123) from by first | exact fun z => by rw [z.1] at c122; exact Bool.noConfusion c122 | exact fun z => by rw [z.2.1] at c126; exact Bool.noConfusion c126 | exact fun z => c131 (of_decide_eq_true z.2.2.1) | exact fun z => c147 z.2.2.2), if_neg (show ¬ (td = false ∧ Y q92.1 = 61) from by first | exact fun z => k220 z.2 | exact fun z => by rw [z.1] at c214; exact Bool.noConfusion c214), if_pos k255, hq2]; rw [show decide (t + 1 = 0) = false from decide_eq_false (by omega)]; cases ps Y nn mm2 4 may td false dp (q92.1 + 1) ((Y s, td) :: D2) with | none => rfl | some r => (show some (r.1, (if r.2.2.2.2 = true then 8 else kd, a, 1 + (c + (1 + r.2.2.1))) :: (3, t0, 0) :: (N ++ (dnd q92.2.1 0 ++ r.2.1)), (1 : Int), r.2.2.2.1, false) = some (r.1, (if r.2.2.2.2 = true then 8 else kd, a, 1 + (c + 1 + r.2.2.1)) :: (3, t0, 0) :: (N ++ ((4, s, (F.length : Int)) :: F) ++ r.2.1), 1, r.2.2.2.1, false); rw [hd0, show c + 1 + r.2.2.1 = c + (1 + r.2.2.1) by omega]; simp [List.append_assoc])) (by omega) (by omega) (by omega) (by omega) (by (try simp only [List.length_append, List.length_cons, List.length_nil, stF_len, stR_len]); omega) (by intro z; omega) (by omega)
                    · skip
                      refine w_CV (as := [.int (iZ 44)]) (r := []) rfl rfl rfl rfl sh_234 (Nat.le_of_ble_eq_true rfl) (Nat.le_of_ble_eq_true rfl) (by omega) rfl (c_tk0 (c := 44) (x := 44) hw63 (by decide) (by decide) (by decide) (by decide) k255 (by omega)) ?_
                      rintro _ V72 ⟨rfl, g72, hw72⟩
                      show w_T _ _ 47 258 _ [.int (iZ 0)] _ _
                      have f72 := fr_trans f63 g72
                      refine w_if_ne (pc2 := 268) (pc3 := 261) rfl (by decide) rfl ⟨by decide, by decide⟩ (fun hc => absurd hc (by decide)) (fun _ => ?_)
                      refine w_aload_n rfl l0 rfl ?_
                      refine w_bipush rfl (by decide) rfl ?_
                      by_cases k264 : Y q92.1 = 59
                      · skip
                        refine w_CV (as := [.int (iZ 59)]) (r := []) rfl rfl rfl rfl sh_234 (Nat.le_of_ble_eq_true rfl) (Nat.le_of_ble_eq_true rfl) (by omega) rfl (c_tk1 (c := 59) (x := 59) hw72 (by decide) (by decide) (by decide) (by decide) k264 (by omega)) ?_
                        rintro _ V73 ⟨rfl, g73, hw73⟩
                        show w_T _ _ 47 267 _ [.int (iZ 1)] _ _
                        have f73 := fr_trans f72 g73
                        have kl264 := Y_lt hw72 (by decide) k264
                        refine w_zret rfl rfl (by decide) ?_
                        refine SX_s (q := (q92.1 + 1, (kd, a, 1 + (c + 1)) :: (3, t0, 0) :: (N ++ (dnd q92.2.1 0)), 1, ((Y s, td) :: D2), false)) ?_ f73 ?_
                        · rw [hres, ps_4, e92]
                          show ((if may = true ∧ td = false ∧ decide (t = 0) = true ∧ Y q92.1 = 123 then _ else if td = false ∧ Y q92.1 = 61 then _ else if Y q92.1 = 44 then _ else if Y q92.1 = 59 then _ else none : SR)).bind _ = _
                          rw [if_neg (show ¬ (may = true ∧ td = false ∧ decide (t = 0) = true ∧ Y q92.1 = 123) from by first | exact fun z => by rw [z.1] at c122; exact Bool.noConfusion c122 | exact fun z => by rw [z.2.1] at c126; exact Bool.noConfusion c126 | exact fun z => c131 (of_decide_eq_true z.2.2.1) | exact fun z => c147 z.2.2.2), if_neg (show ¬ (td = false ∧ Y q92.1 = 61) from by first | exact fun z => k220 z.2 | exact fun z => by rw [z.1] at c214; exact Bool.noConfusion c214), if_neg k255, if_pos k264, hq2]
                          rfl
                        · have q := hw73
                          rw [hd0]
                          rw [show 1 + (c + 1) = 1 + c + 1 by omega]
                          simpa [List.append_assoc] using q
                      · skip
                        refine w_CV (as := [.int (iZ 59)]) (r := []) rfl rfl rfl rfl sh_234 (Nat.le_of_ble_eq_true rfl) (Nat.le_of_ble_eq_true rfl) (by omega) rfl (c_tk0 (c := 59) (x := 59) hw72 (by decide) (by decide) (by decide) (by decide) k264 (by omega)) ?_
                        rintro _ V74 ⟨rfl, g74, hw74⟩
                        show w_T _ _ 47 267 _ [.int (iZ 0)] _ _
                        have f74 := fr_trans f72 g74
                        refine w_zret rfl rfl (by decide) ?_
                        refine SX_n ?_ f74
                        rw [hres, ps_4, e92]
                        show ((if may = true ∧ td = false ∧ decide (t = 0) = true ∧ Y q92.1 = 123 then _ else if td = false ∧ Y q92.1 = 61 then _ else if Y q92.1 = 44 then _ else if Y q92.1 = 59 then _ else none : SR)).bind _ = _
                        rw [if_neg (show ¬ (may = true ∧ td = false ∧ decide (t = 0) = true ∧ Y q92.1 = 123) from by first | exact fun z => by rw [z.1] at c122; exact Bool.noConfusion c122 | exact fun z => by rw [z.2.1] at c126; exact Bool.noConfusion c126 | exact fun z => c131 (of_decide_eq_true z.2.2.1) | exact fun z => c147 z.2.2.2), if_neg (show ¬ (td = false ∧ Y q92.1 = 61) from by first | exact fun z => k220 z.2 | exact fun z => by rw [z.1] at c214; exact Bool.noConfusion c214), if_neg k255, if_neg k264]
                        rfl
              · skip
                refine w_iconst rfl rfl ?_
                refine w_goto (pc2 := 155) rfl (by decide) ?_
                refine w_istore rfl (by decide) rfl ?_
                refine w_iload rfl rfl rfl ?_
                refine w_if_eq (pc2 := 213) (pc3 := 162) rfl (by decide) rfl ⟨by decide, by decide⟩ (fun hc => absurd hc (by decide)) (fun _ => ?_)
                have hw75 : PW V6 nn Y ((Y s, td) :: D2) q92.1 (M ++ (kd, a, 1 + c + 1) :: ((3, t0, 0) :: (N ++ (4, s, (F.length : Int)) :: F))) := by
                  have q := hw6
                  simpa [List.append_assoc] using q
                have f75 : fr (fun a => 234 ≤ a ∧ a ≤ 242) S V6 := f6
                refine w_aload_n rfl l0 rfl ?_
                refine w_getR rfl rfl sh_234 rfl rfl ?_
                refine w_getR rfl rfl sh_235 rfl rfl ?_
                refine w_iload rfl l4 rfl ?_
                refine w_bipush rfl (by decide) rfl ?_
                refine w_iaS (f := sA V6 236) rfl sh_236 (by omega) (by omega) (by decide) rfl rfl ?_
                have hw76 : PW ((w_A V6 236 (w_u (sA V6 236) ((M.length : Int)) 8))) nn Y ((Y s, td) :: D2) q92.1 (M ++ (8, a, 1 + c + 1) :: ((3, t0, 0) :: (N ++ (4, s, (F.length : Int)) :: F))) := by
                  exact PW_knd hw75
                have f76 : fr (fun a => 234 ≤ a ∧ a ≤ 242) S ((w_A V6 236 (w_u (sA V6 236) ((M.length : Int)) 8))) := fr_A f75 (by omega)
                generalize (w_A V6 236 (w_u (sA V6 236) ((M.length : Int)) 8)) = V76 at hw76 f76 ⊢
                refine w_aload_n rfl l0 rfl ?_
                refine w_getR rfl rfl sh_234 rfl rfl ?_
                refine w_getR rfl rfl sh_235 rfl rfl ?_
                refine w_iload rfl l4 rfl ?_
                refine w_dup2 rfl rfl rfl rfl ?_
                refine w_iald (z := 1 + c + 1) rfl sh_238 (by omega) (by omega) (by decide) (trep_g hw76.2.2.2.1).2.2 rfl ?_
                refine w_iconst rfl rfl ?_
                refine w_iadd rfl rfl ?_
                refine w_iaS (f := sA V76 238) rfl sh_238 (by omega) (by omega) (by decide) rfl rfl ?_
                have hw77 : PW ((w_A V76 238 (w_u (sA V76 238) ((M.length : Int)) (1 + c + 1 + 1)))) nn Y ((Y s, td) :: D2) q92.1 (M ++ (8, a, 1 + c + 1 + 1) :: ((3, t0, 0) :: (N ++ (4, s, (F.length : Int)) :: F))) := by
                  exact PW_kid hw76
                have f77 : fr (fun a => 234 ≤ a ∧ a ≤ 242) S ((w_A V76 238 (w_u (sA V76 238) ((M.length : Int)) (1 + c + 1 + 1)))) := fr_A f76 (by omega)
                generalize (w_A V76 238 (w_u (sA V76 238) ((M.length : Int)) (1 + c + 1 + 1))) = V77 at hw77 f77 ⊢
                have hw78 : PW V77 nn Y ((Y s, td) :: D2) q92.1 (M ++ (8, a, 1 + c + 1 + 1) :: (3, t0, 0) :: N ++ (4, s, (F.length : Int)) :: F) := by
                  have q := hw77
                  simpa [List.append_assoc] using q
                have f78 : fr (fun a => 234 ≤ a ∧ a ≤ 242) S V77 := f77
                refine w_aload_n rfl l0 rfl ?_
                refine w_iload rfl rfl rfl ?_
                rw [show ((M ++ (kd, a, 1 + c + 1) :: (3, t0, 0) :: N).length : Int) = ((M ++ (8, a, 1 + c + 1 + 1) :: (3, t0, 0) :: N).length : Int) by (try simp only [List.length_append, List.length_cons, List.length_nil, stF_len, stR_len]); first | done | omega]
                refine w_CV (as := [.int (iZ (((M ++ (8, a, 1 + c + 1 + 1) :: (3, t0, 0) :: N).length : Int)))]) (r := []) rfl rfl rfl rfl sh_234 (Nat.le_of_ble_eq_true rfl) (Nat.le_of_ble_eq_true rfl) (by omega) rfl (c_isf (M := M ++ (8, a, 1 + c + 1 + 1) :: (3, t0, 0) :: N) (F := F) (s := s) (c := (F.length : Int)) hw78 (by omega) (by omega) (by (try simp only [List.length_append, List.length_cons, List.length_nil, stF_len, stR_len]); omega) ⟨hF0, hF1⟩ (by omega)) ?_
                rintro _ _ ⟨rfl, hS⟩
                rw [hS]
                show w_T _ _ 47 194 _ [.int (iZ (zB (decide (0 < (F.length : Int) ∧ (ndg F 0).1 = 6))))] _ _
                refine w_p_eq (pc2 := 211) (pc3 := 197) rfl (by decide) rfl (fun c194 => ?_) (fun c194 => ?_)
                · skip
                  refine w_iconst rfl rfl ?_
                  refine w_zret rfl rfl (by decide) ?_
                  refine SX_n ?_ f78
                  rw [hres, ps_4, e92]
                  show ((if may = true ∧ td = false ∧ decide (t = 0) = true ∧ Y q92.1 = 123 then _ else if td = false ∧ Y q92.1 = 61 then _ else if Y q92.1 = 44 then _ else if Y q92.1 = 59 then _ else none : SR)).bind _ = _
                  first
                    | (rw [if_pos ⟨c122, c126, decide_eq_true c131, c147⟩, if_neg (by rw [hisf, decide_eq_false c194]; decide)]; rfl)
                    | (rw [if_pos ⟨c122, c126, decide_eq_true c131, c147⟩, if_pos (by rw [hisf]; exact decide_eq_true c194), hq2, e201]; rfl)
                · skip
                  have htg := r92.2.2.2.2.2.2.2.2 (by rw [hisf]; exact decide_eq_true c194)
                  rw [hq1, List.length_cons] at htg
                  have hN0 : N.length = 0 := by rw [hN2 c131]; rfl
                  refine w_aload_n rfl l0 rfl ?_
                  refine w_iload_n rfl l2 rfl ?_
                  refine w_iconst rfl rfl ?_
                  refine w_iadd rfl rfl ?_
                  rcases e201 : ps Y nn mm2 0 false false false (dp + 1) (q92.1) ((Y s, td) :: D2) with _ | q201
                  · skip
                    refine w_CV (as := [.int (iZ (dp + 1))]) (r := []) rfl rfl rfl rfl sh_234 (Nat.le_of_ble_eq_true rfl) (Nat.le_of_ble_eq_true rfl) (by omega) rfl (w_mono (Hk mm2 (by omega) _ _ nn Y ((Y s, td) :: D2) (q92.1) (M ++ (8, a, 1 + c + 1 + 1) :: (3, t0, 0) :: N ++ (4, s, (F.length : Int)) :: F) (dp + 1) hw78 hn0 (by omega) (by omega) (by omega) (by (try simp only [List.length_append, List.length_cons, List.length_nil, stF_len, stR_len]); omega) (by rw [List.length_cons]; omega) (by omega)) (fun v S2 h => h.1 e201)) ?_
                    rintro _ V79 ⟨rfl, g79⟩
                    show w_T _ _ 47 204 _ [.int (iZ 0)] _ _
                    have f79 := fr_trans f78 g79
                    refine w_if_eq (pc2 := 211) (pc3 := 207) rfl (by decide) rfl ⟨by decide, by decide⟩ (fun _ => ?_) (fun hc => absurd hc (by decide))
                    refine w_iconst rfl rfl ?_
                    refine w_zret rfl rfl (by decide) ?_
                    refine SX_n ?_ f79
                    rw [hres, ps_4, e92]
                    show ((if may = true ∧ td = false ∧ decide (t = 0) = true ∧ Y q92.1 = 123 then _ else if td = false ∧ Y q92.1 = 61 then _ else if Y q92.1 = 44 then _ else if Y q92.1 = 59 then _ else none : SR)).bind _ = _
                    first
                      | (rw [if_pos ⟨c122, c126, decide_eq_true c131, c147⟩, if_neg (by rw [hisf, decide_eq_false c194]; decide)]; rfl)
                      | (rw [if_pos ⟨c122, c126, decide_eq_true c131, c147⟩, if_pos (by rw [hisf]; exact decide_eq_true c194), hq2, e201]; rfl)
                  · skip
                    refine w_CV (as := [.int (iZ (dp + 1))]) (r := []) rfl rfl rfl rfl sh_234 (Nat.le_of_ble_eq_true rfl) (Nat.le_of_ble_eq_true rfl) (by omega) rfl (w_mono (Hk mm2 (by omega) _ _ nn Y ((Y s, td) :: D2) (q92.1) (M ++ (8, a, 1 + c + 1 + 1) :: (3, t0, 0) :: N ++ (4, s, (F.length : Int)) :: F) (dp + 1) hw78 hn0 (by omega) (by omega) (by omega) (by (try simp only [List.length_append, List.length_cons, List.length_nil, stF_len, stR_len]); omega) (by rw [List.length_cons]; omega) (by omega)) (fun v S2 h => h.2 _ e201)) ?_
                    rintro _ V80 ⟨rfl, g80, hw80⟩
                    show w_T _ _ 47 204 _ [.int (iZ 1)] _ _
                    have f80 := fr_trans f78 g80
                    refine w_if_eq (pc2 := 211) (pc3 := 207) rfl (by decide) rfl ⟨by decide, by decide⟩ (fun hc => absurd hc (by decide)) (fun _ => ?_)
                    refine w_iconst rfl rfl ?_
                    refine w_goto (pc2 := 212) rfl (by decide) ?_
                    refine w_zret rfl rfl (by decide) ?_
                    refine SX_s (q := (q201.1, (8, a, 1 + (c + 2)) :: (3, t0, 0) :: (N ++ (dnd q92.2.1 0 ++ q201.2.1)), 1, q201.2.2.2.1, false)) ?_ f80 ?_
                    · rw [hres, ps_4, e92]
                      show ((if may = true ∧ td = false ∧ decide (t = 0) = true ∧ Y q92.1 = 123 then _ else if td = false ∧ Y q92.1 = 61 then _ else if Y q92.1 = 44 then _ else if Y q92.1 = 59 then _ else none : SR)).bind _ = _
                      rw [if_pos ⟨c122, c126, decide_eq_true c131, c147⟩, if_pos (by rw [hisf]; exact decide_eq_true c194), hq2, e201]
                      rfl
                    · have q := hw80
                      rw [hd0]
                      rw [show 1 + (c + 2) = 1 + c + 1 + 1 by omega]
                      simpa [List.append_assoc] using q
theorem c_dec {sc : x_S} {d : Nat} {S : w_S} {nn : Int} {Y : Int → Int64} {D : List Dcl} {a : Int} {M : List Nd} {dp : Int} {may : Bool} {m : Nat} (Hk : ∀ m2, m2 < m → CK sc m2) (hw : PW S nn Y D a M) (hn0 : 0 < nn) (hdp : 0 ≤ dp) (hdp2 : dp ≤ 12) (hfu : 10 * (nn + 1 - a) + 5 ≤ (m : Int)) (hrm : (M.length : Int) + (nn - a) + zB may ≤ 145) (hDa : (D.length : Int) ≤ a) (hdd : 16 * (13 - dp) + 68 ≤ (d : Int)) (hd : 0 ≤ d) : w_T sc d 47 0 (x_en 0 [.ref 234, .int (iZ (zB may)), .int (iZ dp)]) [] S (SX S nn Y M (ps Y nn m 3 may false false dp a D)) := by
  have hnn := hw.1.1
  have hn1 := hw.1.2.1
  have ha0 := hw.2.2.2.2.1
  have ha1 := hw.2.2.2.2.2
  have f0 : fr (fun a => 234 ≤ a ∧ a ≤ 242) S S := fr_refl _ _
  have hY : ∀ k : Int, nn ≤ k → Y k = 0 := hw.1.2.2.2.2.2
  have hwkr := wk_r (Y a)
  have hmr : 0 ≤ zB may ∧ zB may ≤ 1 := by cases may <;> decide
  obtain ⟨m2, rfl⟩ := fuel1 hfu (by omega)
  refine w_aload_n rfl rfl rfl ?_
  refine w_getR rfl rfl sh_234 rfl rfl ?_
  refine w_aload_n rfl rfl rfl ?_
  refine w_getI (z := a) rfl rfl sh_234 rfl hw.2.2.1 rfl ?_
  refine w_iald (z := wk (Y a)) rfl sh_240 (by omega) (by omega) (by decide) (hw.1.2.2.2.1 _ (by omega) (by omega)).2 rfl ?_
  refine w_iconst rfl rfl ?_
  refine w_ic_ne (pc2 := 17) (pc3 := 13) rfl (by decide) rfl ⟨by omega, by omega⟩ ⟨by decide, by decide⟩ (fun c10 => ?_) (fun c10 => ?_)
  · skip
    refine w_iconst rfl rfl ?_
    refine w_istore_n rfl (by decide) rfl ?_
    refine w_aload_n rfl rfl rfl ?_
    refine w_getR rfl rfl sh_234 rfl rfl ?_
    refine w_iload_n rfl rfl rfl ?_
    refine w_if_eq (pc2 := 31) (pc3 := 27) rfl (by decide) rfl ⟨by decide, by decide⟩ (fun _ => ?_) (fun hc => absurd hc (by decide))
    refine w_iconst rfl rfl ?_
    refine w_aload_n rfl rfl rfl ?_
    refine w_getI (z := a) rfl rfl sh_234 rfl hw.2.2.1 rfl ?_
    refine w_iconst rfl rfl ?_
    refine w_CV (as := [.int (iZ 1), .int (iZ a), .int (iZ 1)]) (r := []) rfl rfl rfl rfl sh_235 (Nat.le_of_ble_eq_true rfl) (Nat.le_of_ble_eq_true rfl) (by omega) rfl (c_tadd (M := M) hw.2.2.2.1 (by (try simp only [List.length_append, List.length_cons, List.length_nil, stF_len, stR_len]); omega) (by omega)) ?_
    rintro _ V81 ⟨rfl, g81, ht81⟩
    show w_T _ _ 47 40 _ [.int (iZ ((M.length : Int)))] _ _
    have hw81 := PW_tree hw g81 ht81
    have f81 := fr_trans f0 (fr_mono g81 (fun a h => by omega))
    refine w_istore rfl (by decide) rfl ?_
    refine w_aload_n rfl rfl rfl ?_
    refine w_dup rfl rfl rfl ?_
    refine w_getI (z := a) rfl rfl sh_234 rfl hw81.2.2.1 rfl ?_
    refine w_iload_n rfl rfl rfl ?_
    refine w_if_eq (pc2 := 55) (pc3 := 51) rfl (by decide) rfl ⟨by decide, by decide⟩ (fun _ => ?_) (fun hc => absurd hc (by decide))
    refine w_iconst rfl rfl ?_
    refine w_iadd rfl rfl ?_
    refine w_putf rfl rfl sh_234 rfl rfl (by decide) rfl ?_
    have hw82 : PW ((w_v V81 234 4 (a + 0))) nn Y D a (M ++ [(1, a, 1)]) := by
      have q := (PW_at hw81 (b := a + 0) (by omega) (by omega))
      simpa using q
    have f82 : fr (fun a => 234 ≤ a ∧ a ≤ 242) S ((w_v V81 234 4 (a + 0))) := (fr_v f81 (by omega))
    generalize (w_v V81 234 4 (a + 0)) = V82 at hw82 f82 ⊢
    refine w_aload_n rfl rfl rfl ?_
    rcases Bool.eq_false_or_eq_true (isT D (Y a)) with k61 | k61
    · skip
      refine w_CV (as := []) (r := []) rfl rfl rfl rfl sh_234 (Nat.le_of_ble_eq_true rfl) (Nat.le_of_ble_eq_true rfl) (by omega) rfl (c_ty1 hw82 (by (try simp only [List.length_append, List.length_cons, List.length_nil, stF_len, stR_len]); omega) k61 (by omega)) ?_
      rintro _ V83 ⟨rfl, g83, hw83⟩
      show w_T _ _ 47 64 _ [.int (iZ 1)] _ _
      have f83 := fr_trans f82 g83
      have kl61 := hw83.2.2.2.2.2
      refine w_if_ne (pc2 := 69) (pc3 := 67) rfl (by decide) rfl ⟨by decide, by decide⟩ (fun _ => ?_) (fun hc => absurd hc (by decide))
      refine w_iconst rfl rfl ?_
      refine w_istore rfl (by decide) rfl ?_
      exact (c_dec_c Hk hw hn0 hdp hdp2 hfu hrm hDa hdd hd _) false 0 a 1 ((a + 1)) ([]) 0 D m2 _ _ rfl rfl rfl rfl rfl rfl (by exact f83) (by have q := hw83; simpa [List.append_assoc] using q) (by omega) (by omega) (by omega) (by rw [ps_3, if_neg c10, if_pos k61, decide_eq_false c10, show decide ((0 : Int) = 0) = true from rfl]; have hb : ∀ o : SR, (o.bind (fun q => some (q.1, (if q.2.2.2.2 = true then 8 else if wk (Y a) = 2 then 2 else 1, a, 1 + q.2.2.1) :: (3, a, 0) :: q.2.1, 1, q.2.2.2.1, false)) : SR) = o.bind (fun r => some (r.1, (if r.2.2.2.2 = true then 8 else 1, a, 1 + (0 + r.2.2.1)) :: (3, a, 0) :: ([] ++ r.2.1), 1, r.2.2.2.1, false)) := (fun o => (by cases o with | none => rfl | some r => (show some (r.1, (if r.2.2.2.2 = true then 8 else if wk (Y a) = 2 then 2 else 1, a, 1 + r.2.2.1) :: (3, a, 0) :: r.2.1, (1 : Int), r.2.2.2.1, false) = some (r.1, (if r.2.2.2.2 = true then 8 else 1, a, 1 + (0 + r.2.2.1)) :: (3, a, 0) :: ([] ++ r.2.1), 1, r.2.2.2.1, false); rw [if_neg c10, Int.zero_add, List.nil_append]))); exact hb _) (by omega) (by omega) (by omega) (by omega) (by show ((0 : Nat) : Int) ≤ _; omega) (by intro _; rfl) (Nat.lt_succ_self _)
    · skip
      refine w_CV (as := []) (r := []) rfl rfl rfl rfl sh_234 (Nat.le_of_ble_eq_true rfl) (Nat.le_of_ble_eq_true rfl) (by omega) rfl (c_ty0 hw82 (by (try simp only [List.length_append, List.length_cons, List.length_nil, stF_len, stR_len]); omega) k61 (by omega)) ?_
      rintro _ V84 ⟨rfl, g84⟩
      show w_T _ _ 47 64 _ [.int (iZ 0)] _ _
      have f84 := fr_trans f82 g84
      refine w_if_ne (pc2 := 69) (pc3 := 67) rfl (by decide) rfl ⟨by decide, by decide⟩ (fun hc => absurd hc (by decide)) (fun _ => ?_)
      refine w_iconst rfl rfl ?_
      refine w_zret rfl rfl (by decide) ?_
      refine SX_n ?_ f84
      rw [ps_3]
      first
        | (rw [if_pos c10, if_neg (by rw [k61]; decide)]; done)
        | (rw [if_neg c10, if_neg (by rw [k61]; decide)]; done)
  · skip
    have hal := wk_ne hY (by decide) c10
    refine w_iconst rfl rfl ?_
    refine w_goto (pc2 := 18) rfl (by decide) ?_
    refine w_istore_n rfl (by decide) rfl ?_
    refine w_aload_n rfl rfl rfl ?_
    refine w_getR rfl rfl sh_234 rfl rfl ?_
    refine w_iload_n rfl rfl rfl ?_
    refine w_if_eq (pc2 := 31) (pc3 := 27) rfl (by decide) rfl ⟨by decide, by decide⟩ (fun hc => absurd hc (by decide)) (fun _ => ?_)
    refine w_iconst rfl rfl ?_
    refine w_goto (pc2 := 32) rfl (by decide) ?_
    refine w_aload_n rfl rfl rfl ?_
    refine w_getI (z := a) rfl rfl sh_234 rfl hw.2.2.1 rfl ?_
    refine w_iconst rfl rfl ?_
    refine w_CV (as := [.int (iZ 2), .int (iZ a), .int (iZ 1)]) (r := []) rfl rfl rfl rfl sh_235 (Nat.le_of_ble_eq_true rfl) (Nat.le_of_ble_eq_true rfl) (by omega) rfl (c_tadd (M := M) hw.2.2.2.1 (by (try simp only [List.length_append, List.length_cons, List.length_nil, stF_len, stR_len]); omega) (by omega)) ?_
    rintro _ V85 ⟨rfl, g85, ht85⟩
    show w_T _ _ 47 40 _ [.int (iZ ((M.length : Int)))] _ _
    have hw85 := PW_tree hw g85 ht85
    have f85 := fr_trans f0 (fr_mono g85 (fun a h => by omega))
    refine w_istore rfl (by decide) rfl ?_
    refine w_aload_n rfl rfl rfl ?_
    refine w_dup rfl rfl rfl ?_
    refine w_getI (z := a) rfl rfl sh_234 rfl hw85.2.2.1 rfl ?_
    refine w_iload_n rfl rfl rfl ?_
    refine w_if_eq (pc2 := 55) (pc3 := 51) rfl (by decide) rfl ⟨by decide, by decide⟩ (fun hc => absurd hc (by decide)) (fun _ => ?_)
    refine w_iconst rfl rfl ?_
    refine w_goto (pc2 := 56) rfl (by decide) ?_
    refine w_iadd rfl rfl ?_
    refine w_putf rfl rfl sh_234 rfl rfl (by decide) rfl ?_
    have hw86 : PW ((w_v V85 234 4 (a + 1))) nn Y D (a + 1) (M ++ [(2, a, 1)]) := by
      have q := (PW_at hw85 (b := a + 1) (by omega) (by omega))
      simpa using q
    have f86 : fr (fun a => 234 ≤ a ∧ a ≤ 242) S ((w_v V85 234 4 (a + 1))) := (fr_v f85 (by omega))
    generalize (w_v V85 234 4 (a + 1)) = V86 at hw86 f86 ⊢
    refine w_aload_n rfl rfl rfl ?_
    rcases Bool.eq_false_or_eq_true (isT D (Y (a + 1))) with k61 | k61
    · skip
      refine w_CV (as := []) (r := []) rfl rfl rfl rfl sh_234 (Nat.le_of_ble_eq_true rfl) (Nat.le_of_ble_eq_true rfl) (by omega) rfl (c_ty1 hw86 (by (try simp only [List.length_append, List.length_cons, List.length_nil, stF_len, stR_len]); omega) k61 (by omega)) ?_
      rintro _ V87 ⟨rfl, g87, hw87⟩
      show w_T _ _ 47 64 _ [.int (iZ 1)] _ _
      have f87 := fr_trans f86 g87
      have kl61 := hw87.2.2.2.2.2
      refine w_if_ne (pc2 := 69) (pc3 := 67) rfl (by decide) rfl ⟨by decide, by decide⟩ (fun _ => ?_) (fun hc => absurd hc (by decide))
      refine w_iconst rfl rfl ?_
      refine w_istore rfl (by decide) rfl ?_
      exact (c_dec_c Hk hw hn0 hdp hdp2 hfu hrm hDa hdd hd _) true 0 ((a + 1)) 2 ((a + 1 + 1)) ([]) 0 D m2 _ _ rfl rfl rfl rfl rfl rfl (by exact f87) (by have q := hw87; simpa [List.append_assoc] using q) (by omega) (by omega) (by omega) (by rw [ps_3, if_pos c10, if_pos k61, decide_eq_true c10, show decide ((0 : Int) = 0) = true from rfl]; have hb : ∀ o : SR, (o.bind (fun q => some (q.1, (if q.2.2.2.2 = true then 8 else if wk (Y a) = 2 then 2 else 1, a, 1 + q.2.2.1) :: (3, a + 1, 0) :: q.2.1, 1, q.2.2.2.1, false)) : SR) = o.bind (fun r => some (r.1, (if r.2.2.2.2 = true then 8 else 2, a, 1 + (0 + r.2.2.1)) :: (3, a + 1, 0) :: ([] ++ r.2.1), 1, r.2.2.2.1, false)) := (fun o => (by cases o with | none => rfl | some r => (show some (r.1, (if r.2.2.2.2 = true then 8 else if wk (Y a) = 2 then 2 else 1, a, 1 + r.2.2.1) :: (3, a + 1, 0) :: r.2.1, (1 : Int), r.2.2.2.1, false) = some (r.1, (if r.2.2.2.2 = true then 8 else 2, a, 1 + (0 + r.2.2.1)) :: (3, a + 1, 0) :: ([] ++ r.2.1), 1, r.2.2.2.1, false); rw [if_pos c10, Int.zero_add, List.nil_append]))); exact hb _) (by omega) (by omega) (by omega) (by omega) (by show ((0 : Nat) : Int) ≤ _; omega) (by intro _; rfl) (Nat.lt_succ_self _)
    · skip
      refine w_CV (as := []) (r := []) rfl rfl rfl rfl sh_234 (Nat.le_of_ble_eq_true rfl) (Nat.le_of_ble_eq_true rfl) (by omega) rfl (c_ty0 hw86 (by (try simp only [List.length_append, List.length_cons, List.length_nil, stF_len, stR_len]); omega) k61 (by omega)) ?_
      rintro _ V88 ⟨rfl, g88⟩
      show w_T _ _ 47 64 _ [.int (iZ 0)] _ _
      have f88 := fr_trans f86 g88
      refine w_if_ne (pc2 := 69) (pc3 := 67) rfl (by decide) rfl ⟨by decide, by decide⟩ (fun hc => absurd hc (by decide)) (fun _ => ?_)
      refine w_iconst rfl rfl ?_
      refine w_zret rfl rfl (by decide) ?_
      refine SX_n ?_ f88
      rw [ps_3]
      first
        | (rw [if_pos c10, if_neg (by rw [k61]; decide)]; done)
        | (rw [if_neg c10, if_neg (by rw [k61]; decide)]; done)
theorem CKC_all (sc : x_S) : ∀ m : Nat, CK sc m ∧ CC sc m := fun m => by
  induction m using Nat.strongRecOn with
  | ind m ih =>
    exact ⟨fun d S nn Y D a M dp hw hn0 hdp hdp2 hfu hrm hDa hdd => c_blk (fun m2 h2 => (ih m2 h2).2) (fun m2 h2 => (ih m2 h2).1) hw hn0 hdp hdp2 hfu hrm hDa (by omega) (Nat.zero_le _), fun d S nn Y D a M dp may hw hn0 hdp hdp2 hfu hrm hDa hdd => c_dec (fun m2 h2 => (ih m2 h2).1) hw hn0 hdp hdp2 hfu hrm hDa (by omega) (Nat.zero_le _)⟩
